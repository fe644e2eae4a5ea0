section K
variable {p : Program} {l : Launch} {e : Env} {s : State} {m : MethodId} {args : Array Value} {below : List Frame} {meth : Method} {c : Code} {D : va_G} {cA : Nat → ClassId} {adK adV : Nat → Nat} {A : Nat → Prop} {ad : Int → Nat} {R : va_W} {res : Int × St}
/-! RungHouse$House.copyFrom -/
set_option maxRecDepth 100000 in
set_option maxHeartbeats 4000000 in
theorem k_X0_copyFrom_2b {K2 : Int → Int → Int → St → Option (Int × St)} {o0 : Int} {o1 : Int} {v2 : Int} (C : Cx cX0_copyFrom RX0 3 none D cA adK adV A p s m args meth c)  (hK2 : ∀ (o0 : Int) (o1 : Int) (v2 : Int) (σ : St) (H : Heap) (locs : List Loc) (ls : Array Slot) (ho0 : kX o0 = (0, 0)) (ho1 : kX o1 = (0, 0)), At D cA ad kX 151 R A s σ H locs → lv_has ls 3 [(0, .ref (ad o0)), (1, .ref (ad o1)), (2, .int (zI v2))] → K2 o0 o1 v2 σ = some res → W p l e (rmU 0 0) s m args below meth c H locs 0 0 (MQ below (QV D cA ad kX 151 R A res) args s 0 0 A) (F0 m 2 ls [])) {σ : St} {H : Heap} {locs : List Loc} {ls : Array Slot} (ho0 : kX o0 = (0, 0)) (ho1 : kX o1 = (0, 0)) (hw : At D cA ad kX 151 R A s σ H locs) (hl : lv_has ls 3 [(0, .ref (ad o0)), (1, .ref (ad o1)), (2, .int (zI v2))]) (h : p_X0_copyFrom_2b K2 o0 o1 v2 σ = some res) : W p l e (rmU 0 0) s m args below meth c H locs 0 0 (MQ below (QV D cA ad kX 151 R A res) args s 0 0 A) (F0 m 2 ls []) := by
  have h := h
  unfold p_X0_copyFrom_2b at h
  refine y_iload_n C dX0_copyFrom_2 (lv_at hl 2 rfl) ?_
  refine y_bipush C dX0_copyFrom_3 (by decide) ?_
  refine y_icmp_ge (tgt := 26) C (a' := zm v2) (b' := 10) rfl (by decide) dX0_copyFrom_5 (by decide) (fun hc => ?_) (fun hc => ?_)
  · rw [if_pos hc] at h
    refine y_aload_n C dX0_copyFrom_26 (lv_at hl 0 rfl) ?_
    refine y_aload_n C dX0_copyFrom_27 (lv_at hl 1 rfl) ?_
    refine g0 C hw ho1 1 (by decide) wd_83 rfl dX0_copyFrom_28 ?_
    obtain ⟨σ31, eσ31, h⟩ := nx_some h
    refine q0 C hw ho0 1 (by decide) wd_83 rfl rfl rfl (by decide) (σ o1 1) 1 rfl rfl dX0_copyFrom_31 (fun H locs hw => ?_)
    rw [← eσ31] at hw
    refine y_aload_n C dX0_copyFrom_34 (lv_at hl 0 rfl) ?_
    refine y_aload_n C dX0_copyFrom_35 (lv_at hl 1 rfl) ?_
    refine g0 C hw ho1 2 (by decide) wd_87 rfl dX0_copyFrom_36 ?_
    obtain ⟨σ39, eσ39, h⟩ := nx_some h
    refine q0 C hw ho0 2 (by decide) wd_87 rfl rfl rfl (by decide) (σ31 o1 2) 2 rfl rfl dX0_copyFrom_39 (fun H locs hw => ?_)
    rw [← eσ39] at hw
    refine y_aload_n C dX0_copyFrom_42 (lv_at hl 0 rfl) ?_
    refine y_aload_n C dX0_copyFrom_43 (lv_at hl 1 rfl) ?_
    refine g0 C hw ho1 3 (by decide) wd_89 rfl dX0_copyFrom_44 ?_
    obtain ⟨σ47, eσ47, h⟩ := nx_some h
    refine q0 C hw ho0 3 (by decide) wd_89 rfl rfl rfl (by decide) (σ39 o1 3) 3 rfl rfl dX0_copyFrom_47 (fun H locs hw => ?_)
    rw [← eσ47] at hw
    refine y_aload_n C dX0_copyFrom_50 (lv_at hl 0 rfl) ?_
    refine y_aload_n C dX0_copyFrom_51 (lv_at hl 1 rfl) ?_
    refine g0 C hw ho1 4 (by decide) wd_91 rfl dX0_copyFrom_52 ?_
    obtain ⟨σ55, eσ55, h⟩ := nx_some h
    refine q0 C hw ho0 4 (by decide) wd_91 rfl rfl rfl (by decide) (σ47 o1 4) 4 rfl rfl dX0_copyFrom_55 (fun H locs hw => ?_)
    rw [← eσ55] at hw
    refine y_aload_n C dX0_copyFrom_58 (lv_at hl 0 rfl) ?_
    refine y_aload_n C dX0_copyFrom_59 (lv_at hl 1 rfl) ?_
    refine g0 C hw ho1 5 (by decide) wd_93 rfl dX0_copyFrom_60 ?_
    obtain ⟨σ63, eσ63, h⟩ := nx_some h
    refine q0 C hw ho0 5 (by decide) wd_93 rfl rfl rfl (by decide) (σ55 o1 5) 5 rfl rfl dX0_copyFrom_63 (fun H locs hw => ?_)
    rw [← eσ63] at hw
    refine y_aload_n C dX0_copyFrom_66 (lv_at hl 0 rfl) ?_
    refine y_aload_n C dX0_copyFrom_67 (lv_at hl 1 rfl) ?_
    refine g0 C hw ho1 6 (by decide) wd_95 rfl dX0_copyFrom_68 ?_
    obtain ⟨σ71, eσ71, h⟩ := nx_some h
    refine q0 C hw ho0 6 (by decide) wd_95 rfl rfl rfl (by decide) (σ63 o1 6) 6 rfl rfl dX0_copyFrom_71 (fun H locs hw => ?_)
    rw [← eσ71] at hw
    exact y_vret C hw h dX0_copyFrom_74
  · rw [if_neg hc] at h
    refine y_aload_n C dX0_copyFrom_8 (lv_at hl 0 rfl) ?_
    refine g0 C hw ho0 0 (by decide) wd_79 rfl dX0_copyFrom_9 ?_
    refine y_iload_n C dX0_copyFrom_12 (lv_at hl 2 rfl) ?_
    refine y_aload_n C dX0_copyFrom_13 (lv_at hl 1 rfl) ?_
    refine g0 C hw ho1 0 (by decide) wd_79 rfl dX0_copyFrom_14 ?_
    refine y_iload_n C dX0_copyFrom_17 (lv_at hl 2 rfl) ?_
    obtain ⟨hg18, h⟩ := gd_some h
    refine y_iald C hw (ka0_prices ho1) (i' := zm v2) rfl hg18 dX0_copyFrom_18 ?_
    obtain ⟨σ19, eσ19, h⟩ := nx_some h
    refine y_iast C hw (ka0_prices ho0) (i' := zm v2) rfl hg18 dX0_copyFrom_19 (fun H locs hw => ?_)
    rw [← eσ19] at hw
    refine y_iinc (lv' := [(2, .int (zI (v2 + 1))), (0, .ref (ad o0)), (1, .ref (ad o1))]) C dX0_copyFrom_20 hl (k := 2) rfl (by decide) rfl (fun ls hl => ?_)
    refine y_goto (tgt := 2) C dX0_copyFrom_23 (by decide) ?_
    exact hK2 _ _ _ _ _ _ _ ho0 ho1 hw (lv_sub hl [1, 2, 0] rfl) h
set_option maxRecDepth 100000 in
theorem k_X0_copyFrom_2  (C : Cx cX0_copyFrom RX0 3 none D cA adK adV A p s m args meth c)  : ∀ (n : Nat) (o0 : Int) (o1 : Int) (v2 : Int) (σ : St) (H : Heap) (locs : List Loc) (ls : Array Slot) (ho0 : kX o0 = (0, 0)) (ho1 : kX o1 = (0, 0)), At D cA ad kX 151 R A s σ H locs → lv_has ls 3 [(0, .ref (ad o0)), (1, .ref (ad o1)), (2, .int (zI v2))] → p_X0_copyFrom_2  n o0 o1 v2 σ = some res → W p l e (rmU 0 0) s m args below meth c H locs 0 0 (MQ below (QV D cA ad kX 151 R A res) args s 0 0 A) (F0 m 2 ls []) := by
  intro n
  induction n with
  | zero =>
    intro o0 o1 v2 σ H locs ls ho0 ho1 hw hl h
    have h : none = some res := h
    cases h
  | succ n ih =>
    intro o0 o1 v2 σ H locs ls ho0 ho1 hw hl h
    exact k_X0_copyFrom_2b C  ih ho0 ho1 hw hl h
set_option maxRecDepth 100000 in
set_option maxHeartbeats 4000000 in
theorem k_X0_copyFrom_0  {o0 : Int} {o1 : Int} (C : Cx cX0_copyFrom RX0 3 none D cA adK adV A p s m args meth c)  {σ : St} {H : Heap} {locs : List Loc} {ls : Array Slot} (ho0 : kX o0 = (0, 0)) (ho1 : kX o1 = (0, 0)) (hw : At D cA ad kX 151 R A s σ H locs) (hl : lv_has ls 3 [(0, .ref (ad o0)), (1, .ref (ad o1))]) (h : p_X0_copyFrom  o0 o1 σ = some res) : W p l e (rmU 0 0) s m args below meth c H locs 0 0 (MQ below (QV D cA ad kX 151 R A res) args s 0 0 A) (F0 m 0 ls []) := by
  have h := h
  unfold p_X0_copyFrom at h
  refine y_iconst C dX0_copyFrom_0 ?_
  refine y_istore_n (lv' := [(2, .int (zI 0)), (0, .ref (ad o0)), (1, .ref (ad o1))]) C dX0_copyFrom_1 hl (by decide) rfl (fun ls hl => ?_)
  exact k_X0_copyFrom_2 C  FU _ _ _ _ _ _ _ ho0 ho1 hw (lv_sub hl [1, 2, 0] rfl) h
theorem c_X0_copyFrom {l : Launch} {D : va_G} {cA : Nat → ClassId} {adK adV : Nat → Nat} {A : Nat → Prop} {ad : Int → Nat} {R : va_W} {σ : St} {res : Int × St} {o0 : Int} {o1 : Int} (ho0 : kX o0 = (0, 0)) (ho1 : kX o1 = (0, 0)) (h : p_X0_copyFrom o0 o1 σ = some res) : Met l yX0_copyFrom (wsU yX0_copyFrom cX0_copyFrom 3 none) (rmU 0 0) (va_Pc [.ref (ad o0), .ref (ad o1)] (Pr D cA adK adV ad kX 151 R A σ)) (QV D cA ad kX 151 R A res) 0 0 A :=
  y_met (own := RX0) (by decide) rfl _ (Nat.le_of_ble_eq_true rfl) (fun p e s m args below meth c ls C hl hw => k_X0_copyFrom_0 C ho0 ho1 hw hl h)
/-! RungHouse$House.isKept -/
set_option maxRecDepth 100000 in
set_option maxHeartbeats 4000000 in
theorem k_X0_isKept_0  {o0 : Int} {v1 : Int} (C : Cx cX0_isKept RX0 2 (some .boolean) D cA adK adV A p s m args meth c)  {σ : St} {H : Heap} {locs : List Loc} {ls : Array Slot} (ho0 : kX o0 = (0, 0)) (hw : At D cA ad kX 151 R A s σ H locs) (hl : lv_has ls 2 [(0, .ref (ad o0)), (1, .int (zI v1))]) (h : p_X0_isKept  o0 v1 σ = some res) : W p l e (rmU 0 0) s m args below meth c H locs 0 0 (MQ below (QI D cA ad kX 151 R A res) args s 0 0 A) (F0 m 0 ls []) := by
  have h := h
  unfold p_X0_isKept at h
  refine y_aload_n C dX0_isKept_0 (lv_at hl 0 rfl) ?_
  refine g0 C hw ho0 2 (by decide) wd_87 rfl dX0_isKept_1 ?_
  refine y_iload_n C dX0_isKept_4 (lv_at hl 1 rfl) ?_
  refine y_ishr C dX0_isKept_5 ?_
  refine y_iconst C dX0_isKept_6 ?_
  refine y_iand C dX0_isKept_7 ?_
  refine y_if_eq (tgt := 15) C (a' := zm (zand (zshr (σ o0 2) v1) 1)) rfl dX0_isKept_8 (by decide) (fun hc => ?_) (fun hc => ?_)
  · rw [if_pos hc] at h
    refine y_iconst C dX0_isKept_15 ?_
    exact y_zret C hw (by decide) h dX0_isKept_16
  · rw [if_neg hc] at h
    refine y_iconst C dX0_isKept_11 ?_
    refine y_goto (tgt := 16) C dX0_isKept_12 (by decide) ?_
    exact y_zret C hw (by decide) h dX0_isKept_16
theorem c_X0_isKept {l : Launch} {D : va_G} {cA : Nat → ClassId} {adK adV : Nat → Nat} {A : Nat → Prop} {ad : Int → Nat} {R : va_W} {σ : St} {res : Int × St} {o0 : Int} {v1 : Int} (ho0 : kX o0 = (0, 0)) (h : p_X0_isKept o0 v1 σ = some res) : Met l yX0_isKept (wsU yX0_isKept cX0_isKept 2 (some .boolean)) (rmU 0 0) (va_Pc [.ref (ad o0), .int (zI v1)] (Pr D cA adK adV ad kX 151 R A σ)) (QI D cA ad kX 151 R A res) 0 0 A :=
  y_met (own := RX0) (by decide) rfl _ (Nat.le_of_ble_eq_true rfl) (fun p e s m args below meth c ls C hl hw => k_X0_isKept_0 C ho0 hw hl h)
/-! RungHouse$House.bears -/
set_option maxRecDepth 100000 in
set_option maxHeartbeats 4000000 in
theorem k_X0_bears_0  {o0 : Int} {v1 : Int} (C : Cx cX0_bears RX0 2 (some .int) D cA adK adV A p s m args meth c)  {σ : St} {H : Heap} {locs : List Loc} {ls : Array Slot} (ho0 : kX o0 = (0, 0)) (hw : At D cA ad kX 151 R A s σ H locs) (hl : lv_has ls 2 [(0, .ref (ad o0)), (1, .int (zI v1))]) (h : p_X0_bears  o0 v1 σ = some res) : W p l e (rmU 0 0) s m args below meth c H locs 0 0 (MQ below (QI D cA ad kX 151 R A res) args s 0 0 A) (F0 m 0 ls []) := by
  have h := h
  unfold p_X0_bears at h
  refine y_iload_n C dX0_bears_0 (lv_at hl 1 rfl) ?_
  refine y_aload_n C dX0_bears_1 (lv_at hl 0 rfl) ?_
  refine g0 C hw ho0 5 (by decide) wd_93 rfl dX0_bears_2 ?_
  refine y_icmp_ge (tgt := 12) C (a' := zm v1) (b' := zm (σ o0 5)) rfl rfl dX0_bears_5 (by decide) (fun hc => ?_) (fun hc => ?_)
  · rw [if_pos hc] at h
    refine y_aload_n C dX0_bears_12 (lv_at hl 0 rfl) ?_
    refine g0 C hw ho0 5 (by decide) wd_93 rfl dX0_bears_13 ?_
    exact y_iret C hw h dX0_bears_16
  · rw [if_neg hc] at h
    refine y_iload_n C dX0_bears_8 (lv_at hl 1 rfl) ?_
    refine y_goto (tgt := 16) C dX0_bears_9 (by decide) ?_
    exact y_iret C hw h dX0_bears_16
theorem c_X0_bears {l : Launch} {D : va_G} {cA : Nat → ClassId} {adK adV : Nat → Nat} {A : Nat → Prop} {ad : Int → Nat} {R : va_W} {σ : St} {res : Int × St} {o0 : Int} {v1 : Int} (ho0 : kX o0 = (0, 0)) (h : p_X0_bears o0 v1 σ = some res) : Met l yX0_bears (wsU yX0_bears cX0_bears 2 (some .int)) (rmU 0 0) (va_Pc [.ref (ad o0), .int (zI v1)] (Pr D cA adK adV ad kX 151 R A σ)) (QI D cA ad kX 151 R A res) 0 0 A :=
  y_met (own := RX0) (by decide) rfl _ (Nat.le_of_ble_eq_true rfl) (fun p e s m args below meth c ls C hl hw => k_X0_bears_0 C ho0 hw hl h)
/-! RungHouse$House.rungAfter -/
set_option maxRecDepth 100000 in
set_option maxHeartbeats 4000000 in
theorem k_X0_rungAfter_40  {vs0 : Int} {vs1 : Int} {vs2 : Int} (C : Cx cX0_rungAfter RX0 3 (some .int) D cA adK adV A p s m args meth c)  {σ : St} {H : Heap} {locs : List Loc} {ls : Array Slot}  (hw : At D cA ad kX 151 R A s σ H locs) (hl : lv_has ls 3 []) (h : p_X0_rungAfter_40  vs0 vs1 vs2 σ = some res) : W p l e (rmU 1 24) s m args below meth c H locs 0 0 (MQ below (QI D cA ad kX 151 R A res) args s 0 0 A) (F0 m 40 ls [.int (zI vs2), .int (zI vs1), .int (zI vs0)]) := by
  have h := h
  unfold p_X0_rungAfter_40 at h
  refine y_imul C dX0_rungAfter_40 ?_
  refine y_isub C dX0_rungAfter_41 ?_
  refine y_iconst C dX0_rungAfter_42 ?_
  refine y_max C hl wd_573 wd_574 wd_14 wd_575 (by decide) (Nat.le_of_ble_eq_true rfl) dX0_rungAfter_43 ?_
  exact y_iret C hw h dX0_rungAfter_46
set_option maxRecDepth 100000 in
set_option maxHeartbeats 4000000 in
theorem k_X0_rungAfter_0  {o0 : Int} {v1 : Int} {v2 : Int} (C : Cx cX0_rungAfter RX0 3 (some .int) D cA adK adV A p s m args meth c)  {σ : St} {H : Heap} {locs : List Loc} {ls : Array Slot} (ho0 : kX o0 = (0, 0)) (hw : At D cA ad kX 151 R A s σ H locs) (hl : lv_has ls 3 [(0, .ref (ad o0)), (1, .int (zI v1)), (2, .int (zI v2))]) (h : p_X0_rungAfter  o0 v1 v2 σ = some res) : W p l e (rmU 1 24) s m args below meth c H locs 0 0 (MQ below (QI D cA ad kX 151 R A res) args s 0 0 A) (F0 m 0 ls []) := by
  have h := h
  unfold p_X0_rungAfter at h
  refine y_iload_n C dX0_rungAfter_0 (lv_at hl 2 rfl) ?_
  refine y_if_ne (tgt := 20) C (a' := zm v2) rfl dX0_rungAfter_1 (by decide) (fun hc => ?_) (fun hc => ?_)
  · rw [if_pos hc] at h
    refine y_iload_n C dX0_rungAfter_4 (lv_at hl 1 rfl) ?_
    refine y_aload_n C dX0_rungAfter_5 (lv_at hl 0 rfl) ?_
    refine g0 C hw ho0 3 (by decide) wd_89 rfl dX0_rungAfter_6 ?_
    refine y_iadd C dX0_rungAfter_9 ?_
    refine y_aload_n C dX0_rungAfter_10 (lv_at hl 0 rfl) ?_
    refine g0 C hw ho0 1 (by decide) wd_83 rfl dX0_rungAfter_11 ?_
    refine y_iconst C dX0_rungAfter_14 ?_
    refine y_isub C dX0_rungAfter_15 ?_
    refine y_min C hl wd_566 wd_567 wd_14 wd_568 (by decide) (Nat.le_of_ble_eq_true rfl) dX0_rungAfter_16 ?_
    exact y_iret C hw h dX0_rungAfter_19
  · rw [if_neg hc] at h
    refine y_iload_n C dX0_rungAfter_20 (lv_at hl 1 rfl) ?_
    refine y_aload_n C dX0_rungAfter_21 (lv_at hl 0 rfl) ?_
    refine g0 C hw ho0 4 (by decide) wd_91 rfl dX0_rungAfter_22 ?_
    refine y_aload_n C dX0_rungAfter_25 (lv_at hl 0 rfl) ?_
    refine y_iload_n C dX0_rungAfter_26 (lv_at hl 1 rfl) ?_
    obtain ⟨x27, hc27, h⟩ := bd_some h
    refine y_ci (rest := [.int (zI (σ o0 4)), .int (zI v1)]) hw (y_rV C hw ho0 (by decide) rfl rfl (c_X0_isKept ho0 hc27) mi_X0_isKept wd_569 wd_570 wd_571 rfl ⟨by decide, by decide⟩ hl rfl (Nat.le_of_ble_eq_true rfl) dX0_rungAfter_27) (fun H locs hw => ?_)
    refine y_if_eq (tgt := 39) C (a' := zm x27.1) rfl dX0_rungAfter_30 (by decide) (fun hc => ?_) (fun hc => ?_)
    · rw [if_pos hc] at h
      refine y_iload_n C dX0_rungAfter_39 (lv_at hl 2 rfl) ?_
      exact k_X0_rungAfter_40 C   hw (lv_sub hl [] rfl) h
    · rw [if_neg hc] at h
      refine y_iload_n C dX0_rungAfter_33 (lv_at hl 2 rfl) ?_
      refine y_iconst C dX0_rungAfter_34 ?_
      refine y_isub C dX0_rungAfter_35 ?_
      refine y_goto (tgt := 40) C dX0_rungAfter_36 (by decide) ?_
      exact k_X0_rungAfter_40 C   hw (lv_sub hl [] rfl) h
theorem c_X0_rungAfter {l : Launch} {D : va_G} {cA : Nat → ClassId} {adK adV : Nat → Nat} {A : Nat → Prop} {ad : Int → Nat} {R : va_W} {σ : St} {res : Int × St} {o0 : Int} {v1 : Int} {v2 : Int} (ho0 : kX o0 = (0, 0)) (h : p_X0_rungAfter o0 v1 v2 σ = some res) : Met l yX0_rungAfter (wsU yX0_rungAfter cX0_rungAfter 3 (some .int)) (rmU 1 24) (va_Pc [.ref (ad o0), .int (zI v1), .int (zI v2)] (Pr D cA adK adV ad kX 151 R A σ)) (QI D cA ad kX 151 R A res) 0 0 A :=
  y_met (own := RX0) (by decide) rfl _ (Nat.le_of_ble_eq_true rfl) (fun p e s m args below meth c ls C hl hw => k_X0_rungAfter_0 C ho0 hw hl h)
/-! RungHouse$Reader.isLetter -/
set_option maxRecDepth 100000 in
set_option maxHeartbeats 4000000 in
theorem k_X4_isLetter_0  {v0 : Int} (C : Cx cX4_isLetter RX4 1 (some .boolean) D cA adK adV A p s m args meth c)  {σ : St} {H : Heap} {locs : List Loc} {ls : Array Slot}  (hw : At D cA ad kX 151 R A s σ H locs) (hl : lv_has ls 1 [(0, .int (zI v0))]) (h : p_X4_isLetter  v0 σ = some res) : W p l e (rmU 0 0) s m args below meth c H locs 0 0 (MQ below (QI D cA ad kX 151 R A res) args s 0 0 A) (F0 m 0 ls []) := by
  have h := h
  unfold p_X4_isLetter at h
  refine y_iload_n C dX4_isLetter_0 (lv_at hl 0 rfl) ?_
  refine y_bipush C dX4_isLetter_1 (by decide) ?_
  refine y_icmp_lt (tgt := 16) C (a' := zm v0) (b' := 97) rfl (by decide) dX4_isLetter_3 (by decide) (fun hc => ?_) (fun hc => ?_)
  · rw [if_pos hc] at h
    refine y_iconst C dX4_isLetter_16 ?_
    exact y_zret C hw (by decide) h dX4_isLetter_17
  · rw [if_neg hc] at h
    refine y_iload_n C dX4_isLetter_6 (lv_at hl 0 rfl) ?_
    refine y_bipush C dX4_isLetter_7 (by decide) ?_
    refine y_icmp_gt (tgt := 16) C (a' := zm v0) (b' := 122) rfl (by decide) dX4_isLetter_9 (by decide) (fun hc => ?_) (fun hc => ?_)
    · rw [if_pos hc] at h
      refine y_iconst C dX4_isLetter_16 ?_
      exact y_zret C hw (by decide) h dX4_isLetter_17
    · rw [if_neg hc] at h
      refine y_iconst C dX4_isLetter_12 ?_
      refine y_goto (tgt := 17) C dX4_isLetter_13 (by decide) ?_
      exact y_zret C hw (by decide) h dX4_isLetter_17
theorem c_X4_isLetter {l : Launch} {D : va_G} {cA : Nat → ClassId} {adK adV : Nat → Nat} {A : Nat → Prop} {ad : Int → Nat} {R : va_W} {σ : St} {res : Int × St} {v0 : Int}  (h : p_X4_isLetter v0 σ = some res) : Met l yX4_isLetter (wsU yX4_isLetter cX4_isLetter 1 (some .boolean)) (rmU 0 0) (va_Pc [.int (zI v0)] (Pr D cA adK adV ad kX 151 R A σ)) (QI D cA ad kX 151 R A res) 0 0 A :=
  y_met (own := RX4) (by decide) rfl _ (Nat.le_of_ble_eq_true rfl) (fun p e s m args below meth c ls C hl hw => k_X4_isLetter_0 C  hw hl h)
/-! RungHouse$Reader.passLetters -/
set_option maxRecDepth 100000 in
set_option maxHeartbeats 4000000 in
theorem k_X4_passLetters_0b {K0 : Int → St → Option (Int × St)} {o0 : Int} (C : Cx cX4_passLetters RX4 1 none D cA adK adV A p s m args meth c)  (hK0 : ∀ (o0 : Int) (σ : St) (H : Heap) (locs : List Loc) (ls : Array Slot) (ho0 : kX o0 = (4, 0)), At D cA ad kX 151 R A s σ H locs → lv_has ls 1 [(0, .ref (ad o0))] → K0 o0 σ = some res → W p l e (rmU 1 20) s m args below meth c H locs 0 0 (MQ below (QV D cA ad kX 151 R A res) args s 0 0 A) (F0 m 0 ls [])) {σ : St} {H : Heap} {locs : List Loc} {ls : Array Slot} (ho0 : kX o0 = (4, 0)) (hw : At D cA ad kX 151 R A s σ H locs) (hl : lv_has ls 1 [(0, .ref (ad o0))]) (h : p_X4_passLetters_0b K0 o0 σ = some res) : W p l e (rmU 1 20) s m args below meth c H locs 0 0 (MQ below (QV D cA ad kX 151 R A res) args s 0 0 A) (F0 m 0 ls []) := by
  have h := h
  unfold p_X4_passLetters_0b at h
  refine y_aload_n C dX4_passLetters_0 (lv_at hl 0 rfl) ?_
  refine g4 C hw ho0 6 (by decide) wd_43 rfl dX4_passLetters_1 ?_
  refine y_aload_n C dX4_passLetters_4 (lv_at hl 0 rfl) ?_
  refine g4 C hw ho0 1 (by decide) wd_30 rfl dX4_passLetters_5 ?_
  refine y_icmp_ge (tgt := 39) C (a' := zm (σ o0 6)) (b' := zm (σ o0 1)) rfl rfl dX4_passLetters_8 (by decide) (fun hc => ?_) (fun hc => ?_)
  · rw [if_pos hc] at h
    exact y_vret C hw h dX4_passLetters_39
  · rw [if_neg hc] at h
    refine y_aload_n C dX4_passLetters_11 (lv_at hl 0 rfl) ?_
    refine g4 C hw ho0 0 (by decide) wd_29 rfl dX4_passLetters_12 ?_
    refine y_aload_n C dX4_passLetters_15 (lv_at hl 0 rfl) ?_
    refine g4 C hw ho0 6 (by decide) wd_43 rfl dX4_passLetters_16 ?_
    obtain ⟨hg19, h⟩ := gd_some h
    refine y_iald C hw (ka4_bytes ho0) (i' := zm (σ o0 6)) rfl hg19 dX4_passLetters_19 ?_
    obtain ⟨x20, hc20, h⟩ := bd_some h
    refine y_ci (rest := []) hw (y_rS C hw (c_X4_isLetter  hc20) mi_X4_isLetter wd_367 wd_368 rfl ⟨by decide, by decide⟩ hl rfl (Nat.le_of_ble_eq_true rfl) dX4_passLetters_20) (fun H locs hw => ?_)
    refine y_if_eq (tgt := 39) C (a' := zm x20.1) rfl dX4_passLetters_23 (by decide) (fun hc => ?_) (fun hc => ?_)
    · rw [if_pos hc] at h
      exact y_vret C hw h dX4_passLetters_39
    · rw [if_neg hc] at h
      refine y_aload_n C dX4_passLetters_26 (lv_at hl 0 rfl) ?_
      refine y_dup C dX4_passLetters_27 rfl ?_
      refine g4 C hw ho0 6 (by decide) wd_43 rfl dX4_passLetters_28 ?_
      refine y_iconst C dX4_passLetters_31 ?_
      refine y_iadd C dX4_passLetters_32 ?_
      obtain ⟨σ33, eσ33, h⟩ := nx_some h
      refine q4 C hw ho0 6 (by decide) wd_43 rfl rfl rfl (by decide) ((x20.2 o0 6) + 1) 6 rfl rfl dX4_passLetters_33 (fun H locs hw => ?_)
      rw [← eσ33] at hw
      refine y_goto (tgt := 0) C dX4_passLetters_36 (by decide) ?_
      exact hK0 _ _ _ _ _ ho0 hw hl h
set_option maxRecDepth 100000 in
theorem k_X4_passLetters_0  (C : Cx cX4_passLetters RX4 1 none D cA adK adV A p s m args meth c)  : ∀ (n : Nat) (o0 : Int) (σ : St) (H : Heap) (locs : List Loc) (ls : Array Slot) (ho0 : kX o0 = (4, 0)), At D cA ad kX 151 R A s σ H locs → lv_has ls 1 [(0, .ref (ad o0))] → p_X4_passLetters_0  n o0 σ = some res → W p l e (rmU 1 20) s m args below meth c H locs 0 0 (MQ below (QV D cA ad kX 151 R A res) args s 0 0 A) (F0 m 0 ls []) := by
  intro n
  induction n with
  | zero =>
    intro o0 σ H locs ls ho0 hw hl h
    have h : none = some res := h
    cases h
  | succ n ih =>
    intro o0 σ H locs ls ho0 hw hl h
    exact k_X4_passLetters_0b C  ih ho0 hw hl h
theorem c_X4_passLetters {l : Launch} {D : va_G} {cA : Nat → ClassId} {adK adV : Nat → Nat} {A : Nat → Prop} {ad : Int → Nat} {R : va_W} {σ : St} {res : Int × St} {o0 : Int} (ho0 : kX o0 = (4, 0)) (h : p_X4_passLetters o0 σ = some res) : Met l yX4_passLetters (wsU yX4_passLetters cX4_passLetters 1 none) (rmU 1 20) (va_Pc [.ref (ad o0)] (Pr D cA adK adV ad kX 151 R A σ)) (QV D cA ad kX 151 R A res) 0 0 A :=
  y_met (own := RX4) (by decide) rfl _ (Nat.le_of_ble_eq_true rfl) (fun p e s m args below meth c ls C hl hw => k_X4_passLetters_0 C FU _ _ _ _ _ ho0 hw hl h)
/-! RungHouse$Reader.isFigure -/
set_option maxRecDepth 100000 in
set_option maxHeartbeats 4000000 in
theorem k_X4_isFigure_0  {v0 : Int} (C : Cx cX4_isFigure RX4 1 (some .boolean) D cA adK adV A p s m args meth c)  {σ : St} {H : Heap} {locs : List Loc} {ls : Array Slot}  (hw : At D cA ad kX 151 R A s σ H locs) (hl : lv_has ls 1 [(0, .int (zI v0))]) (h : p_X4_isFigure  v0 σ = some res) : W p l e (rmU 0 0) s m args below meth c H locs 0 0 (MQ below (QI D cA ad kX 151 R A res) args s 0 0 A) (F0 m 0 ls []) := by
  have h := h
  unfold p_X4_isFigure at h
  refine y_iload_n C dX4_isFigure_0 (lv_at hl 0 rfl) ?_
  refine y_bipush C dX4_isFigure_1 (by decide) ?_
  refine y_icmp_lt (tgt := 16) C (a' := zm v0) (b' := 48) rfl (by decide) dX4_isFigure_3 (by decide) (fun hc => ?_) (fun hc => ?_)
  · rw [if_pos hc] at h
    refine y_iconst C dX4_isFigure_16 ?_
    exact y_zret C hw (by decide) h dX4_isFigure_17
  · rw [if_neg hc] at h
    refine y_iload_n C dX4_isFigure_6 (lv_at hl 0 rfl) ?_
    refine y_bipush C dX4_isFigure_7 (by decide) ?_
    refine y_icmp_gt (tgt := 16) C (a' := zm v0) (b' := 57) rfl (by decide) dX4_isFigure_9 (by decide) (fun hc => ?_) (fun hc => ?_)
    · rw [if_pos hc] at h
      refine y_iconst C dX4_isFigure_16 ?_
      exact y_zret C hw (by decide) h dX4_isFigure_17
    · rw [if_neg hc] at h
      refine y_iconst C dX4_isFigure_12 ?_
      refine y_goto (tgt := 17) C dX4_isFigure_13 (by decide) ?_
      exact y_zret C hw (by decide) h dX4_isFigure_17
theorem c_X4_isFigure {l : Launch} {D : va_G} {cA : Nat → ClassId} {adK adV : Nat → Nat} {A : Nat → Prop} {ad : Int → Nat} {R : va_W} {σ : St} {res : Int × St} {v0 : Int}  (h : p_X4_isFigure v0 σ = some res) : Met l yX4_isFigure (wsU yX4_isFigure cX4_isFigure 1 (some .boolean)) (rmU 0 0) (va_Pc [.int (zI v0)] (Pr D cA adK adV ad kX 151 R A σ)) (QI D cA ad kX 151 R A res) 0 0 A :=
  y_met (own := RX4) (by decide) rfl _ (Nat.le_of_ble_eq_true rfl) (fun p e s m args below meth c ls C hl hw => k_X4_isFigure_0 C  hw hl h)
/-! RungHouse$Reader.passFigures -/
set_option maxRecDepth 100000 in
set_option maxHeartbeats 4000000 in
theorem k_X4_passFigures_82 {K10 : Int → St → Option (Int × St)} {o0 : Int} {os0 : Int} {vs1 : Int} (C : Cx cX4_passFigures RX4 1 none D cA adK adV A p s m args meth c) (hK10 : ∀ (o0 : Int) (σ : St) (H : Heap) (locs : List Loc) (ls : Array Slot) (ho0 : kX o0 = (4, 0)), At D cA ad kX 151 R A s σ H locs → lv_has ls 1 [(0, .ref (ad o0))] → K10 o0 σ = some res → W p l e (rmU 1 20) s m args below meth c H locs 0 0 (MQ below (QV D cA ad kX 151 R A res) args s 0 0 A) (F0 m 10 ls [])) {σ : St} {H : Heap} {locs : List Loc} {ls : Array Slot} (ho0 : kX o0 = (4, 0)) (hos0 : kX os0 = (4, 0)) (hw : At D cA ad kX 151 R A s σ H locs) (hl : lv_has ls 1 [(0, .ref (ad o0))]) (h : p_X4_passFigures_82 K10 o0 os0 vs1 σ = some res) : W p l e (rmU 1 20) s m args below meth c H locs 0 0 (MQ below (QV D cA ad kX 151 R A res) args s 0 0 A) (F0 m 82 ls [.int (zI vs1), .ref (ad os0)]) := by
  have h := h
  unfold p_X4_passFigures_82 at h
  obtain ⟨σ82, eσ82, h⟩ := nx_some h
  refine q4 C hw hos0 8 (by decide) wd_45 rfl rfl rfl (by decide) vs1 8 rfl rfl dX4_passFigures_82 (fun H locs hw => ?_)
  rw [← eσ82] at hw
  refine y_aload_n C dX4_passFigures_85 (lv_at hl 0 rfl) ?_
  refine y_dup C dX4_passFigures_86 rfl ?_
  refine g4 C hw ho0 6 (by decide) wd_43 rfl dX4_passFigures_87 ?_
  refine y_iconst C dX4_passFigures_90 ?_
  refine y_iadd C dX4_passFigures_91 ?_
  obtain ⟨σ92, eσ92, h⟩ := nx_some h
  refine q4 C hw ho0 6 (by decide) wd_43 rfl rfl rfl (by decide) ((σ82 o0 6) + 1) 6 rfl rfl dX4_passFigures_92 (fun H locs hw => ?_)
  rw [← eσ92] at hw
  refine y_goto (tgt := 10) C dX4_passFigures_95 (by decide) ?_
  exact hK10 _ _ _ _ _ ho0 hw hl h
set_option maxRecDepth 100000 in
set_option maxHeartbeats 4000000 in
theorem k_X4_passFigures_10b {K10 : Int → St → Option (Int × St)} {o0 : Int} (C : Cx cX4_passFigures RX4 1 none D cA adK adV A p s m args meth c)  (hK10 : ∀ (o0 : Int) (σ : St) (H : Heap) (locs : List Loc) (ls : Array Slot) (ho0 : kX o0 = (4, 0)), At D cA ad kX 151 R A s σ H locs → lv_has ls 1 [(0, .ref (ad o0))] → K10 o0 σ = some res → W p l e (rmU 1 20) s m args below meth c H locs 0 0 (MQ below (QV D cA ad kX 151 R A res) args s 0 0 A) (F0 m 10 ls [])) {σ : St} {H : Heap} {locs : List Loc} {ls : Array Slot} (ho0 : kX o0 = (4, 0)) (hw : At D cA ad kX 151 R A s σ H locs) (hl : lv_has ls 1 [(0, .ref (ad o0))]) (h : p_X4_passFigures_10b K10 o0 σ = some res) : W p l e (rmU 1 20) s m args below meth c H locs 0 0 (MQ below (QV D cA ad kX 151 R A res) args s 0 0 A) (F0 m 10 ls []) := by
  have h := h
  unfold p_X4_passFigures_10b at h
  refine y_aload_n C dX4_passFigures_10 (lv_at hl 0 rfl) ?_
  refine g4 C hw ho0 6 (by decide) wd_43 rfl dX4_passFigures_11 ?_
  refine y_aload_n C dX4_passFigures_14 (lv_at hl 0 rfl) ?_
  refine g4 C hw ho0 1 (by decide) wd_30 rfl dX4_passFigures_15 ?_
  refine y_icmp_ge (tgt := 98) C (a' := zm (σ o0 6)) (b' := zm (σ o0 1)) rfl rfl dX4_passFigures_18 (by decide) (fun hc => ?_) (fun hc => ?_)
  · rw [if_pos hc] at h
    exact y_vret C hw h dX4_passFigures_98
  · rw [if_neg hc] at h
    refine y_aload_n C dX4_passFigures_21 (lv_at hl 0 rfl) ?_
    refine g4 C hw ho0 0 (by decide) wd_29 rfl dX4_passFigures_22 ?_
    refine y_aload_n C dX4_passFigures_25 (lv_at hl 0 rfl) ?_
    refine g4 C hw ho0 6 (by decide) wd_43 rfl dX4_passFigures_26 ?_
    obtain ⟨hg29, h⟩ := gd_some h
    refine y_iald C hw (ka4_bytes ho0) (i' := zm (σ o0 6)) rfl hg29 dX4_passFigures_29 ?_
    obtain ⟨x30, hc30, h⟩ := bd_some h
    refine y_ci (rest := []) hw (y_rS C hw (c_X4_isFigure  hc30) mi_X4_isFigure wd_374 wd_375 rfl ⟨by decide, by decide⟩ hl rfl (Nat.le_of_ble_eq_true rfl) dX4_passFigures_30) (fun H locs hw => ?_)
    refine y_if_eq (tgt := 98) C (a' := zm x30.1) rfl dX4_passFigures_33 (by decide) (fun hc => ?_) (fun hc => ?_)
    · rw [if_pos hc] at h
      exact y_vret C hw h dX4_passFigures_98
    · rw [if_neg hc] at h
      refine y_aload_n C dX4_passFigures_36 (lv_at hl 0 rfl) ?_
      refine y_dup C dX4_passFigures_37 rfl ?_
      refine g4 C hw ho0 7 (by decide) wd_44 rfl dX4_passFigures_38 ?_
      refine y_iconst C dX4_passFigures_41 ?_
      refine y_iadd C dX4_passFigures_42 ?_
      obtain ⟨σ43, eσ43, h⟩ := nx_some h
      refine q4 C hw ho0 7 (by decide) wd_44 rfl rfl rfl (by decide) ((x30.2 o0 7) + 1) 7 rfl rfl dX4_passFigures_43 (fun H locs hw => ?_)
      rw [← eσ43] at hw
      refine y_aload_n C dX4_passFigures_46 (lv_at hl 0 rfl) ?_
      refine y_aload_n C dX4_passFigures_47 (lv_at hl 0 rfl) ?_
      refine g4 C hw ho0 7 (by decide) wd_44 rfl dX4_passFigures_48 ?_
      refine y_iconst C dX4_passFigures_51 ?_
      refine y_icmp_le (tgt := 62) C (a' := zm (σ43 o0 7)) (b' := 3) rfl (by decide) dX4_passFigures_52 (by decide) (fun hc => ?_) (fun hc => ?_)
      · rw [if_pos hc] at h
        refine y_aload_n C dX4_passFigures_62 (lv_at hl 0 rfl) ?_
        refine g4 C hw ho0 8 (by decide) wd_45 rfl dX4_passFigures_63 ?_
        refine y_bipush C dX4_passFigures_66 (by decide) ?_
        refine y_imul C dX4_passFigures_68 ?_
        refine y_aload_n C dX4_passFigures_69 (lv_at hl 0 rfl) ?_
        refine g4 C hw ho0 0 (by decide) wd_29 rfl dX4_passFigures_70 ?_
        refine y_aload_n C dX4_passFigures_73 (lv_at hl 0 rfl) ?_
        refine g4 C hw ho0 6 (by decide) wd_43 rfl dX4_passFigures_74 ?_
        obtain ⟨hg77, h⟩ := gd_some h
        refine y_iald C hw (ka4_bytes ho0) (i' := zm (σ43 o0 6)) rfl hg77 dX4_passFigures_77 ?_
        refine y_iadd C dX4_passFigures_78 ?_
        refine y_bipush C dX4_passFigures_79 (by decide) ?_
        refine y_isub C dX4_passFigures_81 ?_
        exact k_X4_passFigures_82 C hK10 ho0 ho0 hw hl h
      · rw [if_neg hc] at h
        refine y_aload_n C dX4_passFigures_55 (lv_at hl 0 rfl) ?_
        refine g4 C hw ho0 8 (by decide) wd_45 rfl dX4_passFigures_56 ?_
        refine y_goto (tgt := 82) C dX4_passFigures_59 (by decide) ?_
        exact k_X4_passFigures_82 C hK10 ho0 ho0 hw hl h
set_option maxRecDepth 100000 in
theorem k_X4_passFigures_10  (C : Cx cX4_passFigures RX4 1 none D cA adK adV A p s m args meth c)  : ∀ (n : Nat) (o0 : Int) (σ : St) (H : Heap) (locs : List Loc) (ls : Array Slot) (ho0 : kX o0 = (4, 0)), At D cA ad kX 151 R A s σ H locs → lv_has ls 1 [(0, .ref (ad o0))] → p_X4_passFigures_10  n o0 σ = some res → W p l e (rmU 1 20) s m args below meth c H locs 0 0 (MQ below (QV D cA ad kX 151 R A res) args s 0 0 A) (F0 m 10 ls []) := by
  intro n
  induction n with
  | zero =>
    intro o0 σ H locs ls ho0 hw hl h
    have h : none = some res := h
    cases h
  | succ n ih =>
    intro o0 σ H locs ls ho0 hw hl h
    exact k_X4_passFigures_10b C  ih ho0 hw hl h
set_option maxRecDepth 100000 in
set_option maxHeartbeats 4000000 in
theorem k_X4_passFigures_0  {o0 : Int} (C : Cx cX4_passFigures RX4 1 none D cA adK adV A p s m args meth c)  {σ : St} {H : Heap} {locs : List Loc} {ls : Array Slot} (ho0 : kX o0 = (4, 0)) (hw : At D cA ad kX 151 R A s σ H locs) (hl : lv_has ls 1 [(0, .ref (ad o0))]) (h : p_X4_passFigures  o0 σ = some res) : W p l e (rmU 1 20) s m args below meth c H locs 0 0 (MQ below (QV D cA ad kX 151 R A res) args s 0 0 A) (F0 m 0 ls []) := by
  have h := h
  unfold p_X4_passFigures at h
  refine y_aload_n C dX4_passFigures_0 (lv_at hl 0 rfl) ?_
  refine y_iconst C dX4_passFigures_1 ?_
  obtain ⟨σ2, eσ2, h⟩ := nx_some h
  refine q4 C hw ho0 7 (by decide) wd_44 rfl rfl rfl (by decide) 0 7 rfl rfl dX4_passFigures_2 (fun H locs hw => ?_)
  rw [← eσ2] at hw
  refine y_aload_n C dX4_passFigures_5 (lv_at hl 0 rfl) ?_
  refine y_iconst C dX4_passFigures_6 ?_
  obtain ⟨σ7, eσ7, h⟩ := nx_some h
  refine q4 C hw ho0 8 (by decide) wd_45 rfl rfl rfl (by decide) 0 8 rfl rfl dX4_passFigures_7 (fun H locs hw => ?_)
  rw [← eσ7] at hw
  exact k_X4_passFigures_10 C  FU _ _ _ _ _ ho0 hw hl h
theorem c_X4_passFigures {l : Launch} {D : va_G} {cA : Nat → ClassId} {adK adV : Nat → Nat} {A : Nat → Prop} {ad : Int → Nat} {R : va_W} {σ : St} {res : Int × St} {o0 : Int} (ho0 : kX o0 = (4, 0)) (h : p_X4_passFigures o0 σ = some res) : Met l yX4_passFigures (wsU yX4_passFigures cX4_passFigures 1 none) (rmU 1 20) (va_Pc [.ref (ad o0)] (Pr D cA adK adV ad kX 151 R A σ)) (QV D cA ad kX 151 R A res) 0 0 A :=
  y_met (own := RX4) (by decide) rfl _ (Nat.le_of_ble_eq_true rfl) (fun p e s m args below meth c ls C hl hw => k_X4_passFigures_0 C ho0 hw hl h)
/-! RungHouse$Reader.step -/
set_option maxRecDepth 100000 in
set_option maxHeartbeats 4000000 in
theorem k_X4_step_139  {o0 : Int} {os0 : Int} {vs1 : Int} (C : Cx cX4_step RX4 1 none D cA adK adV A p s m args meth c)  {σ : St} {H : Heap} {locs : List Loc} {ls : Array Slot} (ho0 : kX o0 = (4, 0)) (hos0 : kX os0 = (4, 0)) (hw : At D cA ad kX 151 R A s σ H locs) (hl : lv_has ls 1 [(0, .ref (ad o0))]) (h : p_X4_step_139  o0 os0 vs1 σ = some res) : W p l e (rmU 2 40) s m args below meth c H locs 0 0 (MQ below (QV D cA ad kX 151 R A res) args s 0 0 A) (F0 m 139 ls [.int (zI vs1), .ref (ad os0)]) := by
  have h := h
  unfold p_X4_step_139 at h
  obtain ⟨σ139, eσ139, h⟩ := nx_some h
  refine q4 C hw hos0 4 (by decide) wd_38 rfl rfl rfl (by decide) vs1 4 rfl rfl dX4_step_139 (fun H locs hw => ?_)
  rw [← eσ139] at hw
  refine y_aload_n C dX4_step_142 (lv_at hl 0 rfl) ?_
  refine y_dup C dX4_step_143 rfl ?_
  refine g4 C hw ho0 6 (by decide) wd_43 rfl dX4_step_144 ?_
  refine y_iconst C dX4_step_147 ?_
  refine y_iadd C dX4_step_148 ?_
  obtain ⟨σ149, eσ149, h⟩ := nx_some h
  refine q4 C hw ho0 6 (by decide) wd_43 rfl rfl rfl (by decide) ((σ139 o0 6) + 1) 6 rfl rfl dX4_step_149 (fun H locs hw => ?_)
  rw [← eσ149] at hw
  exact y_vret C hw h dX4_step_152
set_option maxRecDepth 100000 in
set_option maxHeartbeats 4000000 in
theorem k_X4_step_38  {o0 : Int} (C : Cx cX4_step RX4 1 none D cA adK adV A p s m args meth c)  {σ : St} {H : Heap} {locs : List Loc} {ls : Array Slot} (ho0 : kX o0 = (4, 0)) (hw : At D cA ad kX 151 R A s σ H locs) (hl : lv_has ls 1 [(0, .ref (ad o0))]) (h : p_X4_step_38  o0 σ = some res) : W p l e (rmU 2 40) s m args below meth c H locs 0 0 (MQ below (QV D cA ad kX 151 R A res) args s 0 0 A) (F0 m 38 ls []) := by
  have h := h
  unfold p_X4_step_38 at h
  refine y_aload_n C dX4_step_38 (lv_at hl 0 rfl) ?_
  refine y_aload_n C dX4_step_39 (lv_at hl 0 rfl) ?_
  refine g4 C hw ho0 6 (by decide) wd_43 rfl dX4_step_40 ?_
  obtain ⟨σ43, eσ43, h⟩ := nx_some h
  refine q4 C hw ho0 5 (by decide) wd_39 rfl rfl rfl (by decide) (σ o0 6) 5 rfl rfl dX4_step_43 (fun H locs hw => ?_)
  rw [← eσ43] at hw
  refine y_aload_n C dX4_step_46 (lv_at hl 0 rfl) ?_
  refine g4 C hw ho0 6 (by decide) wd_43 rfl dX4_step_47 ?_
  refine y_aload_n C dX4_step_50 (lv_at hl 0 rfl) ?_
  refine g4 C hw ho0 1 (by decide) wd_30 rfl dX4_step_51 ?_
  refine y_icmp_lt (tgt := 65) C (a' := zm (σ43 o0 6)) (b' := zm (σ43 o0 1)) rfl rfl dX4_step_54 (by decide) (fun hc => ?_) (fun hc => ?_)
  · rw [if_pos hc] at h
    refine y_aload_n C dX4_step_65 (lv_at hl 0 rfl) ?_
    refine g4 C hw ho0 0 (by decide) wd_29 rfl dX4_step_66 ?_
    refine y_aload_n C dX4_step_69 (lv_at hl 0 rfl) ?_
    refine g4 C hw ho0 6 (by decide) wd_43 rfl dX4_step_70 ?_
    obtain ⟨hg73, h⟩ := gd_some h
    refine y_iald C hw (ka4_bytes ho0) (i' := zm (σ43 o0 6)) rfl hg73 dX4_step_73 ?_
    obtain ⟨x74, hc74, h⟩ := bd_some h
    refine y_ci (rest := []) hw (y_rS C hw (c_X4_isLetter  hc74) mi_X4_isLetter wd_367 wd_368 rfl ⟨by decide, by decide⟩ hl rfl (Nat.le_of_ble_eq_true rfl) dX4_step_74) (fun H locs hw => ?_)
    refine y_if_eq (tgt := 92) C (a' := zm x74.1) rfl dX4_step_77 (by decide) (fun hc => ?_) (fun hc => ?_)
    · rw [if_pos hc] at h
      refine y_aload_n C dX4_step_92 (lv_at hl 0 rfl) ?_
      refine g4 C hw ho0 0 (by decide) wd_29 rfl dX4_step_93 ?_
      refine y_aload_n C dX4_step_96 (lv_at hl 0 rfl) ?_
      refine g4 C hw ho0 6 (by decide) wd_43 rfl dX4_step_97 ?_
      obtain ⟨hg100, h⟩ := gd_some h
      refine y_iald C hw (ka4_bytes ho0) (i' := zm (x74.2 o0 6)) rfl hg100 dX4_step_100 ?_
      obtain ⟨x101, hc101, h⟩ := bd_some h
      refine y_ci (rest := []) hw (y_rS C hw (c_X4_isFigure  hc101) mi_X4_isFigure wd_374 wd_375 rfl ⟨by decide, by decide⟩ hl rfl (Nat.le_of_ble_eq_true rfl) dX4_step_101) (fun H locs hw => ?_)
      refine y_if_eq (tgt := 119) C (a' := zm x101.1) rfl dX4_step_104 (by decide) (fun hc => ?_) (fun hc => ?_)
      · rw [if_pos hc] at h
        refine y_aload_n C dX4_step_119 (lv_at hl 0 rfl) ?_
        refine y_aload_n C dX4_step_120 (lv_at hl 0 rfl) ?_
        refine g4 C hw ho0 0 (by decide) wd_29 rfl dX4_step_121 ?_
        refine y_aload_n C dX4_step_124 (lv_at hl 0 rfl) ?_
        refine g4 C hw ho0 6 (by decide) wd_43 rfl dX4_step_125 ?_
        obtain ⟨hg128, h⟩ := gd_some h
        refine y_iald C hw (ka4_bytes ho0) (i' := zm (x101.2 o0 6)) rfl hg128 dX4_step_128 ?_
        refine y_bipush C dX4_step_129 (by decide) ?_
        refine y_icmp_ne (tgt := 138) C (a' := zm (x101.2 (o0 + 1) (zm (x101.2 o0 6)))) (b' := 59) rfl (by decide) dX4_step_131 (by decide) (fun hc => ?_) (fun hc => ?_)
        · rw [if_pos hc] at h
          refine y_iconst C dX4_step_134 ?_
          refine y_goto (tgt := 139) C dX4_step_135 (by decide) ?_
          exact k_X4_step_139 C  ho0 ho0 hw hl h
        · rw [if_neg hc] at h
          refine y_iconst C dX4_step_138 ?_
          exact k_X4_step_139 C  ho0 ho0 hw hl h
      · rw [if_neg hc] at h
        refine y_aload_n C dX4_step_107 (lv_at hl 0 rfl) ?_
        refine y_iconst C dX4_step_108 ?_
        obtain ⟨σ109, eσ109, h⟩ := nx_some h
        refine q4 C hw ho0 4 (by decide) wd_38 rfl rfl rfl (by decide) 2 4 rfl rfl dX4_step_109 (fun H locs hw => ?_)
        rw [← eσ109] at hw
        refine y_aload_n C dX4_step_112 (lv_at hl 0 rfl) ?_
        obtain ⟨x113, hc113, h⟩ := bd_some h
        refine y_cv (rest := []) hw (y_rV C hw ho0 (by decide) rfl rfl (c_X4_passFigures ho0 hc113) mi_X4_passFigures wd_377 wd_379 ws_1 rfl ⟨by decide, by decide⟩ hl rfl (Nat.le_of_ble_eq_true rfl) dX4_step_113) (fun H locs hw => ?_)
        refine y_goto (tgt := 152) C dX4_step_116 (by decide) ?_
        exact y_vret C hw h dX4_step_152
    · rw [if_neg hc] at h
      refine y_aload_n C dX4_step_80 (lv_at hl 0 rfl) ?_
      refine y_iconst C dX4_step_81 ?_
      obtain ⟨σ82, eσ82, h⟩ := nx_some h
      refine q4 C hw ho0 4 (by decide) wd_38 rfl rfl rfl (by decide) 1 4 rfl rfl dX4_step_82 (fun H locs hw => ?_)
      rw [← eσ82] at hw
      refine y_aload_n C dX4_step_85 (lv_at hl 0 rfl) ?_
      obtain ⟨x86, hc86, h⟩ := bd_some h
      refine y_cv (rest := []) hw (y_rV C hw ho0 (by decide) rfl rfl (c_X4_passLetters ho0 hc86) mi_X4_passLetters wd_370 wd_372 ws_0 rfl ⟨by decide, by decide⟩ hl rfl (Nat.le_of_ble_eq_true rfl) dX4_step_86) (fun H locs hw => ?_)
      refine y_goto (tgt := 152) C dX4_step_89 (by decide) ?_
      exact y_vret C hw h dX4_step_152
  · rw [if_neg hc] at h
    refine y_aload_n C dX4_step_57 (lv_at hl 0 rfl) ?_
    refine y_iconst C dX4_step_58 ?_
    obtain ⟨σ59, eσ59, h⟩ := nx_some h
    refine q4 C hw ho0 4 (by decide) wd_38 rfl rfl rfl (by decide) 0 4 rfl rfl dX4_step_59 (fun H locs hw => ?_)
    rw [← eσ59] at hw
    refine y_goto (tgt := 152) C dX4_step_62 (by decide) ?_
    exact y_vret C hw h dX4_step_152
set_option maxRecDepth 100000 in
set_option maxHeartbeats 4000000 in
theorem k_X4_step_0b {K0 : Int → St → Option (Int × St)} {o0 : Int} (C : Cx cX4_step RX4 1 none D cA adK adV A p s m args meth c)  (hK0 : ∀ (o0 : Int) (σ : St) (H : Heap) (locs : List Loc) (ls : Array Slot) (ho0 : kX o0 = (4, 0)), At D cA ad kX 151 R A s σ H locs → lv_has ls 1 [(0, .ref (ad o0))] → K0 o0 σ = some res → W p l e (rmU 2 40) s m args below meth c H locs 0 0 (MQ below (QV D cA ad kX 151 R A res) args s 0 0 A) (F0 m 0 ls [])) {σ : St} {H : Heap} {locs : List Loc} {ls : Array Slot} (ho0 : kX o0 = (4, 0)) (hw : At D cA ad kX 151 R A s σ H locs) (hl : lv_has ls 1 [(0, .ref (ad o0))]) (h : p_X4_step_0b K0 o0 σ = some res) : W p l e (rmU 2 40) s m args below meth c H locs 0 0 (MQ below (QV D cA ad kX 151 R A res) args s 0 0 A) (F0 m 0 ls []) := by
  have h := h
  unfold p_X4_step_0b at h
  refine y_aload_n C dX4_step_0 (lv_at hl 0 rfl) ?_
  refine g4 C hw ho0 6 (by decide) wd_43 rfl dX4_step_1 ?_
  refine y_aload_n C dX4_step_4 (lv_at hl 0 rfl) ?_
  refine g4 C hw ho0 1 (by decide) wd_30 rfl dX4_step_5 ?_
  refine y_icmp_ge (tgt := 38) C (a' := zm (σ o0 6)) (b' := zm (σ o0 1)) rfl rfl dX4_step_8 (by decide) (fun hc => ?_) (fun hc => ?_)
  · rw [if_pos hc] at h
    exact k_X4_step_38 C  ho0 hw hl h
  · rw [if_neg hc] at h
    refine y_aload_n C dX4_step_11 (lv_at hl 0 rfl) ?_
    refine g4 C hw ho0 0 (by decide) wd_29 rfl dX4_step_12 ?_
    refine y_aload_n C dX4_step_15 (lv_at hl 0 rfl) ?_
    refine g4 C hw ho0 6 (by decide) wd_43 rfl dX4_step_16 ?_
    obtain ⟨hg19, h⟩ := gd_some h
    refine y_iald C hw (ka4_bytes ho0) (i' := zm (σ o0 6)) rfl hg19 dX4_step_19 ?_
    refine y_bipush C dX4_step_20 (by decide) ?_
    refine y_icmp_ne (tgt := 38) C (a' := zm (σ (o0 + 1) (zm (σ o0 6)))) (b' := 32) rfl (by decide) dX4_step_22 (by decide) (fun hc => ?_) (fun hc => ?_)
    · rw [if_pos hc] at h
      refine y_aload_n C dX4_step_25 (lv_at hl 0 rfl) ?_
      refine y_dup C dX4_step_26 rfl ?_
      refine g4 C hw ho0 6 (by decide) wd_43 rfl dX4_step_27 ?_
      refine y_iconst C dX4_step_30 ?_
      refine y_iadd C dX4_step_31 ?_
      obtain ⟨σ32, eσ32, h⟩ := nx_some h
      refine q4 C hw ho0 6 (by decide) wd_43 rfl rfl rfl (by decide) ((σ o0 6) + 1) 6 rfl rfl dX4_step_32 (fun H locs hw => ?_)
      rw [← eσ32] at hw
      refine y_goto (tgt := 0) C dX4_step_35 (by decide) ?_
      exact hK0 _ _ _ _ _ ho0 hw hl h
    · rw [if_neg hc] at h
      exact k_X4_step_38 C  ho0 hw hl h
set_option maxRecDepth 100000 in
theorem k_X4_step_0  (C : Cx cX4_step RX4 1 none D cA adK adV A p s m args meth c)  : ∀ (n : Nat) (o0 : Int) (σ : St) (H : Heap) (locs : List Loc) (ls : Array Slot) (ho0 : kX o0 = (4, 0)), At D cA ad kX 151 R A s σ H locs → lv_has ls 1 [(0, .ref (ad o0))] → p_X4_step_0  n o0 σ = some res → W p l e (rmU 2 40) s m args below meth c H locs 0 0 (MQ below (QV D cA ad kX 151 R A res) args s 0 0 A) (F0 m 0 ls []) := by
  intro n
  induction n with
  | zero =>
    intro o0 σ H locs ls ho0 hw hl h
    have h : none = some res := h
    cases h
  | succ n ih =>
    intro o0 σ H locs ls ho0 hw hl h
    exact k_X4_step_0b C  ih ho0 hw hl h
theorem c_X4_step {l : Launch} {D : va_G} {cA : Nat → ClassId} {adK adV : Nat → Nat} {A : Nat → Prop} {ad : Int → Nat} {R : va_W} {σ : St} {res : Int × St} {o0 : Int} (ho0 : kX o0 = (4, 0)) (h : p_X4_step o0 σ = some res) : Met l yX4_step (wsU yX4_step cX4_step 1 none) (rmU 2 40) (va_Pc [.ref (ad o0)] (Pr D cA adK adV ad kX 151 R A σ)) (QV D cA ad kX 151 R A res) 0 0 A :=
  y_met (own := RX4) (by decide) rfl _ (Nat.le_of_ble_eq_true rfl) (fun p e s m args below meth c ls C hl hw => k_X4_step_0 C FU _ _ _ _ _ ho0 hw hl h)
/-! RungHouse$Reader.open -/
set_option maxRecDepth 100000 in
set_option maxHeartbeats 4000000 in
theorem k_X4_open_0  {o0 : Int} (C : Cx cX4_open RX4 1 none D cA adK adV A p s m args meth c)  {σ : St} {H : Heap} {locs : List Loc} {ls : Array Slot} (ho0 : kX o0 = (4, 0)) (hw : At D cA ad kX 151 R A s σ H locs) (hl : lv_has ls 1 [(0, .ref (ad o0))]) (h : p_X4_open  o0 σ = some res) : W p l e (rmU 3 60) s m args below meth c H locs 0 0 (MQ below (QV D cA ad kX 151 R A res) args s 0 0 A) (F0 m 0 ls []) := by
  have h := h
  unfold p_X4_open at h
  refine y_aload_n C dX4_open_0 (lv_at hl 0 rfl) ?_
  refine y_iconst C dX4_open_1 ?_
  obtain ⟨σ2, eσ2, h⟩ := nx_some h
  refine q4 C hw ho0 2 (by decide) wd_34 rfl rfl rfl (by decide) 0 2 rfl rfl dX4_open_2 (fun H locs hw => ?_)
  rw [← eσ2] at hw
  refine y_aload_n C dX4_open_5 (lv_at hl 0 rfl) ?_
  refine y_iconst C dX4_open_6 ?_
  obtain ⟨σ7, eσ7, h⟩ := nx_some h
  refine q4 C hw ho0 3 (by decide) wd_36 rfl rfl rfl (by decide) (-1) 3 rfl rfl dX4_open_7 (fun H locs hw => ?_)
  rw [← eσ7] at hw
  refine y_aload_n C dX4_open_10 (lv_at hl 0 rfl) ?_
  refine y_iconst C dX4_open_11 ?_
  obtain ⟨σ12, eσ12, h⟩ := nx_some h
  refine q4 C hw ho0 6 (by decide) wd_43 rfl rfl rfl (by decide) 0 6 rfl rfl dX4_open_12 (fun H locs hw => ?_)
  rw [← eσ12] at hw
  refine y_aload_n C dX4_open_15 (lv_at hl 0 rfl) ?_
  obtain ⟨x16, hc16, h⟩ := bd_some h
  refine y_cv (rest := []) hw (y_rV C hw ho0 (by decide) rfl rfl (c_X4_step ho0 hc16) mi_X4_step wd_363 wd_364 wd_365 rfl ⟨by decide, by decide⟩ hl rfl (Nat.le_of_ble_eq_true rfl) dX4_open_16) (fun H locs hw => ?_)
  exact y_vret C hw h dX4_open_19
theorem c_X4_open {l : Launch} {D : va_G} {cA : Nat → ClassId} {adK adV : Nat → Nat} {A : Nat → Prop} {ad : Int → Nat} {R : va_W} {σ : St} {res : Int × St} {o0 : Int} (ho0 : kX o0 = (4, 0)) (h : p_X4_open o0 σ = some res) : Met l yX4_open (wsU yX4_open cX4_open 1 none) (rmU 3 60) (va_Pc [.ref (ad o0)] (Pr D cA adK adV ad kX 151 R A σ)) (QV D cA ad kX 151 R A res) 0 0 A :=
  y_met (own := RX4) (by decide) rfl _ (Nat.le_of_ble_eq_true rfl) (fun p e s m args below meth c ls C hl hw => k_X4_open_0 C ho0 hw hl h)
/-! RungHouse$Reader.goesOn -/
set_option maxRecDepth 100000 in
set_option maxHeartbeats 4000000 in
theorem k_X4_goesOn_0  {o0 : Int} (C : Cx cX4_goesOn RX4 1 (some .boolean) D cA adK adV A p s m args meth c)  {σ : St} {H : Heap} {locs : List Loc} {ls : Array Slot} (ho0 : kX o0 = (4, 0)) (hw : At D cA ad kX 151 R A s σ H locs) (hl : lv_has ls 1 [(0, .ref (ad o0))]) (h : p_X4_goesOn  o0 σ = some res) : W p l e (rmU 0 0) s m args below meth c H locs 0 0 (MQ below (QI D cA ad kX 151 R A res) args s 0 0 A) (F0 m 0 ls []) := by
  have h := h
  unfold p_X4_goesOn at h
  refine y_aload_n C dX4_goesOn_0 (lv_at hl 0 rfl) ?_
  refine g4 C hw ho0 2 (by decide) wd_34 rfl dX4_goesOn_1 ?_
  refine y_if_ne (tgt := 18) C (a' := zm (σ o0 2)) rfl dX4_goesOn_4 (by decide) (fun hc => ?_) (fun hc => ?_)
  · rw [if_pos hc] at h
    refine y_aload_n C dX4_goesOn_7 (lv_at hl 0 rfl) ?_
    refine g4 C hw ho0 4 (by decide) wd_38 rfl dX4_goesOn_8 ?_
    refine y_if_eq (tgt := 18) C (a' := zm (σ o0 4)) rfl dX4_goesOn_11 (by decide) (fun hc => ?_) (fun hc => ?_)
    · rw [if_pos hc] at h
      refine y_iconst C dX4_goesOn_18 ?_
      exact y_zret C hw (by decide) h dX4_goesOn_19
    · rw [if_neg hc] at h
      refine y_iconst C dX4_goesOn_14 ?_
      refine y_goto (tgt := 19) C dX4_goesOn_15 (by decide) ?_
      exact y_zret C hw (by decide) h dX4_goesOn_19
  · rw [if_neg hc] at h
    refine y_iconst C dX4_goesOn_18 ?_
    exact y_zret C hw (by decide) h dX4_goesOn_19
theorem c_X4_goesOn {l : Launch} {D : va_G} {cA : Nat → ClassId} {adK adV : Nat → Nat} {A : Nat → Prop} {ad : Int → Nat} {R : va_W} {σ : St} {res : Int × St} {o0 : Int} (ho0 : kX o0 = (4, 0)) (h : p_X4_goesOn o0 σ = some res) : Met l yX4_goesOn (wsU yX4_goesOn cX4_goesOn 1 (some .boolean)) (rmU 0 0) (va_Pc [.ref (ad o0)] (Pr D cA adK adV ad kX 151 R A σ)) (QI D cA ad kX 151 R A res) 0 0 A :=
  y_met (own := RX4) (by decide) rfl _ (Nat.le_of_ble_eq_true rfl) (fun p e s m args below meth c ls C hl hw => k_X4_goesOn_0 C ho0 hw hl h)
/-! RungHouse$Reader.isWord -/
set_option maxRecDepth 100000 in
set_option maxHeartbeats 4000000 in
theorem k_X4_isWord_28b {K28 : Int → Nat → Int → St → Option (Int × St)} {o0 : Int} {w1 : Nat} {v2 : Int} (C : Cx cX4_isWord RX4 3 (some .boolean) D cA adK adV A p s m args meth c)  (hK28 : ∀ (o0 : Int) (w1 : Nat) (v2 : Int) (σ : St) (H : Heap) (locs : List Loc) (ls : Array Slot) (ho0 : kX o0 = (4, 0)) (hs1 : w1 < 11), At D cA ad kX 151 R A s σ H locs → lv_has ls 3 [(0, .ref (ad o0)), (1, .ref (adK w1)), (2, .int (zI v2))] → K28 o0 w1 v2 σ = some res → W p l e (rmU 4 90) s m args below meth c H locs 0 0 (MQ below (QI D cA ad kX 151 R A res) args s 0 0 A) (F0 m 28 ls [])) {σ : St} {H : Heap} {locs : List Loc} {ls : Array Slot} (ho0 : kX o0 = (4, 0)) (hs1 : w1 < 11) (hw : At D cA ad kX 151 R A s σ H locs) (hl : lv_has ls 3 [(0, .ref (ad o0)), (1, .ref (adK w1)), (2, .int (zI v2))]) (h : p_X4_isWord_28b K28 o0 w1 v2 σ = some res) : W p l e (rmU 4 90) s m args below meth c H locs 0 0 (MQ below (QI D cA ad kX 151 R A res) args s 0 0 A) (F0 m 28 ls []) := by
  have h := h
  unfold p_X4_isWord_28b at h
  refine y_iload_n C dX4_isWord_28 (lv_at hl 2 rfl) ?_
  refine y_aload_n C dX4_isWord_29 (lv_at hl 1 rfl) ?_
  refine y_slen C hw hl hs1 wd_390 ⟨by decide, by decide⟩ (Nat.le_of_ble_eq_true rfl) dX4_isWord_30 ?_
  refine y_icmp_ge (tgt := 63) C (a' := zm v2) (b' := zm (slen w1)) rfl rfl dX4_isWord_33 (by decide) (fun hc => ?_) (fun hc => ?_)
  · rw [if_pos hc] at h
    refine y_iconst C dX4_isWord_63 ?_
    exact y_zret C hw (by decide) h dX4_isWord_64
  · rw [if_neg hc] at h
    refine y_aload_n C dX4_isWord_36 (lv_at hl 0 rfl) ?_
    refine g4 C hw ho0 0 (by decide) wd_29 rfl dX4_isWord_37 ?_
    refine y_aload_n C dX4_isWord_40 (lv_at hl 0 rfl) ?_
    refine g4 C hw ho0 5 (by decide) wd_39 rfl dX4_isWord_41 ?_
    refine y_iload_n C dX4_isWord_44 (lv_at hl 2 rfl) ?_
    refine y_iadd C dX4_isWord_45 ?_
    obtain ⟨hg46, h⟩ := gd_some h
    refine y_iald C hw (ka4_bytes ho0) (i' := zm ((σ o0 5) + v2)) rfl hg46 dX4_isWord_46 ?_
    refine y_aload_n C dX4_isWord_47 (lv_at hl 1 rfl) ?_
    refine y_iload_n C dX4_isWord_48 (lv_at hl 2 rfl) ?_
    obtain ⟨hg49, h⟩ := gd_some h
    refine y_scharAt C hw hl hs1 (i' := zm v2) rfl hg49 wd_400 ⟨by decide, by decide⟩ (Nat.le_of_ble_eq_true rfl) dX4_isWord_49 ?_
    refine y_icmp_eq (tgt := 57) C (a' := zm (σ (o0 + 1) (zm ((σ o0 5) + v2)))) (b' := zm (sch w1 (zm v2))) rfl rfl dX4_isWord_52 (by decide) (fun hc => ?_) (fun hc => ?_)
    · rw [if_pos hc] at h
      refine y_iinc (lv' := [(2, .int (zI (v2 + 1))), (0, .ref (ad o0)), (1, .ref (adK w1))]) C dX4_isWord_57 hl (k := 2) rfl (by decide) rfl (fun ls hl => ?_)
      refine y_goto (tgt := 28) C dX4_isWord_60 (by decide) ?_
      exact hK28 _ _ _ _ _ _ _ ho0 hs1 hw (lv_sub hl [1, 2, 0] rfl) h
    · rw [if_neg hc] at h
      refine y_iconst C dX4_isWord_55 ?_
      exact y_zret C hw (by decide) h dX4_isWord_56
set_option maxRecDepth 100000 in
theorem k_X4_isWord_28  (C : Cx cX4_isWord RX4 3 (some .boolean) D cA adK adV A p s m args meth c)  : ∀ (n : Nat) (o0 : Int) (w1 : Nat) (v2 : Int) (σ : St) (H : Heap) (locs : List Loc) (ls : Array Slot) (ho0 : kX o0 = (4, 0)) (hs1 : w1 < 11), At D cA ad kX 151 R A s σ H locs → lv_has ls 3 [(0, .ref (ad o0)), (1, .ref (adK w1)), (2, .int (zI v2))] → p_X4_isWord_28  n o0 w1 v2 σ = some res → W p l e (rmU 4 90) s m args below meth c H locs 0 0 (MQ below (QI D cA ad kX 151 R A res) args s 0 0 A) (F0 m 28 ls []) := by
  intro n
  induction n with
  | zero =>
    intro o0 w1 v2 σ H locs ls ho0 hs1 hw hl h
    have h : none = some res := h
    cases h
  | succ n ih =>
    intro o0 w1 v2 σ H locs ls ho0 hs1 hw hl h
    exact k_X4_isWord_28b C  ih ho0 hs1 hw hl h
set_option maxRecDepth 100000 in
set_option maxHeartbeats 4000000 in
theorem k_X4_isWord_0  {o0 : Int} {w1 : Nat} (C : Cx cX4_isWord RX4 3 (some .boolean) D cA adK adV A p s m args meth c)  {σ : St} {H : Heap} {locs : List Loc} {ls : Array Slot} (ho0 : kX o0 = (4, 0)) (hs1 : w1 < 11) (hw : At D cA ad kX 151 R A s σ H locs) (hl : lv_has ls 3 [(0, .ref (ad o0)), (1, .ref (adK w1))]) (h : p_X4_isWord  o0 w1 σ = some res) : W p l e (rmU 4 90) s m args below meth c H locs 0 0 (MQ below (QI D cA ad kX 151 R A res) args s 0 0 A) (F0 m 0 ls []) := by
  have h := h
  unfold p_X4_isWord at h
  refine y_aload_n C dX4_isWord_0 (lv_at hl 0 rfl) ?_
  refine g4 C hw ho0 4 (by decide) wd_38 rfl dX4_isWord_1 ?_
  refine y_iconst C dX4_isWord_4 ?_
  refine y_icmp_ne (tgt := 24) C (a' := zm (σ o0 4)) (b' := 1) rfl (by decide) dX4_isWord_5 (by decide) (fun hc => ?_) (fun hc => ?_)
  · rw [if_pos hc] at h
    refine y_aload_n C dX4_isWord_8 (lv_at hl 0 rfl) ?_
    refine g4 C hw ho0 6 (by decide) wd_43 rfl dX4_isWord_9 ?_
    refine y_aload_n C dX4_isWord_12 (lv_at hl 0 rfl) ?_
    refine g4 C hw ho0 5 (by decide) wd_39 rfl dX4_isWord_13 ?_
    refine y_isub C dX4_isWord_16 ?_
    refine y_aload_n C dX4_isWord_17 (lv_at hl 1 rfl) ?_
    refine y_slen C hw hl hs1 wd_390 ⟨by decide, by decide⟩ (Nat.le_of_ble_eq_true rfl) dX4_isWord_18 ?_
    refine y_icmp_eq (tgt := 26) C (a' := zm ((σ o0 6) - (σ o0 5))) (b' := zm (slen w1)) rfl rfl dX4_isWord_21 (by decide) (fun hc => ?_) (fun hc => ?_)
    · rw [if_pos hc] at h
      refine y_iconst C dX4_isWord_26 ?_
      refine y_istore_n (lv' := [(2, .int (zI 0)), (0, .ref (ad o0)), (1, .ref (adK w1))]) C dX4_isWord_27 hl (by decide) rfl (fun ls hl => ?_)
      exact k_X4_isWord_28 C  FU _ _ _ _ _ _ _ ho0 hs1 hw (lv_sub hl [1, 2, 0] rfl) h
    · rw [if_neg hc] at h
      refine y_iconst C dX4_isWord_24 ?_
      exact y_zret C hw (by decide) h dX4_isWord_25
  · rw [if_neg hc] at h
    refine y_iconst C dX4_isWord_24 ?_
    exact y_zret C hw (by decide) h dX4_isWord_25
theorem c_X4_isWord {l : Launch} {D : va_G} {cA : Nat → ClassId} {adK adV : Nat → Nat} {A : Nat → Prop} {ad : Int → Nat} {R : va_W} {σ : St} {res : Int × St} {o0 : Int} {w1 : Nat} (ho0 : kX o0 = (4, 0)) (hs1 : w1 < 11) (h : p_X4_isWord o0 w1 σ = some res) : Met l yX4_isWord (wsU yX4_isWord cX4_isWord 3 (some .boolean)) (rmU 4 90) (va_Pc [.ref (ad o0), .ref (adK w1)] (Pr D cA adK adV ad kX 151 R A σ)) (QI D cA ad kX 151 R A res) 0 0 A :=
  y_met (own := RX4) (by decide) rfl _ (Nat.le_of_ble_eq_true rfl) (fun p e s m args below meth c ls C hl hw => k_X4_isWord_0 C ho0 hs1 hw hl h)
/-! RungHouse$Reader.fail -/
set_option maxRecDepth 100000 in
set_option maxHeartbeats 4000000 in
theorem k_X4_fail_0  {o0 : Int} {v1 : Int} {v2 : Int} (C : Cx cX4_fail RX4 3 none D cA adK adV A p s m args meth c)  {σ : St} {H : Heap} {locs : List Loc} {ls : Array Slot} (ho0 : kX o0 = (4, 0)) (hw : At D cA ad kX 151 R A s σ H locs) (hl : lv_has ls 3 [(0, .ref (ad o0)), (1, .int (zI v1)), (2, .int (zI v2))]) (h : p_X4_fail  o0 v1 v2 σ = some res) : W p l e (rmU 0 0) s m args below meth c H locs 0 0 (MQ below (QV D cA ad kX 151 R A res) args s 0 0 A) (F0 m 0 ls []) := by
  have h := h
  unfold p_X4_fail at h
  refine y_aload_n C dX4_fail_0 (lv_at hl 0 rfl) ?_
  refine g4 C hw ho0 2 (by decide) wd_34 rfl dX4_fail_1 ?_
  refine y_if_ne (tgt := 17) C (a' := zm (σ o0 2)) rfl dX4_fail_4 (by decide) (fun hc => ?_) (fun hc => ?_)
  · rw [if_pos hc] at h
    refine y_aload_n C dX4_fail_7 (lv_at hl 0 rfl) ?_
    refine y_iload_n C dX4_fail_8 (lv_at hl 1 rfl) ?_
    obtain ⟨σ9, eσ9, h⟩ := nx_some h
    refine q4 C hw ho0 2 (by decide) wd_34 rfl rfl rfl (by decide) v1 2 rfl rfl dX4_fail_9 (fun H locs hw => ?_)
    rw [← eσ9] at hw
    refine y_aload_n C dX4_fail_12 (lv_at hl 0 rfl) ?_
    refine y_iload_n C dX4_fail_13 (lv_at hl 2 rfl) ?_
    obtain ⟨σ14, eσ14, h⟩ := nx_some h
    refine q4 C hw ho0 3 (by decide) wd_36 rfl rfl rfl (by decide) v2 3 rfl rfl dX4_fail_14 (fun H locs hw => ?_)
    rw [← eσ14] at hw
    exact y_vret C hw h dX4_fail_17
  · rw [if_neg hc] at h
    exact y_vret C hw h dX4_fail_17
theorem c_X4_fail {l : Launch} {D : va_G} {cA : Nat → ClassId} {adK adV : Nat → Nat} {A : Nat → Prop} {ad : Int → Nat} {R : va_W} {σ : St} {res : Int × St} {o0 : Int} {v1 : Int} {v2 : Int} (ho0 : kX o0 = (4, 0)) (h : p_X4_fail o0 v1 v2 σ = some res) : Met l yX4_fail (wsU yX4_fail cX4_fail 3 none) (rmU 0 0) (va_Pc [.ref (ad o0), .int (zI v1), .int (zI v2)] (Pr D cA adK adV ad kX 151 R A σ)) (QV D cA ad kX 151 R A res) 0 0 A :=
  y_met (own := RX4) (by decide) rfl _ (Nat.le_of_ble_eq_true rfl) (fun p e s m args below meth c ls C hl hw => k_X4_fail_0 C ho0 hw hl h)
/-! RungHouse.isOut -/
set_option maxRecDepth 100000 in
set_option maxHeartbeats 4000000 in
theorem k_X7_isOut_10   (C : Cx cX7_isOut RX7 3 (some .boolean) D cA adK adV A p s m args meth c)  {σ : St} {H : Heap} {locs : List Loc} {ls : Array Slot}  (hw : At D cA ad kX 151 R A s σ H locs) (hl : lv_has ls 3 []) (h : p_X7_isOut_10   σ = some res) : W p l e (rmU 0 0) s m args below meth c H locs 0 0 (MQ below (QI D cA ad kX 151 R A res) args s 0 0 A) (F0 m 10 ls []) := by
  have h := h
  unfold p_X7_isOut_10 at h
  refine y_iconst C dX7_isOut_10 ?_
  refine y_goto (tgt := 15) C dX7_isOut_11 (by decide) ?_
  exact y_zret C hw (by decide) h dX7_isOut_15
set_option maxRecDepth 100000 in
set_option maxHeartbeats 4000000 in
theorem k_X7_isOut_0  {v0 : Int} {v1 : Int} {v2 : Int} (C : Cx cX7_isOut RX7 3 (some .boolean) D cA adK adV A p s m args meth c)  {σ : St} {H : Heap} {locs : List Loc} {ls : Array Slot}  (hw : At D cA ad kX 151 R A s σ H locs) (hl : lv_has ls 3 [(0, .int (zI v0)), (1, .int (zI v1)), (2, .int (zI v2))]) (h : p_X7_isOut  v0 v1 v2 σ = some res) : W p l e (rmU 0 0) s m args below meth c H locs 0 0 (MQ below (QI D cA ad kX 151 R A res) args s 0 0 A) (F0 m 0 ls []) := by
  have h := h
  unfold p_X7_isOut at h
  refine y_iload_n C dX7_isOut_0 (lv_at hl 0 rfl) ?_
  refine y_iload_n C dX7_isOut_1 (lv_at hl 1 rfl) ?_
  refine y_icmp_lt (tgt := 10) C (a' := zm v0) (b' := zm v1) rfl rfl dX7_isOut_2 (by decide) (fun hc => ?_) (fun hc => ?_)
  · rw [if_pos hc] at h
    exact k_X7_isOut_10 C   hw (lv_sub hl [] rfl) h
  · rw [if_neg hc] at h
    refine y_iload_n C dX7_isOut_5 (lv_at hl 0 rfl) ?_
    refine y_iload_n C dX7_isOut_6 (lv_at hl 2 rfl) ?_
    refine y_icmp_le (tgt := 14) C (a' := zm v0) (b' := zm v2) rfl rfl dX7_isOut_7 (by decide) (fun hc => ?_) (fun hc => ?_)
    · rw [if_pos hc] at h
      refine y_iconst C dX7_isOut_14 ?_
      exact y_zret C hw (by decide) h dX7_isOut_15
    · rw [if_neg hc] at h
      exact k_X7_isOut_10 C   hw (lv_sub hl [] rfl) h
theorem c_X7_isOut {l : Launch} {D : va_G} {cA : Nat → ClassId} {adK adV : Nat → Nat} {A : Nat → Prop} {ad : Int → Nat} {R : va_W} {σ : St} {res : Int × St} {v0 : Int} {v1 : Int} {v2 : Int}  (h : p_X7_isOut v0 v1 v2 σ = some res) : Met l yX7_isOut (wsU yX7_isOut cX7_isOut 3 (some .boolean)) (rmU 0 0) (va_Pc [.int (zI v0), .int (zI v1), .int (zI v2)] (Pr D cA adK adV ad kX 151 R A σ)) (QI D cA ad kX 151 R A res) 0 0 A :=
  y_met (own := RX7) (by decide) rfl _ (Nat.le_of_ble_eq_true rfl) (fun p e s m args below meth c ls C hl hw => k_X7_isOut_0 C  hw hl h)
/-! RungHouse$Reader.number -/
set_option maxRecDepth 100000 in
set_option maxHeartbeats 4000000 in
theorem k_X4_number_49  {o0 : Int} {v1 : Int} (C : Cx cX4_number RX4 4 (some .int) D cA adK adV A p s m args meth c)  {σ : St} {H : Heap} {locs : List Loc} {ls : Array Slot} (ho0 : kX o0 = (4, 0)) (hw : At D cA ad kX 151 R A s σ H locs) (hl : lv_has ls 4 [(0, .ref (ad o0)), (1, .int (zI v1))]) (h : p_X4_number_49  o0 v1 σ = some res) : W p l e (rmU 3 60) s m args below meth c H locs 0 0 (MQ below (QI D cA ad kX 151 R A res) args s 0 0 A) (F0 m 49 ls []) := by
  have h := h
  unfold p_X4_number_49 at h
  refine y_aload_n C dX4_number_49 (lv_at hl 0 rfl) ?_
  refine g4 C hw ho0 2 (by decide) wd_34 rfl dX4_number_50 ?_
  refine y_if_eq (tgt := 58) C (a' := zm (σ o0 2)) rfl dX4_number_53 (by decide) (fun hc => ?_) (fun hc => ?_)
  · rw [if_pos hc] at h
    refine y_aload_n C dX4_number_58 (lv_at hl 0 rfl) ?_
    refine g4 C hw ho0 8 (by decide) wd_45 rfl dX4_number_59 ?_
    refine y_istore_n (lv' := [(3, .int (zI (σ o0 8))), (0, .ref (ad o0)), (1, .int (zI v1))]) C dX4_number_62 hl (by decide) rfl (fun ls hl => ?_)
    refine y_aload_n C dX4_number_63 (lv_at hl 1 rfl) ?_
    obtain ⟨x64, hc64, h⟩ := bd_some h
    refine y_cv (rest := []) hw (y_rV C hw ho0 (by decide) rfl rfl (c_X4_step ho0 hc64) mi_X4_step wd_363 wd_364 wd_365 rfl ⟨by decide, by decide⟩ hl rfl (Nat.le_of_ble_eq_true rfl) dX4_number_64) (fun H locs hw => ?_)
    refine y_iload_n C dX4_number_67 (lv_at hl 0 rfl) ?_
    exact y_iret C hw h dX4_number_68
  · rw [if_neg hc] at h
    refine y_iload_n C dX4_number_56 (lv_at hl 1 rfl) ?_
    exact y_iret C hw h dX4_number_57
set_option maxRecDepth 100000 in
set_option maxHeartbeats 4000000 in
theorem k_X4_number_40  {o0 : Int} {v1 : Int} (C : Cx cX4_number RX4 4 (some .int) D cA adK adV A p s m args meth c)  {σ : St} {H : Heap} {locs : List Loc} {ls : Array Slot} (ho0 : kX o0 = (4, 0)) (hw : At D cA ad kX 151 R A s σ H locs) (hl : lv_has ls 4 [(0, .ref (ad o0)), (1, .int (zI v1))]) (h : p_X4_number_40  o0 v1 σ = some res) : W p l e (rmU 3 60) s m args below meth c H locs 0 0 (MQ below (QI D cA ad kX 151 R A res) args s 0 0 A) (F0 m 40 ls []) := by
  have h := h
  unfold p_X4_number_40 at h
  refine y_aload_n C dX4_number_40 (lv_at hl 0 rfl) ?_
  refine y_iconst C dX4_number_41 ?_
  refine y_aload_n C dX4_number_42 (lv_at hl 0 rfl) ?_
  refine g4 C hw ho0 5 (by decide) wd_39 rfl dX4_number_43 ?_
  obtain ⟨x46, hc46, h⟩ := bd_some h
  refine y_cv (rest := []) hw (y_rV C hw ho0 (by decide) rfl rfl (c_X4_fail ho0 hc46) mi_X4_fail wd_451 wd_443 wd_444 rfl ⟨by decide, by decide⟩ hl rfl (Nat.le_of_ble_eq_true rfl) dX4_number_46) (fun H locs hw => ?_)
  exact k_X4_number_49 C  ho0 hw hl h
set_option maxRecDepth 100000 in
set_option maxHeartbeats 4000000 in
theorem k_X4_number_0  {o0 : Int} {v1 : Int} {v2 : Int} (C : Cx cX4_number RX4 4 (some .int) D cA adK adV A p s m args meth c)  {σ : St} {H : Heap} {locs : List Loc} {ls : Array Slot} (ho0 : kX o0 = (4, 0)) (hw : At D cA ad kX 151 R A s σ H locs) (hl : lv_has ls 4 [(0, .ref (ad o0)), (1, .int (zI v1)), (2, .int (zI v2))]) (h : p_X4_number  o0 v1 v2 σ = some res) : W p l e (rmU 3 60) s m args below meth c H locs 0 0 (MQ below (QI D cA ad kX 151 R A res) args s 0 0 A) (F0 m 0 ls []) := by
  have h := h
  unfold p_X4_number at h
  refine y_aload_n C dX4_number_0 (lv_at hl 0 rfl) ?_
  refine g4 C hw ho0 4 (by decide) wd_38 rfl dX4_number_1 ?_
  refine y_iconst C dX4_number_4 ?_
  refine y_icmp_eq (tgt := 20) C (a' := zm (σ o0 4)) (b' := 2) rfl (by decide) dX4_number_5 (by decide) (fun hc => ?_) (fun hc => ?_)
  · rw [if_pos hc] at h
    refine y_aload_n C dX4_number_20 (lv_at hl 0 rfl) ?_
    refine g4 C hw ho0 7 (by decide) wd_44 rfl dX4_number_21 ?_
    refine y_iconst C dX4_number_24 ?_
    refine y_icmp_gt (tgt := 40) C (a' := zm (σ o0 7)) (b' := 3) rfl (by decide) dX4_number_25 (by decide) (fun hc => ?_) (fun hc => ?_)
    · rw [if_pos hc] at h
      exact k_X4_number_40 C  ho0 hw (lv_sub hl [0, 1] rfl) h
    · rw [if_neg hc] at h
      refine y_aload_n C dX4_number_28 (lv_at hl 0 rfl) ?_
      refine g4 C hw ho0 8 (by decide) wd_45 rfl dX4_number_29 ?_
      refine y_iload_n C dX4_number_32 (lv_at hl 1 rfl) ?_
      refine y_iload_n C dX4_number_33 (lv_at hl 2 rfl) ?_
      obtain ⟨x34, hc34, h⟩ := bd_some h
      refine y_ci (rest := []) hw (y_rN C hw (c_X7_isOut  hc34) mi_X7_isOut (List.mem_of_getElem? (i := 6) rfl) wd_342 rfl ⟨by decide, by decide⟩ hl rfl (Nat.le_of_ble_eq_true rfl) dX4_number_34) (fun H locs hw => ?_)
      refine y_if_eq (tgt := 49) C (a' := zm x34.1) rfl dX4_number_37 (by decide) (fun hc => ?_) (fun hc => ?_)
      · rw [if_pos hc] at h
        exact k_X4_number_49 C  ho0 hw (lv_sub hl [0, 1] rfl) h
      · rw [if_neg hc] at h
        exact k_X4_number_40 C  ho0 hw (lv_sub hl [0, 1] rfl) h
  · rw [if_neg hc] at h
    refine y_aload_n C dX4_number_8 (lv_at hl 0 rfl) ?_
    refine y_iconst C dX4_number_9 ?_
    refine y_aload_n C dX4_number_10 (lv_at hl 0 rfl) ?_
    refine g4 C hw ho0 5 (by decide) wd_39 rfl dX4_number_11 ?_
    obtain ⟨x14, hc14, h⟩ := bd_some h
    refine y_cv (rest := []) hw (y_rV C hw ho0 (by decide) rfl rfl (c_X4_fail ho0 hc14) mi_X4_fail wd_451 wd_443 wd_444 rfl ⟨by decide, by decide⟩ hl rfl (Nat.le_of_ble_eq_true rfl) dX4_number_14) (fun H locs hw => ?_)
    refine y_goto (tgt := 49) C dX4_number_17 (by decide) ?_
    exact k_X4_number_49 C  ho0 hw (lv_sub hl [0, 1] rfl) h
theorem c_X4_number {l : Launch} {D : va_G} {cA : Nat → ClassId} {adK adV : Nat → Nat} {A : Nat → Prop} {ad : Int → Nat} {R : va_W} {σ : St} {res : Int × St} {o0 : Int} {v1 : Int} {v2 : Int} (ho0 : kX o0 = (4, 0)) (h : p_X4_number o0 v1 v2 σ = some res) : Met l yX4_number (wsU yX4_number cX4_number 4 (some .int)) (rmU 3 60) (va_Pc [.ref (ad o0), .int (zI v1), .int (zI v2)] (Pr D cA adK adV ad kX 151 R A σ)) (QI D cA ad kX 151 R A res) 0 0 A :=
  y_met (own := RX4) (by decide) rfl _ (Nat.le_of_ble_eq_true rfl) (fun p e s m args below meth c ls C hl hw => k_X4_number_0 C ho0 hw hl h)
/-! RungHouse$Reader.closeClause -/
set_option maxRecDepth 100000 in
set_option maxHeartbeats 4000000 in
theorem k_X4_closeClause_17  {o0 : Int} (C : Cx cX4_closeClause RX4 1 none D cA adK adV A p s m args meth c)  {σ : St} {H : Heap} {locs : List Loc} {ls : Array Slot} (ho0 : kX o0 = (4, 0)) (hw : At D cA ad kX 151 R A s σ H locs) (hl : lv_has ls 1 [(0, .ref (ad o0))]) (h : p_X4_closeClause_17  o0 σ = some res) : W p l e (rmU 3 60) s m args below meth c H locs 0 0 (MQ below (QV D cA ad kX 151 R A res) args s 0 0 A) (F0 m 17 ls []) := by
  have h := h
  unfold p_X4_closeClause_17 at h
  refine y_aload_n C dX4_closeClause_17 (lv_at hl 0 rfl) ?_
  refine g4 C hw ho0 2 (by decide) wd_34 rfl dX4_closeClause_18 ?_
  refine y_if_ne (tgt := 28) C (a' := zm (σ o0 2)) rfl dX4_closeClause_21 (by decide) (fun hc => ?_) (fun hc => ?_)
  · rw [if_pos hc] at h
    refine y_aload_n C dX4_closeClause_24 (lv_at hl 0 rfl) ?_
    obtain ⟨x25, hc25, h⟩ := bd_some h
    refine y_cv (rest := []) hw (y_rV C hw ho0 (by decide) rfl rfl (c_X4_step ho0 hc25) mi_X4_step wd_363 wd_364 wd_365 rfl ⟨by decide, by decide⟩ hl rfl (Nat.le_of_ble_eq_true rfl) dX4_closeClause_25) (fun H locs hw => ?_)
    exact y_vret C hw h dX4_closeClause_28
  · rw [if_neg hc] at h
    exact y_vret C hw h dX4_closeClause_28
set_option maxRecDepth 100000 in
set_option maxHeartbeats 4000000 in
theorem k_X4_closeClause_0  {o0 : Int} (C : Cx cX4_closeClause RX4 1 none D cA adK adV A p s m args meth c)  {σ : St} {H : Heap} {locs : List Loc} {ls : Array Slot} (ho0 : kX o0 = (4, 0)) (hw : At D cA ad kX 151 R A s σ H locs) (hl : lv_has ls 1 [(0, .ref (ad o0))]) (h : p_X4_closeClause  o0 σ = some res) : W p l e (rmU 3 60) s m args below meth c H locs 0 0 (MQ below (QV D cA ad kX 151 R A res) args s 0 0 A) (F0 m 0 ls []) := by
  have h := h
  unfold p_X4_closeClause at h
  refine y_aload_n C dX4_closeClause_0 (lv_at hl 0 rfl) ?_
  refine g4 C hw ho0 4 (by decide) wd_38 rfl dX4_closeClause_1 ?_
  refine y_iconst C dX4_closeClause_4 ?_
  refine y_icmp_eq (tgt := 17) C (a' := zm (σ o0 4)) (b' := 3) rfl (by decide) dX4_closeClause_5 (by decide) (fun hc => ?_) (fun hc => ?_)
  · rw [if_pos hc] at h
    exact k_X4_closeClause_17 C  ho0 hw hl h
  · rw [if_neg hc] at h
    refine y_aload_n C dX4_closeClause_8 (lv_at hl 0 rfl) ?_
    refine y_iconst C dX4_closeClause_9 ?_
    refine y_aload_n C dX4_closeClause_10 (lv_at hl 0 rfl) ?_
    refine g4 C hw ho0 5 (by decide) wd_39 rfl dX4_closeClause_11 ?_
    obtain ⟨x14, hc14, h⟩ := bd_some h
    refine y_cv (rest := []) hw (y_rV C hw ho0 (by decide) rfl rfl (c_X4_fail ho0 hc14) mi_X4_fail wd_451 wd_443 wd_444 rfl ⟨by decide, by decide⟩ hl rfl (Nat.le_of_ble_eq_true rfl) dX4_closeClause_14) (fun H locs hw => ?_)
    exact k_X4_closeClause_17 C  ho0 hw hl h
theorem c_X4_closeClause {l : Launch} {D : va_G} {cA : Nat → ClassId} {adK adV : Nat → Nat} {A : Nat → Prop} {ad : Int → Nat} {R : va_W} {σ : St} {res : Int × St} {o0 : Int} (ho0 : kX o0 = (4, 0)) (h : p_X4_closeClause o0 σ = some res) : Met l yX4_closeClause (wsU yX4_closeClause cX4_closeClause 1 none) (rmU 3 60) (va_Pc [.ref (ad o0)] (Pr D cA adK adV ad kX 151 R A σ)) (QV D cA ad kX 151 R A res) 0 0 A :=
  y_met (own := RX4) (by decide) rfl _ (Nat.le_of_ble_eq_true rfl) (fun p e s m args below meth c ls C hl hw => k_X4_closeClause_0 C ho0 hw hl h)
/-! RungHouse$House.readRung -/
set_option maxRecDepth 100000 in
set_option maxHeartbeats 4000000 in
theorem k_X0_readRung_68  {o0 : Int} {o1 : Int} (C : Cx cX0_readRung RX0 2 none D cA adK adV A p s m args meth c)  {σ : St} {H : Heap} {locs : List Loc} {ls : Array Slot} (ho0 : kX o0 = (0, 0)) (ho1 : kX o1 = (4, 0)) (hw : At D cA ad kX 151 R A s σ H locs) (hl : lv_has ls 2 [(0, .ref (ad o0)), (1, .ref (ad o1))]) (h : p_X0_readRung_68  o0 o1 σ = some res) : W p l e (rmU 5 112) s m args below meth c H locs 0 0 (MQ below (QV D cA ad kX 151 R A res) args s 0 0 A) (F0 m 68 ls []) := by
  have h := h
  unfold p_X0_readRung_68 at h
  refine y_aload_n C dX0_readRung_68 (lv_at hl 1 rfl) ?_
  obtain ⟨x69, hc69, h⟩ := bd_some h
  refine y_cv (rest := []) hw (y_rV C hw ho1 (by decide) rfl rfl (c_X4_closeClause ho1 hc69) mi_X4_closeClause wd_454 wd_455 wd_456 rfl ⟨by decide, by decide⟩ hl rfl (Nat.le_of_ble_eq_true rfl) dX0_readRung_69) (fun H locs hw => ?_)
  refine y_aload_n C dX0_readRung_72 (lv_at hl 0 rfl) ?_
  refine y_dup C dX0_readRung_73 rfl ?_
  refine g0 C hw ho0 1 (by decide) wd_83 rfl dX0_readRung_74 ?_
  refine y_iconst C dX0_readRung_77 ?_
  refine y_iadd C dX0_readRung_78 ?_
  obtain ⟨σ79, eσ79, h⟩ := nx_some h
  refine q0 C hw ho0 1 (by decide) wd_83 rfl rfl rfl (by decide) ((x69.2 o0 1) + 1) 1 rfl rfl dX0_readRung_79 (fun H locs hw => ?_)
  rw [← eσ79] at hw
  exact y_vret C hw h dX0_readRung_82
set_option maxRecDepth 100000 in
set_option maxHeartbeats 4000000 in
theorem k_X0_readRung_0  {o0 : Int} {o1 : Int} (C : Cx cX0_readRung RX0 2 none D cA adK adV A p s m args meth c)  {σ : St} {H : Heap} {locs : List Loc} {ls : Array Slot} (ho0 : kX o0 = (0, 0)) (ho1 : kX o1 = (4, 0)) (hw : At D cA ad kX 151 R A s σ H locs) (hl : lv_has ls 2 [(0, .ref (ad o0)), (1, .ref (ad o1))]) (h : p_X0_readRung  o0 o1 σ = some res) : W p l e (rmU 5 112) s m args below meth c H locs 0 0 (MQ below (QV D cA ad kX 151 R A res) args s 0 0 A) (F0 m 0 ls []) := by
  have h := h
  unfold p_X0_readRung at h
  refine y_aload_n C dX0_readRung_0 (lv_at hl 0 rfl) ?_
  refine g0 C hw ho0 1 (by decide) wd_83 rfl dX0_readRung_1 ?_
  refine y_bipush C dX0_readRung_4 (by decide) ?_
  refine y_icmp_lt (tgt := 19) C (a' := zm (σ o0 1)) (b' := 10) rfl (by decide) dX0_readRung_6 (by decide) (fun hc => ?_) (fun hc => ?_)
  · rw [if_pos hc] at h
    refine y_aload_n C dX0_readRung_19 (lv_at hl 1 rfl) ?_
    obtain ⟨x20, hc20, h⟩ := bd_some h
    refine y_cv (rest := []) hw (y_rV C hw ho1 (by decide) rfl rfl (c_X4_step ho1 hc20) mi_X4_step wd_446 wd_364 wd_365 rfl ⟨by decide, by decide⟩ hl rfl (Nat.le_of_ble_eq_true rfl) dX0_readRung_20) (fun H locs hw => ?_)
    refine y_aload_n C dX0_readRung_23 (lv_at hl 0 rfl) ?_
    refine g0 C hw ho0 0 (by decide) wd_79 rfl dX0_readRung_24 ?_
    refine y_aload_n C dX0_readRung_27 (lv_at hl 0 rfl) ?_
    refine g0 C hw ho0 1 (by decide) wd_83 rfl dX0_readRung_28 ?_
    refine y_aload_n C dX0_readRung_31 (lv_at hl 1 rfl) ?_
    refine y_iconst C dX0_readRung_32 ?_
    refine y_sipush C dX0_readRung_33 (by decide) ?_
    obtain ⟨x36, hc36, h⟩ := bd_some h
    refine y_ci (rest := [.int (zI (x20.2 o0 1)), .ref (ad (o0 + 1))]) hw (y_rV C hw ho1 (by decide) rfl rfl (c_X4_number ho1 hc36) mi_X4_number wd_447 wd_448 wd_449 rfl ⟨by decide, by decide⟩ hl rfl (Nat.le_of_ble_eq_true rfl) dX0_readRung_36) (fun H locs hw => ?_)
    obtain ⟨hg39, h⟩ := gd_some h
    obtain ⟨σ39, eσ39, h⟩ := nx_some h
    refine y_iast C hw (ka0_prices ho0) (i' := zm (x20.2 o0 1)) rfl hg39 dX0_readRung_39 (fun H locs hw => ?_)
    rw [← eσ39] at hw
    refine y_aload_n C dX0_readRung_40 (lv_at hl 1 rfl) ?_
    refine y_ldcS C (i := 1) (by decide) rfl rfl dX0_readRung_41 ?_
    obtain ⟨x43, hc43, h⟩ := bd_some h
    refine y_ci (rest := []) hw (y_rV C hw ho1 (by decide) rfl rfl (c_X4_isWord ho1 (by decide) hc43) mi_X4_isWord wd_386 wd_387 wd_388 rfl ⟨by decide, by decide⟩ hl rfl (Nat.le_of_ble_eq_true rfl) dX0_readRung_43) (fun H locs hw => ?_)
    refine y_if_eq (tgt := 68) C (a' := zm x43.1) rfl dX0_readRung_46 (by decide) (fun hc => ?_) (fun hc => ?_)
    · rw [if_pos hc] at h
      exact k_X0_readRung_68 C  ho0 ho1 hw hl h
    · rw [if_neg hc] at h
      refine y_aload_n C dX0_readRung_49 (lv_at hl 0 rfl) ?_
      refine y_aload_n C dX0_readRung_50 (lv_at hl 0 rfl) ?_
      refine g0 C hw ho0 2 (by decide) wd_87 rfl dX0_readRung_51 ?_
      refine y_iconst C dX0_readRung_54 ?_
      refine y_aload_n C dX0_readRung_55 (lv_at hl 0 rfl) ?_
      refine g0 C hw ho0 1 (by decide) wd_83 rfl dX0_readRung_56 ?_
      refine y_ishl C dX0_readRung_59 ?_
      refine y_ior C dX0_readRung_60 ?_
      obtain ⟨σ61, eσ61, h⟩ := nx_some h
      refine q0 C hw ho0 2 (by decide) wd_87 rfl rfl rfl (by decide) (zor (x43.2 o0 2) (zshl 1 (x43.2 o0 1))) 2 rfl rfl dX0_readRung_61 (fun H locs hw => ?_)
      rw [← eσ61] at hw
      refine y_aload_n C dX0_readRung_64 (lv_at hl 1 rfl) ?_
      obtain ⟨x65, hc65, h⟩ := bd_some h
      refine y_cv (rest := []) hw (y_rV C hw ho1 (by decide) rfl rfl (c_X4_step ho1 hc65) mi_X4_step wd_446 wd_364 wd_365 rfl ⟨by decide, by decide⟩ hl rfl (Nat.le_of_ble_eq_true rfl) dX0_readRung_65) (fun H locs hw => ?_)
      exact k_X0_readRung_68 C  ho0 ho1 hw hl h
  · rw [if_neg hc] at h
    refine y_aload_n C dX0_readRung_9 (lv_at hl 1 rfl) ?_
    refine y_iconst C dX0_readRung_10 ?_
    refine y_aload_n C dX0_readRung_11 (lv_at hl 1 rfl) ?_
    refine g4 C hw ho1 5 (by decide) wd_42 rfl dX0_readRung_12 ?_
    obtain ⟨x15, hc15, h⟩ := bd_some h
    refine y_cv (rest := []) hw (y_rV C hw ho1 (by decide) rfl rfl (c_X4_fail ho1 hc15) mi_X4_fail wd_442 wd_443 wd_444 rfl ⟨by decide, by decide⟩ hl rfl (Nat.le_of_ble_eq_true rfl) dX0_readRung_15) (fun H locs hw => ?_)
    exact y_vret C hw h dX0_readRung_18
theorem c_X0_readRung {l : Launch} {D : va_G} {cA : Nat → ClassId} {adK adV : Nat → Nat} {A : Nat → Prop} {ad : Int → Nat} {R : va_W} {σ : St} {res : Int × St} {o0 : Int} {o1 : Int} (ho0 : kX o0 = (0, 0)) (ho1 : kX o1 = (4, 0)) (h : p_X0_readRung o0 o1 σ = some res) : Met l yX0_readRung (wsU yX0_readRung cX0_readRung 2 none) (rmU 5 112) (va_Pc [.ref (ad o0), .ref (ad o1)] (Pr D cA adK adV ad kX 151 R A σ)) (QV D cA ad kX 151 R A res) 0 0 A :=
  y_met (own := RX0) (by decide) rfl _ (Nat.le_of_ble_eq_true rfl) (fun p e s m args below meth c ls C hl hw => k_X0_readRung_0 C ho0 ho1 hw hl h)
/-! RungHouse$House.stepTold -/
set_option maxRecDepth 100000 in
set_option maxHeartbeats 4000000 in
theorem k_X0_stepTold_0  {o0 : Int} (C : Cx cX0_stepTold RX0 1 (some .int) D cA adK adV A p s m args meth c)  {σ : St} {H : Heap} {locs : List Loc} {ls : Array Slot} (ho0 : kX o0 = (4, 0)) (hw : At D cA ad kX 151 R A s σ H locs) (hl : lv_has ls 1 [(0, .ref (ad o0))]) (h : p_X0_stepTold  o0 σ = some res) : W p l e (rmU 5 112) s m args below meth c H locs 0 0 (MQ below (QI D cA ad kX 151 R A res) args s 0 0 A) (F0 m 0 ls []) := by
  have h := h
  unfold p_X0_stepTold at h
  refine y_aload_n C dX0_stepTold_0 (lv_at hl 0 rfl) ?_
  refine y_ldcS C (i := 2) (by decide) rfl rfl dX0_stepTold_1 ?_
  obtain ⟨x3, hc3, h⟩ := bd_some h
  refine y_ci (rest := []) hw (y_rV C hw ho0 (by decide) rfl rfl (c_X4_isWord ho0 (by decide) hc3) mi_X4_isWord wd_386 wd_387 wd_388 rfl ⟨by decide, by decide⟩ hl rfl (Nat.le_of_ble_eq_true rfl) dX0_stepTold_3) (fun H locs hw => ?_)
  refine y_if_eq (tgt := 11) C (a' := zm x3.1) rfl dX0_stepTold_6 (by decide) (fun hc => ?_) (fun hc => ?_)
  · rw [if_pos hc] at h
    refine y_aload_n C dX0_stepTold_11 (lv_at hl 0 rfl) ?_
    refine y_ldcS C (i := 3) (by decide) rfl rfl dX0_stepTold_12 ?_
    obtain ⟨x14, hc14, h⟩ := bd_some h
    refine y_ci (rest := []) hw (y_rV C hw ho0 (by decide) rfl rfl (c_X4_isWord ho0 (by decide) hc14) mi_X4_isWord wd_386 wd_387 wd_388 rfl ⟨by decide, by decide⟩ hl rfl (Nat.le_of_ble_eq_true rfl) dX0_stepTold_14) (fun H locs hw => ?_)
    refine y_if_eq (tgt := 22) C (a' := zm x14.1) rfl dX0_stepTold_17 (by decide) (fun hc => ?_) (fun hc => ?_)
    · rw [if_pos hc] at h
      refine y_aload_n C dX0_stepTold_22 (lv_at hl 0 rfl) ?_
      refine y_ldcS C (i := 4) (by decide) rfl rfl dX0_stepTold_23 ?_
      obtain ⟨x25, hc25, h⟩ := bd_some h
      refine y_ci (rest := []) hw (y_rV C hw ho0 (by decide) rfl rfl (c_X4_isWord ho0 (by decide) hc25) mi_X4_isWord wd_386 wd_387 wd_388 rfl ⟨by decide, by decide⟩ hl rfl (Nat.le_of_ble_eq_true rfl) dX0_stepTold_25) (fun H locs hw => ?_)
      refine y_if_eq (tgt := 33) C (a' := zm x25.1) rfl dX0_stepTold_28 (by decide) (fun hc => ?_) (fun hc => ?_)
      · rw [if_pos hc] at h
        refine y_aload_n C dX0_stepTold_33 (lv_at hl 0 rfl) ?_
        refine y_ldcS C (i := 5) (by decide) rfl rfl dX0_stepTold_34 ?_
        obtain ⟨x36, hc36, h⟩ := bd_some h
        refine y_ci (rest := []) hw (y_rV C hw ho0 (by decide) rfl rfl (c_X4_isWord ho0 (by decide) hc36) mi_X4_isWord wd_386 wd_387 wd_388 rfl ⟨by decide, by decide⟩ hl rfl (Nat.le_of_ble_eq_true rfl) dX0_stepTold_36) (fun H locs hw => ?_)
        refine y_if_eq (tgt := 46) C (a' := zm x36.1) rfl dX0_stepTold_39 (by decide) (fun hc => ?_) (fun hc => ?_)
        · rw [if_pos hc] at h
          refine y_iconst C dX0_stepTold_46 ?_
          exact y_iret C hw h dX0_stepTold_47
        · rw [if_neg hc] at h
          refine y_iconst C dX0_stepTold_42 ?_
          refine y_goto (tgt := 47) C dX0_stepTold_43 (by decide) ?_
          exact y_iret C hw h dX0_stepTold_47
      · rw [if_neg hc] at h
        refine y_iconst C dX0_stepTold_31 ?_
        exact y_iret C hw h dX0_stepTold_32
    · rw [if_neg hc] at h
      refine y_iconst C dX0_stepTold_20 ?_
      exact y_iret C hw h dX0_stepTold_21
  · rw [if_neg hc] at h
    refine y_iconst C dX0_stepTold_9 ?_
    exact y_iret C hw h dX0_stepTold_10
theorem c_X0_stepTold {l : Launch} {D : va_G} {cA : Nat → ClassId} {adK adV : Nat → Nat} {A : Nat → Prop} {ad : Int → Nat} {R : va_W} {σ : St} {res : Int × St} {o0 : Int} (ho0 : kX o0 = (4, 0)) (h : p_X0_stepTold o0 σ = some res) : Met l yX0_stepTold (wsU yX0_stepTold cX0_stepTold 1 (some .int)) (rmU 5 112) (va_Pc [.ref (ad o0)] (Pr D cA adK adV ad kX 151 R A σ)) (QI D cA ad kX 151 R A res) 0 0 A :=
  y_met (own := RX0) (by decide) rfl _ (Nat.le_of_ble_eq_true rfl) (fun p e s m args below meth c ls C hl hw => k_X0_stepTold_0 C ho0 hw hl h)
/-! RungHouse$House.setStep -/
set_option maxRecDepth 100000 in
set_option maxHeartbeats 4000000 in
theorem k_X0_setStep_0  {o0 : Int} {v1 : Int} {v2 : Int} (C : Cx cX0_setStep RX0 3 none D cA adK adV A p s m args meth c)  {σ : St} {H : Heap} {locs : List Loc} {ls : Array Slot} (ho0 : kX o0 = (0, 0)) (hw : At D cA ad kX 151 R A s σ H locs) (hl : lv_has ls 3 [(0, .ref (ad o0)), (1, .int (zI v1)), (2, .int (zI v2))]) (h : p_X0_setStep  o0 v1 v2 σ = some res) : W p l e (rmU 0 0) s m args below meth c H locs 0 0 (MQ below (QV D cA ad kX 151 R A res) args s 0 0 A) (F0 m 0 ls []) := by
  have h := h
  unfold p_X0_setStep at h
  refine y_iload_n C dX0_setStep_0 (lv_at hl 1 rfl) ?_
  by_cases hc0 : zm v1 = 0
  · rw [if_pos hc0] at h
    refine y_tabIn (tgt := 28) C dX0_setStep_1 hc0 (by decide) (by decide) rfl (by decide) ?_
    refine y_aload_n C dX0_setStep_28 (lv_at hl 0 rfl) ?_
    refine y_iload_n C dX0_setStep_29 (lv_at hl 2 rfl) ?_
    obtain ⟨σ30, eσ30, h⟩ := nx_some h
    refine q0 C hw ho0 3 (by decide) wd_89 rfl rfl rfl (by decide) v2 3 rfl rfl dX0_setStep_30 (fun H locs hw => ?_)
    rw [← eσ30] at hw
    refine y_goto (tgt := 57) C dX0_setStep_33 (by decide) ?_
    exact y_vret C hw h dX0_setStep_57
  · rw [if_neg hc0] at h
    by_cases hc1 : zm v1 = 1
    · rw [if_pos hc1] at h
      refine y_tabIn (tgt := 36) C dX0_setStep_1 hc1 (by decide) (by decide) rfl (by decide) ?_
      refine y_aload_n C dX0_setStep_36 (lv_at hl 0 rfl) ?_
      refine y_iload_n C dX0_setStep_37 (lv_at hl 2 rfl) ?_
      obtain ⟨σ38, eσ38, h⟩ := nx_some h
      refine q0 C hw ho0 4 (by decide) wd_91 rfl rfl rfl (by decide) v2 4 rfl rfl dX0_setStep_38 (fun H locs hw => ?_)
      rw [← eσ38] at hw
      refine y_goto (tgt := 57) C dX0_setStep_41 (by decide) ?_
      exact y_vret C hw h dX0_setStep_57
    · rw [if_neg hc1] at h
      by_cases hc2 : zm v1 = 2
      · rw [if_pos hc2] at h
        refine y_tabIn (tgt := 44) C dX0_setStep_1 hc2 (by decide) (by decide) rfl (by decide) ?_
        refine y_aload_n C dX0_setStep_44 (lv_at hl 0 rfl) ?_
        refine y_iload_n C dX0_setStep_45 (lv_at hl 2 rfl) ?_
        obtain ⟨σ46, eσ46, h⟩ := nx_some h
        refine q0 C hw ho0 5 (by decide) wd_93 rfl rfl rfl (by decide) v2 5 rfl rfl dX0_setStep_46 (fun H locs hw => ?_)
        rw [← eσ46] at hw
        refine y_goto (tgt := 57) C dX0_setStep_49 (by decide) ?_
        exact y_vret C hw h dX0_setStep_57
      · rw [if_neg hc2] at h
        refine y_tabOut (tgt := 52) C dX0_setStep_1 (by omega) (by decide) ?_
        refine y_aload_n C dX0_setStep_52 (lv_at hl 0 rfl) ?_
        refine y_iload_n C dX0_setStep_53 (lv_at hl 2 rfl) ?_
        obtain ⟨σ54, eσ54, h⟩ := nx_some h
        refine q0 C hw ho0 6 (by decide) wd_95 rfl rfl rfl (by decide) v2 6 rfl rfl dX0_setStep_54 (fun H locs hw => ?_)
        rw [← eσ54] at hw
        exact y_vret C hw h dX0_setStep_57
theorem c_X0_setStep {l : Launch} {D : va_G} {cA : Nat → ClassId} {adK adV : Nat → Nat} {A : Nat → Prop} {ad : Int → Nat} {R : va_W} {σ : St} {res : Int × St} {o0 : Int} {v1 : Int} {v2 : Int} (ho0 : kX o0 = (0, 0)) (h : p_X0_setStep o0 v1 v2 σ = some res) : Met l yX0_setStep (wsU yX0_setStep cX0_setStep 3 none) (rmU 0 0) (va_Pc [.ref (ad o0), .int (zI v1), .int (zI v2)] (Pr D cA adK adV ad kX 151 R A σ)) (QV D cA ad kX 151 R A res) 0 0 A :=
  y_met (own := RX0) (by decide) rfl _ (Nat.le_of_ble_eq_true rfl) (fun p e s m args below meth c ls C hl hw => k_X0_setStep_0 C ho0 hw hl h)
/-! RungHouse$House.readStep -/
set_option maxRecDepth 100000 in
set_option maxHeartbeats 4000000 in
theorem k_X0_readStep_71  {o0 : Int} {o1 : Int} {v2 : Int} {v3 : Int} {os0 : Int} {vs1 : Int} {vs2 : Int} (C : Cx cX0_readStep RX0 5 (some .int) D cA adK adV A p s m args meth c)  {σ : St} {H : Heap} {locs : List Loc} {ls : Array Slot} (ho0 : kX o0 = (0, 0)) (ho1 : kX o1 = (4, 0)) (hos0 : kX os0 = (4, 0)) (hw : At D cA ad kX 151 R A s σ H locs) (hl : lv_has ls 5 [(0, .ref (ad o0)), (1, .ref (ad o1)), (2, .int (zI v2)), (3, .int (zI v3))]) (h : p_X0_readStep_71  o0 o1 v2 v3 os0 vs1 vs2 σ = some res) : W p l e (rmU 6 132) s m args below meth c H locs 0 0 (MQ below (QI D cA ad kX 151 R A res) args s 0 0 A) (F0 m 71 ls [.int (zI vs2), .int (zI vs1), .ref (ad os0)]) := by
  have h := h
  unfold p_X0_readStep_71 at h
  obtain ⟨x71, hc71, h⟩ := bd_some h
  refine y_ci (rest := []) hw (y_rV C hw hos0 (by decide) rfl rfl (c_X4_number hos0 hc71) mi_X4_number wd_447 wd_448 wd_449 rfl ⟨by decide, by decide⟩ hl rfl (Nat.le_of_ble_eq_true rfl) dX0_readStep_71) (fun H locs hw => ?_)
  refine y_istore (lv' := [(4, .int (zI x71.1)), (0, .ref (ad o0)), (1, .ref (ad o1)), (2, .int (zI v2)), (3, .int (zI v3))]) C dX0_readStep_74 hl (by decide) rfl (fun ls hl => ?_)
  refine y_aload_n C dX0_readStep_76 (lv_at hl 2 rfl) ?_
  obtain ⟨x77, hc77, h⟩ := bd_some h
  refine y_cv (rest := []) hw (y_rV C hw ho1 (by decide) rfl rfl (c_X4_closeClause ho1 hc77) mi_X4_closeClause wd_454 wd_455 wd_456 rfl ⟨by decide, by decide⟩ hl rfl (Nat.le_of_ble_eq_true rfl) dX0_readStep_77) (fun H locs hw => ?_)
  refine y_aload_n C dX0_readStep_80 (lv_at hl 1 rfl) ?_
  refine y_iload_n C dX0_readStep_81 (lv_at hl 4 rfl) ?_
  refine y_iload C dX0_readStep_82 (lv_at hl 0 rfl) ?_
  obtain ⟨x84, hc84, h⟩ := bd_some h
  refine y_cv (rest := []) hw (y_rV C hw ho0 (by decide) rfl rfl (c_X0_setStep ho0 hc84) mi_X0_setStep wd_469 wd_471 ws_4 rfl ⟨by decide, by decide⟩ hl rfl (Nat.le_of_ble_eq_true rfl) dX0_readStep_84) (fun H locs hw => ?_)
  refine y_iload_n C dX0_readStep_87 (lv_at hl 3 rfl) ?_
  refine y_iconst C dX0_readStep_88 ?_
  refine y_iload_n C dX0_readStep_89 (lv_at hl 4 rfl) ?_
  refine y_ishl C dX0_readStep_90 ?_
  refine y_ior C dX0_readStep_91 ?_
  exact y_iret C hw h dX0_readStep_92
set_option maxRecDepth 100000 in
set_option maxHeartbeats 4000000 in
theorem k_X0_readStep_59  {o0 : Int} {o1 : Int} {v2 : Int} {v3 : Int} {os0 : Int} {vs1 : Int} (C : Cx cX0_readStep RX0 5 (some .int) D cA adK adV A p s m args meth c)  {σ : St} {H : Heap} {locs : List Loc} {ls : Array Slot} (ho0 : kX o0 = (0, 0)) (ho1 : kX o1 = (4, 0)) (hos0 : kX os0 = (4, 0)) (hw : At D cA ad kX 151 R A s σ H locs) (hl : lv_has ls 5 [(0, .ref (ad o0)), (1, .ref (ad o1)), (2, .int (zI v2)), (3, .int (zI v3))]) (h : p_X0_readStep_59  o0 o1 v2 v3 os0 vs1 σ = some res) : W p l e (rmU 6 132) s m args below meth c H locs 0 0 (MQ below (QI D cA ad kX 151 R A res) args s 0 0 A) (F0 m 59 ls [.int (zI vs1), .ref (ad os0)]) := by
  have h := h
  unfold p_X0_readStep_59 at h
  refine y_iload_n C dX0_readStep_59 (lv_at hl 3 rfl) ?_
  refine y_iconst C dX0_readStep_60 ?_
  refine y_icmp_ne (tgt := 69) C (a' := zm v3) (b' := 2) rfl (by decide) dX0_readStep_61 (by decide) (fun hc => ?_) (fun hc => ?_)
  · rw [if_pos hc] at h
    refine y_bipush C dX0_readStep_64 (by decide) ?_
    refine y_goto (tgt := 71) C dX0_readStep_66 (by decide) ?_
    exact k_X0_readStep_71 C  ho0 ho1 hos0 hw hl h
  · rw [if_neg hc] at h
    refine y_bipush C dX0_readStep_69 (by decide) ?_
    exact k_X0_readStep_71 C  ho0 ho1 hos0 hw hl h
set_option maxRecDepth 100000 in
set_option maxHeartbeats 4000000 in
theorem k_X0_readStep_54  {o0 : Int} {o1 : Int} {v2 : Int} {v3 : Int} {os0 : Int} (C : Cx cX0_readStep RX0 5 (some .int) D cA adK adV A p s m args meth c)  {σ : St} {H : Heap} {locs : List Loc} {ls : Array Slot} (ho0 : kX o0 = (0, 0)) (ho1 : kX o1 = (4, 0)) (hos0 : kX os0 = (4, 0)) (hw : At D cA ad kX 151 R A s σ H locs) (hl : lv_has ls 5 [(0, .ref (ad o0)), (1, .ref (ad o1)), (2, .int (zI v2)), (3, .int (zI v3))]) (h : p_X0_readStep_54  o0 o1 v2 v3 os0 σ = some res) : W p l e (rmU 6 132) s m args below meth c H locs 0 0 (MQ below (QI D cA ad kX 151 R A res) args s 0 0 A) (F0 m 54 ls [.ref (ad os0)]) := by
  have h := h
  unfold p_X0_readStep_54 at h
  refine y_iconst C dX0_readStep_54 ?_
  refine y_goto (tgt := 59) C dX0_readStep_55 (by decide) ?_
  exact k_X0_readStep_59 C  ho0 ho1 hos0 hw hl h
set_option maxRecDepth 100000 in
set_option maxHeartbeats 4000000 in
theorem k_X0_readStep_0  {o0 : Int} {o1 : Int} {v2 : Int} (C : Cx cX0_readStep RX0 5 (some .int) D cA adK adV A p s m args meth c)  {σ : St} {H : Heap} {locs : List Loc} {ls : Array Slot} (ho0 : kX o0 = (0, 0)) (ho1 : kX o1 = (4, 0)) (hw : At D cA ad kX 151 R A s σ H locs) (hl : lv_has ls 5 [(0, .ref (ad o0)), (1, .ref (ad o1)), (2, .int (zI v2))]) (h : p_X0_readStep  o0 o1 v2 σ = some res) : W p l e (rmU 6 132) s m args below meth c H locs 0 0 (MQ below (QI D cA ad kX 151 R A res) args s 0 0 A) (F0 m 0 ls []) := by
  have h := h
  unfold p_X0_readStep at h
  refine y_aload_n C dX0_readStep_0 (lv_at hl 1 rfl) ?_
  obtain ⟨x1, hc1, h⟩ := bd_some h
  refine y_ci (rest := []) hw (y_rS C hw (c_X0_stepTold ho1 hc1) mi_X0_stepTold wd_462 wd_463 rfl ⟨by decide, by decide⟩ hl rfl (Nat.le_of_ble_eq_true rfl) dX0_readStep_1) (fun H locs hw => ?_)
  refine y_istore_n (lv' := [(3, .int (zI x1.1)), (0, .ref (ad o0)), (1, .ref (ad o1)), (2, .int (zI v2))]) C dX0_readStep_4 hl (by decide) rfl (fun ls hl => ?_)
  refine y_iload_n C dX0_readStep_5 (lv_at hl 0 rfl) ?_
  refine y_iconst C dX0_readStep_6 ?_
  refine y_icmp_ne (tgt := 21) C (a' := zm x1.1) (b' := (-1)) rfl (by decide) dX0_readStep_7 (by decide) (fun hc => ?_) (fun hc => ?_)
  · rw [if_pos hc] at h
    refine y_aload_n C dX0_readStep_10 (lv_at hl 2 rfl) ?_
    refine y_iconst C dX0_readStep_11 ?_
    refine y_aload_n C dX0_readStep_12 (lv_at hl 2 rfl) ?_
    refine g4 C hw ho1 5 (by decide) wd_42 rfl dX0_readStep_13 ?_
    obtain ⟨x16, hc16, h⟩ := bd_some h
    refine y_cv (rest := []) hw (y_rV C hw ho1 (by decide) rfl rfl (c_X4_fail ho1 hc16) mi_X4_fail wd_442 wd_443 wd_444 rfl ⟨by decide, by decide⟩ hl rfl (Nat.le_of_ble_eq_true rfl) dX0_readStep_16) (fun H locs hw => ?_)
    refine y_iload_n C dX0_readStep_19 (lv_at hl 3 rfl) ?_
    exact y_iret C hw h dX0_readStep_20
  · rw [if_neg hc] at h
    refine y_iload_n C dX0_readStep_21 (lv_at hl 3 rfl) ?_
    refine y_iload_n C dX0_readStep_22 (lv_at hl 0 rfl) ?_
    refine y_ishr C dX0_readStep_23 ?_
    refine y_iconst C dX0_readStep_24 ?_
    refine y_iand C dX0_readStep_25 ?_
    refine y_if_eq (tgt := 40) C (a' := zm (zand (zshr v2 x1.1) 1)) rfl dX0_readStep_26 (by decide) (fun hc => ?_) (fun hc => ?_)
    · rw [if_pos hc] at h
      refine y_aload_n C dX0_readStep_40 (lv_at hl 2 rfl) ?_
      obtain ⟨x41, hc41, h⟩ := bd_some h
      refine y_cv (rest := []) hw (y_rV C hw ho1 (by decide) rfl rfl (c_X4_step ho1 hc41) mi_X4_step wd_446 wd_364 wd_365 rfl ⟨by decide, by decide⟩ hl rfl (Nat.le_of_ble_eq_true rfl) dX0_readStep_41) (fun H locs hw => ?_)
      refine y_aload_n C dX0_readStep_44 (lv_at hl 2 rfl) ?_
      refine y_iload_n C dX0_readStep_45 (lv_at hl 0 rfl) ?_
      refine y_if_eq (tgt := 54) C (a' := zm x1.1) rfl dX0_readStep_46 (by decide) (fun hc => ?_) (fun hc => ?_)
      · rw [if_pos hc] at h
        exact k_X0_readStep_54 C  ho0 ho1 ho1 hw (lv_sub hl [1, 2, 3, 0] rfl) h
      · rw [if_neg hc] at h
        refine y_iload_n C dX0_readStep_49 (lv_at hl 0 rfl) ?_
        refine y_iconst C dX0_readStep_50 ?_
        refine y_icmp_ne (tgt := 58) C (a' := zm x1.1) (b' := 1) rfl (by decide) dX0_readStep_51 (by decide) (fun hc => ?_) (fun hc => ?_)
        · rw [if_pos hc] at h
          exact k_X0_readStep_54 C  ho0 ho1 ho1 hw (lv_sub hl [1, 2, 3, 0] rfl) h
        · rw [if_neg hc] at h
          refine y_iconst C dX0_readStep_58 ?_
          exact k_X0_readStep_59 C  ho0 ho1 ho1 hw (lv_sub hl [1, 2, 3, 0] rfl) h
    · rw [if_neg hc] at h
      refine y_aload_n C dX0_readStep_29 (lv_at hl 2 rfl) ?_
      refine y_iconst C dX0_readStep_30 ?_
      refine y_aload_n C dX0_readStep_31 (lv_at hl 2 rfl) ?_
      refine g4 C hw ho1 5 (by decide) wd_42 rfl dX0_readStep_32 ?_
      obtain ⟨x35, hc35, h⟩ := bd_some h
      refine y_cv (rest := []) hw (y_rV C hw ho1 (by decide) rfl rfl (c_X4_fail ho1 hc35) mi_X4_fail wd_442 wd_443 wd_444 rfl ⟨by decide, by decide⟩ hl rfl (Nat.le_of_ble_eq_true rfl) dX0_readStep_35) (fun H locs hw => ?_)
      refine y_iload_n C dX0_readStep_38 (lv_at hl 3 rfl) ?_
      exact y_iret C hw h dX0_readStep_39
theorem c_X0_readStep {l : Launch} {D : va_G} {cA : Nat → ClassId} {adK adV : Nat → Nat} {A : Nat → Prop} {ad : Int → Nat} {R : va_W} {σ : St} {res : Int × St} {o0 : Int} {o1 : Int} {v2 : Int} (ho0 : kX o0 = (0, 0)) (ho1 : kX o1 = (4, 0)) (h : p_X0_readStep o0 o1 v2 σ = some res) : Met l yX0_readStep (wsU yX0_readStep cX0_readStep 5 (some .int)) (rmU 6 132) (va_Pc [.ref (ad o0), .ref (ad o1), .int (zI v2)] (Pr D cA adK adV ad kX 151 R A σ)) (QI D cA ad kX 151 R A res) 0 0 A :=
  y_met (own := RX0) (by decide) rfl _ (Nat.le_of_ble_eq_true rfl) (fun p e s m args below meth c ls C hl hw => k_X0_readStep_0 C ho0 ho1 hw hl h)
/-! RungHouse$House.readFrom -/
set_option maxRecDepth 100000 in
set_option maxHeartbeats 4000000 in
theorem k_X0_readFrom_100  {o1 : Int} (C : Cx cX0_readFrom RX0 4 none D cA adK adV A p s m args meth c)  {σ : St} {H : Heap} {locs : List Loc} {ls : Array Slot} (ho1 : kX o1 = (4, 0)) (hw : At D cA ad kX 151 R A s σ H locs) (hl : lv_has ls 4 [(1, .ref (ad o1))]) (h : p_X0_readFrom_100  o1 σ = some res) : W p l e (rmU 7 156) s m args below meth c H locs 0 0 (MQ below (QV D cA ad kX 151 R A res) args s 0 0 A) (F0 m 100 ls []) := by
  have h := h
  unfold p_X0_readFrom_100 at h
  refine y_aload_n C dX0_readFrom_100 (lv_at hl 0 rfl) ?_
  refine y_iconst C dX0_readFrom_101 ?_
  refine y_aload_n C dX0_readFrom_102 (lv_at hl 0 rfl) ?_
  refine g4 C hw ho1 1 (by decide) wd_33 rfl dX0_readFrom_103 ?_
  obtain ⟨x106, hc106, h⟩ := bd_some h
  refine y_cv (rest := []) hw (y_rV C hw ho1 (by decide) rfl rfl (c_X4_fail ho1 hc106) mi_X4_fail wd_442 wd_443 wd_444 rfl ⟨by decide, by decide⟩ hl rfl (Nat.le_of_ble_eq_true rfl) dX0_readFrom_106) (fun H locs hw => ?_)
  exact y_vret C hw h dX0_readFrom_109
set_option maxRecDepth 100000 in
set_option maxHeartbeats 4000000 in
theorem k_X0_readFrom_82  {o0 : Int} {o1 : Int} (C : Cx cX0_readFrom RX0 4 none D cA adK adV A p s m args meth c)  {σ : St} {H : Heap} {locs : List Loc} {ls : Array Slot} (ho0 : kX o0 = (0, 0)) (ho1 : kX o1 = (4, 0)) (hw : At D cA ad kX 151 R A s σ H locs) (hl : lv_has ls 4 [(0, .ref (ad o0)), (1, .ref (ad o1))]) (h : p_X0_readFrom_82  o0 o1 σ = some res) : W p l e (rmU 7 156) s m args below meth c H locs 0 0 (MQ below (QV D cA ad kX 151 R A res) args s 0 0 A) (F0 m 82 ls []) := by
  have h := h
  unfold p_X0_readFrom_82 at h
  refine y_aload_n C dX0_readFrom_82 (lv_at hl 0 rfl) ?_
  refine g0 C hw ho0 1 (by decide) wd_83 rfl dX0_readFrom_83 ?_
  refine y_if_eq (tgt := 100) C (a' := zm (σ o0 1)) rfl dX0_readFrom_86 (by decide) (fun hc => ?_) (fun hc => ?_)
  · rw [if_pos hc] at h
    exact k_X0_readFrom_100 C  ho1 hw (lv_sub hl [1] rfl) h
  · rw [if_neg hc] at h
    refine y_aload_n C dX0_readFrom_89 (lv_at hl 0 rfl) ?_
    refine g0 C hw ho0 6 (by decide) wd_95 rfl dX0_readFrom_90 ?_
    refine y_aload_n C dX0_readFrom_93 (lv_at hl 0 rfl) ?_
    refine g0 C hw ho0 1 (by decide) wd_83 rfl dX0_readFrom_94 ?_
    refine y_icmp_lt (tgt := 109) C (a' := zm (σ o0 6)) (b' := zm (σ o0 1)) rfl rfl dX0_readFrom_97 (by decide) (fun hc => ?_) (fun hc => ?_)
    · rw [if_pos hc] at h
      exact y_vret C hw h dX0_readFrom_109
    · rw [if_neg hc] at h
      exact k_X0_readFrom_100 C  ho1 hw (lv_sub hl [1] rfl) h
set_option maxRecDepth 100000 in
set_option maxHeartbeats 4000000 in
theorem k_X0_readFrom_76 {K38 : Int → Int → Int → Int → St → Option (Int × St)} {o0 : Int} {o1 : Int} {v2 : Int} {v3 : Int} (C : Cx cX0_readFrom RX0 4 none D cA adK adV A p s m args meth c) (hK38 : ∀ (o0 : Int) (o1 : Int) (v2 : Int) (v3 : Int) (σ : St) (H : Heap) (locs : List Loc) (ls : Array Slot) (ho0 : kX o0 = (0, 0)) (ho1 : kX o1 = (4, 0)), At D cA ad kX 151 R A s σ H locs → lv_has ls 4 [(0, .ref (ad o0)), (1, .ref (ad o1)), (2, .int (zI v2)), (3, .int (zI v3))] → K38 o0 o1 v2 v3 σ = some res → W p l e (rmU 7 156) s m args below meth c H locs 0 0 (MQ below (QV D cA ad kX 151 R A res) args s 0 0 A) (F0 m 38 ls [])) {σ : St} {H : Heap} {locs : List Loc} {ls : Array Slot} (ho0 : kX o0 = (0, 0)) (ho1 : kX o1 = (4, 0)) (hw : At D cA ad kX 151 R A s σ H locs) (hl : lv_has ls 4 [(0, .ref (ad o0)), (1, .ref (ad o1)), (2, .int (zI v2)), (3, .int (zI v3))]) (h : p_X0_readFrom_76 K38 o0 o1 v2 v3 σ = some res) : W p l e (rmU 7 156) s m args below meth c H locs 0 0 (MQ below (QV D cA ad kX 151 R A res) args s 0 0 A) (F0 m 76 ls []) := by
  have h := h
  unfold p_X0_readFrom_76 at h
  refine y_iinc (lv' := [(3, .int (zI (v3 + 1))), (0, .ref (ad o0)), (1, .ref (ad o1)), (2, .int (zI v2))]) C dX0_readFrom_76 hl (k := 3) rfl (by decide) rfl (fun ls hl => ?_)
  refine y_goto (tgt := 38) C dX0_readFrom_79 (by decide) ?_
  exact hK38 _ _ _ _ _ _ _ _ ho0 ho1 hw (lv_sub hl [1, 2, 3, 0] rfl) h
set_option maxRecDepth 100000 in
set_option maxHeartbeats 4000000 in
theorem k_X0_readFrom_38b {K38 : Int → Int → Int → Int → St → Option (Int × St)} {o0 : Int} {o1 : Int} {v2 : Int} {v3 : Int} (C : Cx cX0_readFrom RX0 4 none D cA adK adV A p s m args meth c)  (hK38 : ∀ (o0 : Int) (o1 : Int) (v2 : Int) (v3 : Int) (σ : St) (H : Heap) (locs : List Loc) (ls : Array Slot) (ho0 : kX o0 = (0, 0)) (ho1 : kX o1 = (4, 0)), At D cA ad kX 151 R A s σ H locs → lv_has ls 4 [(0, .ref (ad o0)), (1, .ref (ad o1)), (2, .int (zI v2)), (3, .int (zI v3))] → K38 o0 o1 v2 v3 σ = some res → W p l e (rmU 7 156) s m args below meth c H locs 0 0 (MQ below (QV D cA ad kX 151 R A res) args s 0 0 A) (F0 m 38 ls [])) {σ : St} {H : Heap} {locs : List Loc} {ls : Array Slot} (ho0 : kX o0 = (0, 0)) (ho1 : kX o1 = (4, 0)) (hw : At D cA ad kX 151 R A s σ H locs) (hl : lv_has ls 4 [(0, .ref (ad o0)), (1, .ref (ad o1)), (2, .int (zI v2)), (3, .int (zI v3))]) (h : p_X0_readFrom_38b K38 o0 o1 v2 v3 σ = some res) : W p l e (rmU 7 156) s m args below meth c H locs 0 0 (MQ below (QV D cA ad kX 151 R A res) args s 0 0 A) (F0 m 38 ls []) := by
  have h := h
  unfold p_X0_readFrom_38b at h
  refine y_iload_n C dX0_readFrom_38 (lv_at hl 3 rfl) ?_
  refine y_sipush C dX0_readFrom_39 (by decide) ?_
  refine y_icmp_ge (tgt := 82) C (a' := zm v3) (b' := 300) rfl (by decide) dX0_readFrom_42 (by decide) (fun hc => ?_) (fun hc => ?_)
  · rw [if_pos hc] at h
    exact k_X0_readFrom_82 C  ho0 ho1 hw (lv_sub hl [0, 1] rfl) h
  · rw [if_neg hc] at h
    refine y_aload_n C dX0_readFrom_45 (lv_at hl 1 rfl) ?_
    obtain ⟨x46, hc46, h⟩ := bd_some h
    refine y_ci (rest := []) hw (y_rV C hw ho1 (by decide) rfl rfl (c_X4_goesOn ho1 hc46) mi_X4_goesOn wd_381 wd_382 wd_383 rfl ⟨by decide, by decide⟩ hl rfl (Nat.le_of_ble_eq_true rfl) dX0_readFrom_46) (fun H locs hw => ?_)
    refine y_if_eq (tgt := 82) C (a' := zm x46.1) rfl dX0_readFrom_49 (by decide) (fun hc => ?_) (fun hc => ?_)
    · rw [if_pos hc] at h
      exact k_X0_readFrom_82 C  ho0 ho1 hw (lv_sub hl [0, 1] rfl) h
    · rw [if_neg hc] at h
      refine y_aload_n C dX0_readFrom_52 (lv_at hl 1 rfl) ?_
      refine y_ldcS C (i := 0) (by decide) rfl rfl dX0_readFrom_53 ?_
      obtain ⟨x55, hc55, h⟩ := bd_some h
      refine y_ci (rest := []) hw (y_rV C hw ho1 (by decide) rfl rfl (c_X4_isWord ho1 (by decide) hc55) mi_X4_isWord wd_386 wd_387 wd_388 rfl ⟨by decide, by decide⟩ hl rfl (Nat.le_of_ble_eq_true rfl) dX0_readFrom_55) (fun H locs hw => ?_)
      refine y_if_eq (tgt := 69) C (a' := zm x55.1) rfl dX0_readFrom_58 (by decide) (fun hc => ?_) (fun hc => ?_)
      · rw [if_pos hc] at h
        refine y_aload_n C dX0_readFrom_69 (lv_at hl 0 rfl) ?_
        refine y_aload_n C dX0_readFrom_70 (lv_at hl 1 rfl) ?_
        refine y_iload_n C dX0_readFrom_71 (lv_at hl 2 rfl) ?_
        obtain ⟨x72, hc72, h⟩ := bd_some h
        refine y_ci (rest := []) hw (y_rV C hw ho0 (by decide) rfl rfl (c_X0_readStep ho0 ho1 hc72) mi_X0_readStep wd_458 wd_460 ws_3 rfl ⟨by decide, by decide⟩ hl rfl (Nat.le_of_ble_eq_true rfl) dX0_readFrom_72) (fun H locs hw => ?_)
        refine y_istore_n (lv' := [(2, .int (zI x72.1)), (0, .ref (ad o0)), (1, .ref (ad o1)), (3, .int (zI v3))]) C dX0_readFrom_75 hl (by decide) rfl (fun ls hl => ?_)
        exact k_X0_readFrom_76 C hK38 ho0 ho1 hw (lv_sub hl [1, 2, 0, 3] rfl) h
      · rw [if_neg hc] at h
        refine y_aload_n C dX0_readFrom_61 (lv_at hl 0 rfl) ?_
        refine y_aload_n C dX0_readFrom_62 (lv_at hl 1 rfl) ?_
        obtain ⟨x63, hc63, h⟩ := bd_some h
        refine y_cv (rest := []) hw (y_rV C hw ho0 (by decide) rfl rfl (c_X0_readRung ho0 ho1 hc63) mi_X0_readRung wd_438 wd_440 ws_2 rfl ⟨by decide, by decide⟩ hl rfl (Nat.le_of_ble_eq_true rfl) dX0_readFrom_63) (fun H locs hw => ?_)
        refine y_goto (tgt := 76) C dX0_readFrom_66 (by decide) ?_
        exact k_X0_readFrom_76 C hK38 ho0 ho1 hw hl h
set_option maxRecDepth 100000 in
theorem k_X0_readFrom_38  (C : Cx cX0_readFrom RX0 4 none D cA adK adV A p s m args meth c)  : ∀ (n : Nat) (o0 : Int) (o1 : Int) (v2 : Int) (v3 : Int) (σ : St) (H : Heap) (locs : List Loc) (ls : Array Slot) (ho0 : kX o0 = (0, 0)) (ho1 : kX o1 = (4, 0)), At D cA ad kX 151 R A s σ H locs → lv_has ls 4 [(0, .ref (ad o0)), (1, .ref (ad o1)), (2, .int (zI v2)), (3, .int (zI v3))] → p_X0_readFrom_38  n o0 o1 v2 v3 σ = some res → W p l e (rmU 7 156) s m args below meth c H locs 0 0 (MQ below (QV D cA ad kX 151 R A res) args s 0 0 A) (F0 m 38 ls []) := by
  intro n
  induction n with
  | zero =>
    intro o0 o1 v2 v3 σ H locs ls ho0 ho1 hw hl h
    have h : none = some res := h
    cases h
  | succ n ih =>
    intro o0 o1 v2 v3 σ H locs ls ho0 ho1 hw hl h
    exact k_X0_readFrom_38b C  ih ho0 ho1 hw hl h
set_option maxRecDepth 100000 in
set_option maxHeartbeats 4000000 in
theorem k_X0_readFrom_0  {o0 : Int} {o1 : Int} (C : Cx cX0_readFrom RX0 4 none D cA adK adV A p s m args meth c)  {σ : St} {H : Heap} {locs : List Loc} {ls : Array Slot} (ho0 : kX o0 = (0, 0)) (ho1 : kX o1 = (4, 0)) (hw : At D cA ad kX 151 R A s σ H locs) (hl : lv_has ls 4 [(0, .ref (ad o0)), (1, .ref (ad o1))]) (h : p_X0_readFrom  o0 o1 σ = some res) : W p l e (rmU 7 156) s m args below meth c H locs 0 0 (MQ below (QV D cA ad kX 151 R A res) args s 0 0 A) (F0 m 0 ls []) := by
  have h := h
  unfold p_X0_readFrom at h
  refine y_aload_n C dX0_readFrom_0 (lv_at hl 0 rfl) ?_
  refine y_iconst C dX0_readFrom_1 ?_
  obtain ⟨σ2, eσ2, h⟩ := nx_some h
  refine q0 C hw ho0 1 (by decide) wd_83 rfl rfl rfl (by decide) 0 1 rfl rfl dX0_readFrom_2 (fun H locs hw => ?_)
  rw [← eσ2] at hw
  refine y_aload_n C dX0_readFrom_5 (lv_at hl 0 rfl) ?_
  refine y_iconst C dX0_readFrom_6 ?_
  obtain ⟨σ7, eσ7, h⟩ := nx_some h
  refine q0 C hw ho0 2 (by decide) wd_87 rfl rfl rfl (by decide) 0 2 rfl rfl dX0_readFrom_7 (fun H locs hw => ?_)
  rw [← eσ7] at hw
  refine y_aload_n C dX0_readFrom_10 (lv_at hl 0 rfl) ?_
  refine y_iconst C dX0_readFrom_11 ?_
  obtain ⟨σ12, eσ12, h⟩ := nx_some h
  refine q0 C hw ho0 3 (by decide) wd_89 rfl rfl rfl (by decide) 1 3 rfl rfl dX0_readFrom_12 (fun H locs hw => ?_)
  rw [← eσ12] at hw
  refine y_aload_n C dX0_readFrom_15 (lv_at hl 0 rfl) ?_
  refine y_iconst C dX0_readFrom_16 ?_
  obtain ⟨σ17, eσ17, h⟩ := nx_some h
  refine q0 C hw ho0 4 (by decide) wd_91 rfl rfl rfl (by decide) 3 4 rfl rfl dX0_readFrom_17 (fun H locs hw => ?_)
  rw [← eσ17] at hw
  refine y_aload_n C dX0_readFrom_20 (lv_at hl 0 rfl) ?_
  refine y_iconst C dX0_readFrom_21 ?_
  obtain ⟨σ22, eσ22, h⟩ := nx_some h
  refine q0 C hw ho0 5 (by decide) wd_93 rfl rfl rfl (by decide) 0 5 rfl rfl dX0_readFrom_22 (fun H locs hw => ?_)
  rw [← eσ22] at hw
  refine y_aload_n C dX0_readFrom_25 (lv_at hl 0 rfl) ?_
  refine y_iconst C dX0_readFrom_26 ?_
  obtain ⟨σ27, eσ27, h⟩ := nx_some h
  refine q0 C hw ho0 6 (by decide) wd_95 rfl rfl rfl (by decide) 0 6 rfl rfl dX0_readFrom_27 (fun H locs hw => ?_)
  rw [← eσ27] at hw
  refine y_iconst C dX0_readFrom_30 ?_
  refine y_istore_n (lv' := [(2, .int (zI 0)), (0, .ref (ad o0)), (1, .ref (ad o1))]) C dX0_readFrom_31 hl (by decide) rfl (fun ls hl => ?_)
  refine y_aload_n C dX0_readFrom_32 (lv_at hl 2 rfl) ?_
  obtain ⟨x33, hc33, h⟩ := bd_some h
  refine y_cv (rest := []) hw (y_rV C hw ho1 (by decide) rfl rfl (c_X4_open ho1 hc33) mi_X4_open wd_359 wd_360 wd_361 rfl ⟨by decide, by decide⟩ hl rfl (Nat.le_of_ble_eq_true rfl) dX0_readFrom_33) (fun H locs hw => ?_)
  refine y_iconst C dX0_readFrom_36 ?_
  refine y_istore_n (lv' := [(3, .int (zI 0)), (2, .int (zI 0)), (0, .ref (ad o0)), (1, .ref (ad o1))]) C dX0_readFrom_37 hl (by decide) rfl (fun ls hl => ?_)
  exact k_X0_readFrom_38 C  FU _ _ _ _ _ _ _ _ ho0 ho1 hw (lv_sub hl [2, 3, 1, 0] rfl) h
theorem c_X0_readFrom {l : Launch} {D : va_G} {cA : Nat → ClassId} {adK adV : Nat → Nat} {A : Nat → Prop} {ad : Int → Nat} {R : va_W} {σ : St} {res : Int × St} {o0 : Int} {o1 : Int} (ho0 : kX o0 = (0, 0)) (ho1 : kX o1 = (4, 0)) (h : p_X0_readFrom o0 o1 σ = some res) : Met l yX0_readFrom (wsU yX0_readFrom cX0_readFrom 4 none) (rmU 7 156) (va_Pc [.ref (ad o0), .ref (ad o1)] (Pr D cA adK adV ad kX 151 R A σ)) (QV D cA ad kX 151 R A res) 0 0 A :=
  y_met (own := RX0) (by decide) rfl _ (Nat.le_of_ble_eq_true rfl) (fun p e s m args below meth c ls C hl hw => k_X0_readFrom_0 C ho0 ho1 hw hl h)
/-! RungHouse$Plan.isPained -/
set_option maxRecDepth 100000 in
set_option maxHeartbeats 4000000 in
theorem k_X3_isPained_0  {o0 : Int} {v1 : Int} {v2 : Int} (C : Cx cX3_isPained RX3 3 (some .boolean) D cA adK adV A p s m args meth c)  {σ : St} {H : Heap} {locs : List Loc} {ls : Array Slot} (ho0 : kX o0 = (3, 0)) (hw : At D cA ad kX 151 R A s σ H locs) (hl : lv_has ls 3 [(0, .ref (ad o0)), (1, .int (zI v1)), (2, .int (zI v2))]) (h : p_X3_isPained  o0 v1 v2 σ = some res) : W p l e (rmU 0 0) s m args below meth c H locs 0 0 (MQ below (QI D cA ad kX 151 R A res) args s 0 0 A) (F0 m 0 ls []) := by
  have h := h
  unfold p_X3_isPained at h
  refine y_aload_n C dX3_isPained_0 (lv_at hl 0 rfl) ?_
  refine g3 C hw ho0 4 (by decide) wd_234 rfl dX3_isPained_1 ?_
  refine y_iload_n C dX3_isPained_4 (lv_at hl 1 rfl) ?_
  obtain ⟨hg5, h⟩ := gd_some h
  refine y_iald C hw (ka3_painedRungs ho0) (i' := zm v1) rfl hg5 dX3_isPained_5 ?_
  refine y_iload_n C dX3_isPained_6 (lv_at hl 2 rfl) ?_
  refine y_ishr C dX3_isPained_7 ?_
  refine y_iconst C dX3_isPained_8 ?_
  refine y_iand C dX3_isPained_9 ?_
  refine y_if_eq (tgt := 17) C (a' := zm (zand (zshr (σ (o0 + 2) (zm v1)) v2) 1)) rfl dX3_isPained_10 (by decide) (fun hc => ?_) (fun hc => ?_)
  · rw [if_pos hc] at h
    refine y_iconst C dX3_isPained_17 ?_
    exact y_zret C hw (by decide) h dX3_isPained_18
  · rw [if_neg hc] at h
    refine y_iconst C dX3_isPained_13 ?_
    refine y_goto (tgt := 18) C dX3_isPained_14 (by decide) ?_
    exact y_zret C hw (by decide) h dX3_isPained_18
theorem c_X3_isPained {l : Launch} {D : va_G} {cA : Nat → ClassId} {adK adV : Nat → Nat} {A : Nat → Prop} {ad : Int → Nat} {R : va_W} {σ : St} {res : Int × St} {o0 : Int} {v1 : Int} {v2 : Int} (ho0 : kX o0 = (3, 0)) (h : p_X3_isPained o0 v1 v2 σ = some res) : Met l yX3_isPained (wsU yX3_isPained cX3_isPained 3 (some .boolean)) (rmU 0 0) (va_Pc [.ref (ad o0), .int (zI v1), .int (zI v2)] (Pr D cA adK adV ad kX 151 R A σ)) (QI D cA ad kX 151 R A res) 0 0 A :=
  y_met (own := RX3) (by decide) rfl _ (Nat.le_of_ble_eq_true rfl) (fun p e s m args below meth c ls C hl hw => k_X3_isPained_0 C ho0 hw hl h)
/-! RungHouse$Sort.chance -/
set_option maxRecDepth 100000 in
set_option maxHeartbeats 4000000 in
theorem k_X6_chance_0  {o0 : Int} {v1 : Int} {v2 : Int} (C : Cx cX6_chance RX6 3 (some .int) D cA adK adV A p s m args meth c)  {σ : St} {H : Heap} {locs : List Loc} {ls : Array Slot} (ho0 : kX o0 = (6, 0)) (hw : At D cA ad kX 151 R A s σ H locs) (hl : lv_has ls 3 [(0, .ref (ad o0)), (1, .int (zI v1)), (2, .int (zI v2))]) (h : p_X6_chance  o0 v1 v2 σ = some res) : W p l e (rmU 0 0) s m args below meth c H locs 0 0 (MQ below (QI D cA ad kX 151 R A res) args s 0 0 A) (F0 m 0 ls []) := by
  have h := h
  unfold p_X6_chance at h
  refine y_iload_n C dX6_chance_0 (lv_at hl 2 rfl) ?_
  refine y_if_eq (tgt := 13) C (a' := zm v2) rfl dX6_chance_1 (by decide) (fun hc => ?_) (fun hc => ?_)
  · rw [if_pos hc] at h
    refine y_aload_n C dX6_chance_13 (lv_at hl 0 rfl) ?_
    refine g6 C hw ho0 1 (by decide) wd_190 rfl dX6_chance_14 ?_
    refine y_iload_n C dX6_chance_17 (lv_at hl 1 rfl) ?_
    obtain ⟨hg18, h⟩ := gd_some h
    refine y_iald C hw (ka6_chances ho0) (i' := zm v1) rfl hg18 dX6_chance_18 ?_
    exact y_iret C hw h dX6_chance_19
  · rw [if_neg hc] at h
    refine y_aload_n C dX6_chance_4 (lv_at hl 0 rfl) ?_
    refine g6 C hw ho0 2 (by decide) wd_192 rfl dX6_chance_5 ?_
    refine y_iload_n C dX6_chance_8 (lv_at hl 1 rfl) ?_
    obtain ⟨hg9, h⟩ := gd_some h
    refine y_iald C hw (ka6_sparedChances ho0) (i' := zm v1) rfl hg9 dX6_chance_9 ?_
    refine y_goto (tgt := 19) C dX6_chance_10 (by decide) ?_
    exact y_iret C hw h dX6_chance_19
theorem c_X6_chance {l : Launch} {D : va_G} {cA : Nat → ClassId} {adK adV : Nat → Nat} {A : Nat → Prop} {ad : Int → Nat} {R : va_W} {σ : St} {res : Int × St} {o0 : Int} {v1 : Int} {v2 : Int} (ho0 : kX o0 = (6, 0)) (h : p_X6_chance o0 v1 v2 σ = some res) : Met l yX6_chance (wsU yX6_chance cX6_chance 3 (some .int)) (rmU 0 0) (va_Pc [.ref (ad o0), .int (zI v1), .int (zI v2)] (Pr D cA adK adV ad kX 151 R A σ)) (QI D cA ad kX 151 R A res) 0 0 A :=
  y_met (own := RX6) (by decide) rfl _ (Nat.le_of_ble_eq_true rfl) (fun p e s m args below meth c ls C hl hw => k_X6_chance_0 C ho0 hw hl h)
/-! RungHouse$Plan.sumScrapes -/
set_option maxRecDepth 100000 in
set_option maxHeartbeats 4000000 in
theorem k_X3_sumScrapes_41b {K41 : Int → Int → Int → St → Option (Int × St)} {o0 : Int} {v1 : Int} {v2 : Int} (C : Cx cX3_sumScrapes RX3 5 none D cA adK adV A p s m args meth c)  (hK41 : ∀ (o0 : Int) (v1 : Int) (v2 : Int) (σ : St) (H : Heap) (locs : List Loc) (ls : Array Slot) (ho0 : kX o0 = (3, 0)), At D cA ad kX 151 R A s σ H locs → lv_has ls 5 [(0, .ref (ad o0)), (1, .int (zI v1)), (2, .int (zI v2))] → K41 o0 v1 v2 σ = some res → W p l e (rmU 1 22) s m args below meth c H locs 0 0 (MQ below (QV D cA ad kX 151 R A res) args s 0 0 A) (F0 m 41 ls [])) {σ : St} {H : Heap} {locs : List Loc} {ls : Array Slot} (ho0 : kX o0 = (3, 0)) (hw : At D cA ad kX 151 R A s σ H locs) (hl : lv_has ls 5 [(0, .ref (ad o0)), (1, .int (zI v1)), (2, .int (zI v2))]) (h : p_X3_sumScrapes_41b K41 o0 v1 v2 σ = some res) : W p l e (rmU 1 22) s m args below meth c H locs 0 0 (MQ below (QV D cA ad kX 151 R A res) args s 0 0 A) (F0 m 41 ls []) := by
  have h := h
  unfold p_X3_sumScrapes_41b at h
  refine y_iload_n C dX3_sumScrapes_41 (lv_at hl 2 rfl) ?_
  refine y_if_lt (tgt := 156) C (a' := zm v2) rfl dX3_sumScrapes_42 (by decide) (fun hc => ?_) (fun hc => ?_)
  · rw [if_pos hc] at h
    exact y_vret C hw h dX3_sumScrapes_156
  · rw [if_neg hc] at h
    refine y_aload_n C dX3_sumScrapes_45 (lv_at hl 0 rfl) ?_
    obtain ⟨hg46, h⟩ := gd_some h
    refine g3 C hw ho0 0 (by decide) wd_228 rfl dX3_sumScrapes_46 ?_
    rw [rv_ref (kX_in _ (by rw [hg46]; decide)).1]
    refine y_iload_n C dX3_sumScrapes_49 (lv_at hl 2 rfl) ?_
    refine y_iload_n C dX3_sumScrapes_50 (lv_at hl 1 rfl) ?_
    obtain ⟨x51, hc51, h⟩ := bd_some h
    refine y_ci (rest := []) hw (y_rV C hw hg46 (by decide) rfl rfl (c_X6_chance hg46 hc51) mi_X6_chance wd_608 wd_609 wd_610 rfl ⟨by decide, by decide⟩ hl rfl (Nat.le_of_ble_eq_true rfl) dX3_sumScrapes_51) (fun H locs hw => ?_)
    refine y_istore_n (lv' := [(3, .int (zI x51.1)), (0, .ref (ad o0)), (1, .int (zI v1)), (2, .int (zI v2))]) C dX3_sumScrapes_54 hl (by decide) rfl (fun ls hl => ?_)
    refine y_aload_n C dX3_sumScrapes_55 (lv_at hl 1 rfl) ?_
    obtain ⟨hg56, h⟩ := gd_some h
    refine g3 C hw ho0 0 (by decide) wd_228 rfl dX3_sumScrapes_56 ?_
    rw [rv_ref (kX_in _ (by rw [hg56]; decide)).1]
    refine g6 C hw hg56 0 (by decide) wd_188 rfl dX3_sumScrapes_59 ?_
    refine y_iload_n C dX3_sumScrapes_62 (lv_at hl 3 rfl) ?_
    obtain ⟨hg63, h⟩ := gd_some h
    refine y_iald C hw (ka6_sums hg56) (i' := zm v2) rfl hg63 dX3_sumScrapes_63 ?_
    refine y_aload_n C dX3_sumScrapes_64 (lv_at hl 1 rfl) ?_
    obtain ⟨hg65, h⟩ := gd_some h
    refine g3 C hw ho0 1 (by decide) wd_229 rfl dX3_sumScrapes_65 ?_
    rw [rv_ref (kX_in _ (by rw [hg65]; decide)).1]
    refine y_aload_n C dX3_sumScrapes_68 (lv_at hl 1 rfl) ?_
    refine g3 C hw ho0 0 (by decide) wd_228 rfl dX3_sumScrapes_69 ?_
    rw [rv_ref (kX_in _ (by rw [hg56]; decide)).1]
    refine g6 C hw hg56 0 (by decide) wd_188 rfl dX3_sumScrapes_72 ?_
    refine y_iload_n C dX3_sumScrapes_75 (lv_at hl 3 rfl) ?_
    refine y_iald C hw (ka6_sums hg56) (i' := zm v2) rfl hg63 dX3_sumScrapes_76 ?_
    obtain ⟨x77, hc77, h⟩ := bd_some h
    refine y_ci (rest := [.int (zI (x51.2 ((x51.2 o0 0) + 1) (zm v2)))]) hw (y_rV C hw hg65 (by decide) rfl rfl (c_X0_bears hg65 hc77) mi_X0_bears wd_612 wd_613 wd_614 rfl ⟨by decide, by decide⟩ hl rfl (Nat.le_of_ble_eq_true rfl) dX3_sumScrapes_77) (fun H locs hw => ?_)
    refine y_isub C dX3_sumScrapes_80 ?_
    refine y_istore (lv' := [(4, .int (zI ((x51.2 ((x51.2 o0 0) + 1) (zm v2)) - x77.1))), (3, .int (zI x51.1)), (0, .ref (ad o0)), (1, .int (zI v1)), (2, .int (zI v2))]) C dX3_sumScrapes_81 hl (by decide) rfl (fun ls hl => ?_)
    refine y_aload_n C dX3_sumScrapes_83 (lv_at hl 2 rfl) ?_
    refine g3 C hw ho0 8 (by decide) wd_238 rfl dX3_sumScrapes_84 ?_
    refine y_iload_n C dX3_sumScrapes_87 (lv_at hl 4 rfl) ?_
    refine y_iload C dX3_sumScrapes_88 (lv_at hl 0 rfl) ?_
    refine y_sipush C dX3_sumScrapes_90 (by decide) ?_
    refine y_imul C dX3_sumScrapes_93 ?_
    obtain ⟨σ94, eσ94, h⟩ := nx_some h
    refine y_iast C hw (ka3_spared ho0) (i' := zm v2) rfl hg63 dX3_sumScrapes_94 (fun H locs hw => ?_)
    rw [← eσ94] at hw
    refine y_aload_n C dX3_sumScrapes_95 (lv_at hl 2 rfl) ?_
    refine g3 C hw ho0 9 (by decide) wd_239 rfl dX3_sumScrapes_96 ?_
    refine y_iload_n C dX3_sumScrapes_99 (lv_at hl 4 rfl) ?_
    refine y_aload_n C dX3_sumScrapes_100 (lv_at hl 2 rfl) ?_
    refine g3 C hw ho0 9 (by decide) wd_239 rfl dX3_sumScrapes_101 ?_
    refine y_iload_n C dX3_sumScrapes_104 (lv_at hl 4 rfl) ?_
    refine y_iconst C dX3_sumScrapes_105 ?_
    refine y_iadd C dX3_sumScrapes_106 ?_
    obtain ⟨hg107, h⟩ := gd_some h
    refine y_iald C hw (ka3_chanceFrom ho0) (i' := zm (v2 + 1)) rfl hg107 dX3_sumScrapes_107 ?_
    refine y_iload_n C dX3_sumScrapes_108 (lv_at hl 1 rfl) ?_
    refine y_iadd C dX3_sumScrapes_109 ?_
    obtain ⟨hg110, h⟩ := gd_some h
    obtain ⟨σ110, eσ110, h⟩ := nx_some h
    refine y_iast C hw (ka3_chanceFrom ho0) (i' := zm v2) rfl hg110 dX3_sumScrapes_110 (fun H locs hw => ?_)
    rw [← eσ110] at hw
    refine y_aload_n C dX3_sumScrapes_111 (lv_at hl 2 rfl) ?_
    refine g3 C hw ho0 10 (by decide) wd_240 rfl dX3_sumScrapes_112 ?_
    refine y_iload_n C dX3_sumScrapes_115 (lv_at hl 4 rfl) ?_
    refine y_aload_n C dX3_sumScrapes_116 (lv_at hl 2 rfl) ?_
    refine g3 C hw ho0 10 (by decide) wd_240 rfl dX3_sumScrapes_117 ?_
    refine y_iload_n C dX3_sumScrapes_120 (lv_at hl 4 rfl) ?_
    refine y_iconst C dX3_sumScrapes_121 ?_
    refine y_iadd C dX3_sumScrapes_122 ?_
    refine y_iald C hw (ka3_houseBearsFrom ho0) (i' := zm (v2 + 1)) rfl hg107 dX3_sumScrapes_123 ?_
    refine y_iload_n C dX3_sumScrapes_124 (lv_at hl 1 rfl) ?_
    refine y_iload C dX3_sumScrapes_125 (lv_at hl 0 rfl) ?_
    refine y_imul C dX3_sumScrapes_127 ?_
    refine y_iadd C dX3_sumScrapes_128 ?_
    obtain ⟨σ129, eσ129, h⟩ := nx_some h
    refine y_iast C hw (ka3_houseBearsFrom ho0) (i' := zm v2) rfl hg110 dX3_sumScrapes_129 (fun H locs hw => ?_)
    rw [← eσ129] at hw
    refine y_aload_n C dX3_sumScrapes_130 (lv_at hl 2 rfl) ?_
    refine y_dup C dX3_sumScrapes_131 rfl ?_
    refine g3 C hw ho0 11 (by decide) wd_241 rfl dX3_sumScrapes_132 ?_
    refine y_iload_n C dX3_sumScrapes_135 (lv_at hl 1 rfl) ?_
    refine y_aload_n C dX3_sumScrapes_136 (lv_at hl 2 rfl) ?_
    obtain ⟨hg137, h⟩ := gd_some h
    refine g3 C hw ho0 0 (by decide) wd_228 rfl dX3_sumScrapes_137 ?_
    rw [rv_ref (kX_in _ (by rw [hg137]; decide)).1]
    refine g6 C hw hg137 0 (by decide) wd_188 rfl dX3_sumScrapes_140 ?_
    refine y_iload_n C dX3_sumScrapes_143 (lv_at hl 4 rfl) ?_
    refine y_iald C hw (ka6_sums hg137) (i' := zm v2) rfl hg63 dX3_sumScrapes_144 ?_
    refine y_imul C dX3_sumScrapes_145 ?_
    refine y_iadd C dX3_sumScrapes_146 ?_
    obtain ⟨σ147, eσ147, h⟩ := nx_some h
    refine q3 C hw ho0 11 (by decide) wd_241 rfl rfl rfl (by decide) ((σ129 o0 11) + (x51.1 * (σ129 ((σ129 o0 0) + 1) (zm v2)))) 11 rfl rfl dX3_sumScrapes_147 (fun H locs hw => ?_)
    rw [← eσ147] at hw
    refine y_iinc (lv' := [(2, .int (zI (v2 + (-1)))), (4, .int (zI ((x51.2 ((x51.2 o0 0) + 1) (zm v2)) - x77.1))), (3, .int (zI x51.1)), (0, .ref (ad o0)), (1, .int (zI v1))]) C dX3_sumScrapes_150 hl (k := 4) rfl (by decide) rfl (fun ls hl => ?_)
    refine y_goto (tgt := 41) C dX3_sumScrapes_153 (by decide) ?_
    exact hK41 _ _ _ _ _ _ _ ho0 hw (lv_sub hl [3, 4, 0] rfl) h
set_option maxRecDepth 100000 in
theorem k_X3_sumScrapes_41  (C : Cx cX3_sumScrapes RX3 5 none D cA adK adV A p s m args meth c)  : ∀ (n : Nat) (o0 : Int) (v1 : Int) (v2 : Int) (σ : St) (H : Heap) (locs : List Loc) (ls : Array Slot) (ho0 : kX o0 = (3, 0)), At D cA ad kX 151 R A s σ H locs → lv_has ls 5 [(0, .ref (ad o0)), (1, .int (zI v1)), (2, .int (zI v2))] → p_X3_sumScrapes_41  n o0 v1 v2 σ = some res → W p l e (rmU 1 22) s m args below meth c H locs 0 0 (MQ below (QV D cA ad kX 151 R A res) args s 0 0 A) (F0 m 41 ls []) := by
  intro n
  induction n with
  | zero =>
    intro o0 v1 v2 σ H locs ls ho0 hw hl h
    have h : none = some res := h
    cases h
  | succ n ih =>
    intro o0 v1 v2 σ H locs ls ho0 hw hl h
    exact k_X3_sumScrapes_41b C  ih ho0 hw hl h
set_option maxRecDepth 100000 in
set_option maxHeartbeats 4000000 in
theorem k_X3_sumScrapes_0  {o0 : Int} {v1 : Int} (C : Cx cX3_sumScrapes RX3 5 none D cA adK adV A p s m args meth c)  {σ : St} {H : Heap} {locs : List Loc} {ls : Array Slot} (ho0 : kX o0 = (3, 0)) (hw : At D cA ad kX 151 R A s σ H locs) (hl : lv_has ls 5 [(0, .ref (ad o0)), (1, .int (zI v1))]) (h : p_X3_sumScrapes  o0 v1 σ = some res) : W p l e (rmU 1 22) s m args below meth c H locs 0 0 (MQ below (QV D cA ad kX 151 R A res) args s 0 0 A) (F0 m 0 ls []) := by
  have h := h
  unfold p_X3_sumScrapes at h
  refine y_aload_n C dX3_sumScrapes_0 (lv_at hl 0 rfl) ?_
  refine y_iconst C dX3_sumScrapes_1 ?_
  obtain ⟨σ2, eσ2, h⟩ := nx_some h
  refine q3 C hw ho0 11 (by decide) wd_241 rfl rfl rfl (by decide) 0 11 rfl rfl dX3_sumScrapes_2 (fun H locs hw => ?_)
  rw [← eσ2] at hw
  refine y_aload_n C dX3_sumScrapes_5 (lv_at hl 0 rfl) ?_
  refine g3 C hw ho0 9 (by decide) wd_239 rfl dX3_sumScrapes_6 ?_
  refine y_aload_n C dX3_sumScrapes_9 (lv_at hl 0 rfl) ?_
  obtain ⟨hg10, h⟩ := gd_some h
  refine g3 C hw ho0 0 (by decide) wd_228 rfl dX3_sumScrapes_10 ?_
  rw [rv_ref (kX_in _ (by rw [hg10]; decide)).1]
  refine g6 C hw hg10 3 (by decide) wd_194 rfl dX3_sumScrapes_13 ?_
  refine y_iconst C dX3_sumScrapes_16 ?_
  obtain ⟨hg17, h⟩ := gd_some h
  obtain ⟨σ17, eσ17, h⟩ := nx_some h
  refine y_iast C hw (ka3_chanceFrom ho0) (i' := zm (σ2 (σ2 o0 0) 3)) rfl hg17 dX3_sumScrapes_17 (fun H locs hw => ?_)
  rw [← eσ17] at hw
  refine y_aload_n C dX3_sumScrapes_18 (lv_at hl 0 rfl) ?_
  refine g3 C hw ho0 10 (by decide) wd_240 rfl dX3_sumScrapes_19 ?_
  refine y_aload_n C dX3_sumScrapes_22 (lv_at hl 0 rfl) ?_
  obtain ⟨hg23, h⟩ := gd_some h
  refine g3 C hw ho0 0 (by decide) wd_228 rfl dX3_sumScrapes_23 ?_
  rw [rv_ref (kX_in _ (by rw [hg23]; decide)).1]
  refine g6 C hw hg23 3 (by decide) wd_194 rfl dX3_sumScrapes_26 ?_
  refine y_iconst C dX3_sumScrapes_29 ?_
  obtain ⟨hg30, h⟩ := gd_some h
  obtain ⟨σ30, eσ30, h⟩ := nx_some h
  refine y_iast C hw (ka3_houseBearsFrom ho0) (i' := zm (σ17 (σ17 o0 0) 3)) rfl hg30 dX3_sumScrapes_30 (fun H locs hw => ?_)
  rw [← eσ30] at hw
  refine y_aload_n C dX3_sumScrapes_31 (lv_at hl 0 rfl) ?_
  obtain ⟨hg32, h⟩ := gd_some h
  refine g3 C hw ho0 0 (by decide) wd_228 rfl dX3_sumScrapes_32 ?_
  rw [rv_ref (kX_in _ (by rw [hg32]; decide)).1]
  refine g6 C hw hg32 3 (by decide) wd_194 rfl dX3_sumScrapes_35 ?_
  refine y_iconst C dX3_sumScrapes_38 ?_
  refine y_isub C dX3_sumScrapes_39 ?_
  refine y_istore_n (lv' := [(2, .int (zI ((σ30 (σ30 o0 0) 3) - 1))), (0, .ref (ad o0)), (1, .int (zI v1))]) C dX3_sumScrapes_40 hl (by decide) rfl (fun ls hl => ?_)
  exact k_X3_sumScrapes_41 C  FU _ _ _ _ _ _ _ ho0 hw (lv_sub hl [1, 2, 0] rfl) h
theorem c_X3_sumScrapes {l : Launch} {D : va_G} {cA : Nat → ClassId} {adK adV : Nat → Nat} {A : Nat → Prop} {ad : Int → Nat} {R : va_W} {σ : St} {res : Int × St} {o0 : Int} {v1 : Int} (ho0 : kX o0 = (3, 0)) (h : p_X3_sumScrapes o0 v1 σ = some res) : Met l yX3_sumScrapes (wsU yX3_sumScrapes cX3_sumScrapes 5 none) (rmU 1 22) (va_Pc [.ref (ad o0), .int (zI v1)] (Pr D cA adK adV ad kX 151 R A σ)) (QV D cA ad kX 151 R A res) 0 0 A :=
  y_met (own := RX3) (by decide) rfl _ (Nat.le_of_ble_eq_true rfl) (fun p e s m args below meth c ls C hl hw => k_X3_sumScrapes_0 C ho0 hw hl h)
/-! RungHouse$Plan.costsLater -/
set_option maxRecDepth 100000 in
set_option maxHeartbeats 4000000 in
theorem k_X3_costsLater_0  {o0 : Int} {v1 : Int} {v2 : Int} (C : Cx cX3_costsLater RX3 3 (some .int) D cA adK adV A p s m args meth c)  {σ : St} {H : Heap} {locs : List Loc} {ls : Array Slot} (ho0 : kX o0 = (3, 0)) (hw : At D cA ad kX 151 R A s σ H locs) (hl : lv_has ls 3 [(0, .ref (ad o0)), (1, .int (zI v1)), (2, .int (zI v2))]) (h : p_X3_costsLater  o0 v1 v2 σ = some res) : W p l e (rmU 0 0) s m args below meth c H locs 0 0 (MQ below (QI D cA ad kX 151 R A res) args s 0 0 A) (F0 m 0 ls []) := by
  have h := h
  unfold p_X3_costsLater at h
  refine y_iload_n C dX3_costsLater_0 (lv_at hl 2 rfl) ?_
  refine y_iconst C dX3_costsLater_1 ?_
  refine y_icmp_ge (tgt := 35) C (a' := zm v2) (b' := 3) rfl (by decide) dX3_costsLater_2 (by decide) (fun hc => ?_) (fun hc => ?_)
  · rw [if_pos hc] at h
    refine y_iconst C dX3_costsLater_35 ?_
    exact y_iret C hw h dX3_costsLater_36
  · rw [if_neg hc] at h
    refine y_aload_n C dX3_costsLater_5 (lv_at hl 0 rfl) ?_
    refine g3 C hw ho0 6 (by decide) wd_236 rfl dX3_costsLater_6 ?_
    refine y_iload_n C dX3_costsLater_9 (lv_at hl 1 rfl) ?_
    refine y_iconst C dX3_costsLater_10 ?_
    refine y_iadd C dX3_costsLater_11 ?_
    refine y_iconst C dX3_costsLater_12 ?_
    refine y_imul C dX3_costsLater_13 ?_
    refine y_iload_n C dX3_costsLater_14 (lv_at hl 2 rfl) ?_
    refine y_iadd C dX3_costsLater_15 ?_
    refine y_iconst C dX3_costsLater_16 ?_
    refine y_iadd C dX3_costsLater_17 ?_
    obtain ⟨hg18, h⟩ := gd_some h
    refine y_iald C hw (ka3_table ho0) (i' := zm ((((v1 + 1) * 4) + v2) + 1)) rfl hg18 dX3_costsLater_18 ?_
    refine y_aload_n C dX3_costsLater_19 (lv_at hl 0 rfl) ?_
    refine g3 C hw ho0 6 (by decide) wd_236 rfl dX3_costsLater_20 ?_
    refine y_iload_n C dX3_costsLater_23 (lv_at hl 1 rfl) ?_
    refine y_iconst C dX3_costsLater_24 ?_
    refine y_iadd C dX3_costsLater_25 ?_
    refine y_iconst C dX3_costsLater_26 ?_
    refine y_imul C dX3_costsLater_27 ?_
    refine y_iload_n C dX3_costsLater_28 (lv_at hl 2 rfl) ?_
    refine y_iadd C dX3_costsLater_29 ?_
    obtain ⟨hg30, h⟩ := gd_some h
    refine y_iald C hw (ka3_table ho0) (i' := zm (((v1 + 1) * 4) + v2)) rfl hg30 dX3_costsLater_30 ?_
    refine y_isub C dX3_costsLater_31 ?_
    refine y_goto (tgt := 36) C dX3_costsLater_32 (by decide) ?_
    exact y_iret C hw h dX3_costsLater_36
theorem c_X3_costsLater {l : Launch} {D : va_G} {cA : Nat → ClassId} {adK adV : Nat → Nat} {A : Nat → Prop} {ad : Int → Nat} {R : va_W} {σ : St} {res : Int × St} {o0 : Int} {v1 : Int} {v2 : Int} (ho0 : kX o0 = (3, 0)) (h : p_X3_costsLater o0 v1 v2 σ = some res) : Met l yX3_costsLater (wsU yX3_costsLater cX3_costsLater 3 (some .int)) (rmU 0 0) (va_Pc [.ref (ad o0), .int (zI v1), .int (zI v2)] (Pr D cA adK adV ad kX 151 R A σ)) (QI D cA ad kX 151 R A res) 0 0 A :=
  y_met (own := RX3) (by decide) rfl _ (Nat.le_of_ble_eq_true rfl) (fun p e s m args below meth c ls C hl hw => k_X3_costsLater_0 C ho0 hw hl h)
/-! RungHouse$Rule.barOn -/
set_option maxRecDepth 100000 in
set_option maxHeartbeats 4000000 in
theorem k_X5_barOn_69 {K2 : Int → Int → Int → Int → St → Option (Int × St)} {o0 : Int} {v1 : Int} {v2 : Int} {v3 : Int} (C : Cx cX5_barOn RX5 5 (some .int) D cA adK adV A p s m args meth c) (hK2 : ∀ (o0 : Int) (v1 : Int) (v2 : Int) (v3 : Int) (σ : St) (H : Heap) (locs : List Loc) (ls : Array Slot) (ho0 : kX o0 = (5, 0)), At D cA ad kX 151 R A s σ H locs → lv_has ls 5 [(0, .ref (ad o0)), (1, .int (zI v1)), (2, .int (zI v2)), (3, .int (zI v3))] → K2 o0 v1 v2 v3 σ = some res → W p l e (rmU 0 0) s m args below meth c H locs 0 0 (MQ below (QI D cA ad kX 151 R A res) args s 0 0 A) (F0 m 2 ls [])) {σ : St} {H : Heap} {locs : List Loc} {ls : Array Slot} (ho0 : kX o0 = (5, 0)) (hw : At D cA ad kX 151 R A s σ H locs) (hl : lv_has ls 5 [(0, .ref (ad o0)), (1, .int (zI v1)), (2, .int (zI v2)), (3, .int (zI v3))]) (h : p_X5_barOn_69 K2 o0 v1 v2 v3 σ = some res) : W p l e (rmU 0 0) s m args below meth c H locs 0 0 (MQ below (QI D cA ad kX 151 R A res) args s 0 0 A) (F0 m 69 ls []) := by
  have h := h
  unfold p_X5_barOn_69 at h
  refine y_iinc (lv' := [(3, .int (zI (v3 + 1))), (0, .ref (ad o0)), (1, .int (zI v1)), (2, .int (zI v2))]) C dX5_barOn_69 hl (k := 3) rfl (by decide) rfl (fun ls hl => ?_)
  refine y_goto (tgt := 2) C dX5_barOn_72 (by decide) ?_
  exact hK2 _ _ _ _ _ _ _ _ ho0 hw (lv_sub hl [1, 2, 3, 0] rfl) h
set_option maxRecDepth 100000 in
set_option maxHeartbeats 4000000 in
theorem k_X5_barOn_35 {K2 : Int → Int → Int → Int → St → Option (Int × St)} {o0 : Int} {v1 : Int} {v2 : Int} {v3 : Int} {vs0 : Int} (C : Cx cX5_barOn RX5 5 (some .int) D cA adK adV A p s m args meth c) (hK2 : ∀ (o0 : Int) (v1 : Int) (v2 : Int) (v3 : Int) (σ : St) (H : Heap) (locs : List Loc) (ls : Array Slot) (ho0 : kX o0 = (5, 0)), At D cA ad kX 151 R A s σ H locs → lv_has ls 5 [(0, .ref (ad o0)), (1, .int (zI v1)), (2, .int (zI v2)), (3, .int (zI v3))] → K2 o0 v1 v2 v3 σ = some res → W p l e (rmU 0 0) s m args below meth c H locs 0 0 (MQ below (QI D cA ad kX 151 R A res) args s 0 0 A) (F0 m 2 ls [])) {σ : St} {H : Heap} {locs : List Loc} {ls : Array Slot} (ho0 : kX o0 = (5, 0)) (hw : At D cA ad kX 151 R A s σ H locs) (hl : lv_has ls 5 [(0, .ref (ad o0)), (1, .int (zI v1)), (2, .int (zI v2)), (3, .int (zI v3))]) (h : p_X5_barOn_35 K2 o0 v1 v2 v3 vs0 σ = some res) : W p l e (rmU 0 0) s m args below meth c H locs 0 0 (MQ below (QI D cA ad kX 151 R A res) args s 0 0 A) (F0 m 35 ls [.int (zI vs0)]) := by
  have h := h
  unfold p_X5_barOn_35 at h
  refine y_istore (lv' := [(4, .int (zI vs0)), (0, .ref (ad o0)), (1, .int (zI v1)), (2, .int (zI v2)), (3, .int (zI v3))]) C dX5_barOn_35 hl (by decide) rfl (fun ls hl => ?_)
  refine y_iload C dX5_barOn_37 (lv_at hl 0 rfl) ?_
  refine y_if_eq (tgt := 69) C (a' := zm vs0) rfl dX5_barOn_39 (by decide) (fun hc => ?_) (fun hc => ?_)
  · rw [if_pos hc] at h
    exact k_X5_barOn_69 C hK2 ho0 hw (lv_sub hl [1, 2, 3, 4] rfl) h
  · rw [if_neg hc] at h
    refine y_iload_n C dX5_barOn_42 (lv_at hl 3 rfl) ?_
    refine y_aload_n C dX5_barOn_43 (lv_at hl 1 rfl) ?_
    refine g5 C hw ho0 3 (by decide) wd_278 rfl dX5_barOn_44 ?_
    refine y_iload_n C dX5_barOn_47 (lv_at hl 4 rfl) ?_
    obtain ⟨hg48, h⟩ := gd_some h
    refine y_iald C hw (ka5_firstMonths ho0) (i' := zm v3) rfl hg48 dX5_barOn_48 ?_
    refine y_icmp_lt (tgt := 69) C (a' := zm v2) (b' := zm (σ (o0 + 4) (zm v3))) rfl rfl dX5_barOn_49 (by decide) (fun hc => ?_) (fun hc => ?_)
    · rw [if_pos hc] at h
      exact k_X5_barOn_69 C hK2 ho0 hw (lv_sub hl [1, 2, 3, 4] rfl) h
    · rw [if_neg hc] at h
      refine y_iload_n C dX5_barOn_52 (lv_at hl 3 rfl) ?_
      refine y_aload_n C dX5_barOn_53 (lv_at hl 1 rfl) ?_
      refine g5 C hw ho0 4 (by decide) wd_279 rfl dX5_barOn_54 ?_
      refine y_iload_n C dX5_barOn_57 (lv_at hl 4 rfl) ?_
      refine y_iald C hw (ka5_lastMonths ho0) (i' := zm v3) rfl hg48 dX5_barOn_58 ?_
      refine y_icmp_gt (tgt := 69) C (a' := zm v2) (b' := zm (σ (o0 + 5) (zm v3))) rfl rfl dX5_barOn_59 (by decide) (fun hc => ?_) (fun hc => ?_)
      · rw [if_pos hc] at h
        exact k_X5_barOn_69 C hK2 ho0 hw (lv_sub hl [1, 2, 3, 4] rfl) h
      · rw [if_neg hc] at h
        refine y_aload_n C dX5_barOn_62 (lv_at hl 1 rfl) ?_
        refine g5 C hw ho0 0 (by decide) wd_275 rfl dX5_barOn_63 ?_
        refine y_iload_n C dX5_barOn_66 (lv_at hl 4 rfl) ?_
        refine y_iald C hw (ka5_bars ho0) (i' := zm v3) rfl hg48 dX5_barOn_67 ?_
        exact y_iret C hw h dX5_barOn_68
set_option maxRecDepth 100000 in
set_option maxHeartbeats 4000000 in
theorem k_X5_barOn_34 {K2 : Int → Int → Int → Int → St → Option (Int × St)} {o0 : Int} {v1 : Int} {v2 : Int} {v3 : Int} (C : Cx cX5_barOn RX5 5 (some .int) D cA adK adV A p s m args meth c) (hK2 : ∀ (o0 : Int) (v1 : Int) (v2 : Int) (v3 : Int) (σ : St) (H : Heap) (locs : List Loc) (ls : Array Slot) (ho0 : kX o0 = (5, 0)), At D cA ad kX 151 R A s σ H locs → lv_has ls 5 [(0, .ref (ad o0)), (1, .int (zI v1)), (2, .int (zI v2)), (3, .int (zI v3))] → K2 o0 v1 v2 v3 σ = some res → W p l e (rmU 0 0) s m args below meth c H locs 0 0 (MQ below (QI D cA ad kX 151 R A res) args s 0 0 A) (F0 m 2 ls [])) {σ : St} {H : Heap} {locs : List Loc} {ls : Array Slot} (ho0 : kX o0 = (5, 0)) (hw : At D cA ad kX 151 R A s σ H locs) (hl : lv_has ls 5 [(0, .ref (ad o0)), (1, .int (zI v1)), (2, .int (zI v2)), (3, .int (zI v3))]) (h : p_X5_barOn_34 K2 o0 v1 v2 v3 σ = some res) : W p l e (rmU 0 0) s m args below meth c H locs 0 0 (MQ below (QI D cA ad kX 151 R A res) args s 0 0 A) (F0 m 34 ls []) := by
  have h := h
  unfold p_X5_barOn_34 at h
  refine y_iconst C dX5_barOn_34 ?_
  exact k_X5_barOn_35 C hK2 ho0 hw hl h
set_option maxRecDepth 100000 in
set_option maxHeartbeats 4000000 in
theorem k_X5_barOn_2b {K2 : Int → Int → Int → Int → St → Option (Int × St)} {o0 : Int} {v1 : Int} {v2 : Int} {v3 : Int} (C : Cx cX5_barOn RX5 5 (some .int) D cA adK adV A p s m args meth c)  (hK2 : ∀ (o0 : Int) (v1 : Int) (v2 : Int) (v3 : Int) (σ : St) (H : Heap) (locs : List Loc) (ls : Array Slot) (ho0 : kX o0 = (5, 0)), At D cA ad kX 151 R A s σ H locs → lv_has ls 5 [(0, .ref (ad o0)), (1, .int (zI v1)), (2, .int (zI v2)), (3, .int (zI v3))] → K2 o0 v1 v2 v3 σ = some res → W p l e (rmU 0 0) s m args below meth c H locs 0 0 (MQ below (QI D cA ad kX 151 R A res) args s 0 0 A) (F0 m 2 ls [])) {σ : St} {H : Heap} {locs : List Loc} {ls : Array Slot} (ho0 : kX o0 = (5, 0)) (hw : At D cA ad kX 151 R A s σ H locs) (hl : lv_has ls 5 [(0, .ref (ad o0)), (1, .int (zI v1)), (2, .int (zI v2)), (3, .int (zI v3))]) (h : p_X5_barOn_2b K2 o0 v1 v2 v3 σ = some res) : W p l e (rmU 0 0) s m args below meth c H locs 0 0 (MQ below (QI D cA ad kX 151 R A res) args s 0 0 A) (F0 m 2 ls []) := by
  have h := h
  unfold p_X5_barOn_2b at h
  refine y_iload_n C dX5_barOn_2 (lv_at hl 3 rfl) ?_
  refine y_aload_n C dX5_barOn_3 (lv_at hl 0 rfl) ?_
  refine g5 C hw ho0 5 (by decide) wd_280 rfl dX5_barOn_4 ?_
  refine y_icmp_ge (tgt := 75) C (a' := zm v3) (b' := zm (σ o0 5)) rfl rfl dX5_barOn_7 (by decide) (fun hc => ?_) (fun hc => ?_)
  · rw [if_pos hc] at h
    refine y_iconst C dX5_barOn_75 ?_
    exact y_iret C hw h dX5_barOn_76
  · rw [if_neg hc] at h
    refine y_iload_n C dX5_barOn_10 (lv_at hl 1 rfl) ?_
    refine y_aload_n C dX5_barOn_11 (lv_at hl 0 rfl) ?_
    refine g5 C hw ho0 1 (by decide) wd_276 rfl dX5_barOn_12 ?_
    refine y_iload_n C dX5_barOn_15 (lv_at hl 3 rfl) ?_
    obtain ⟨hg16, h⟩ := gd_some h
    refine y_iald C hw (ka5_firstRungs ho0) (i' := zm v3) rfl hg16 dX5_barOn_16 ?_
    refine y_icmp_lt (tgt := 34) C (a' := zm v1) (b' := zm (σ (o0 + 2) (zm v3))) rfl rfl dX5_barOn_17 (by decide) (fun hc => ?_) (fun hc => ?_)
    · rw [if_pos hc] at h
      exact k_X5_barOn_34 C hK2 ho0 hw hl h
    · rw [if_neg hc] at h
      refine y_iload_n C dX5_barOn_20 (lv_at hl 1 rfl) ?_
      refine y_aload_n C dX5_barOn_21 (lv_at hl 0 rfl) ?_
      refine g5 C hw ho0 2 (by decide) wd_277 rfl dX5_barOn_22 ?_
      refine y_iload_n C dX5_barOn_25 (lv_at hl 3 rfl) ?_
      refine y_iald C hw (ka5_lastRungs ho0) (i' := zm v3) rfl hg16 dX5_barOn_26 ?_
      refine y_icmp_gt (tgt := 34) C (a' := zm v1) (b' := zm (σ (o0 + 3) (zm v3))) rfl rfl dX5_barOn_27 (by decide) (fun hc => ?_) (fun hc => ?_)
      · rw [if_pos hc] at h
        exact k_X5_barOn_34 C hK2 ho0 hw hl h
      · rw [if_neg hc] at h
        refine y_iconst C dX5_barOn_30 ?_
        refine y_goto (tgt := 35) C dX5_barOn_31 (by decide) ?_
        exact k_X5_barOn_35 C hK2 ho0 hw hl h
set_option maxRecDepth 100000 in
theorem k_X5_barOn_2  (C : Cx cX5_barOn RX5 5 (some .int) D cA adK adV A p s m args meth c)  : ∀ (n : Nat) (o0 : Int) (v1 : Int) (v2 : Int) (v3 : Int) (σ : St) (H : Heap) (locs : List Loc) (ls : Array Slot) (ho0 : kX o0 = (5, 0)), At D cA ad kX 151 R A s σ H locs → lv_has ls 5 [(0, .ref (ad o0)), (1, .int (zI v1)), (2, .int (zI v2)), (3, .int (zI v3))] → p_X5_barOn_2  n o0 v1 v2 v3 σ = some res → W p l e (rmU 0 0) s m args below meth c H locs 0 0 (MQ below (QI D cA ad kX 151 R A res) args s 0 0 A) (F0 m 2 ls []) := by
  intro n
  induction n with
  | zero =>
    intro o0 v1 v2 v3 σ H locs ls ho0 hw hl h
    have h : none = some res := h
    cases h
  | succ n ih =>
    intro o0 v1 v2 v3 σ H locs ls ho0 hw hl h
    exact k_X5_barOn_2b C  ih ho0 hw hl h
set_option maxRecDepth 100000 in
set_option maxHeartbeats 4000000 in
theorem k_X5_barOn_0  {o0 : Int} {v1 : Int} {v2 : Int} (C : Cx cX5_barOn RX5 5 (some .int) D cA adK adV A p s m args meth c)  {σ : St} {H : Heap} {locs : List Loc} {ls : Array Slot} (ho0 : kX o0 = (5, 0)) (hw : At D cA ad kX 151 R A s σ H locs) (hl : lv_has ls 5 [(0, .ref (ad o0)), (1, .int (zI v1)), (2, .int (zI v2))]) (h : p_X5_barOn  o0 v1 v2 σ = some res) : W p l e (rmU 0 0) s m args below meth c H locs 0 0 (MQ below (QI D cA ad kX 151 R A res) args s 0 0 A) (F0 m 0 ls []) := by
  have h := h
  unfold p_X5_barOn at h
  refine y_iconst C dX5_barOn_0 ?_
  refine y_istore_n (lv' := [(3, .int (zI 0)), (0, .ref (ad o0)), (1, .int (zI v1)), (2, .int (zI v2))]) C dX5_barOn_1 hl (by decide) rfl (fun ls hl => ?_)
  exact k_X5_barOn_2 C  FU _ _ _ _ _ _ _ _ ho0 hw (lv_sub hl [1, 2, 3, 0] rfl) h
theorem c_X5_barOn {l : Launch} {D : va_G} {cA : Nat → ClassId} {adK adV : Nat → Nat} {A : Nat → Prop} {ad : Int → Nat} {R : va_W} {σ : St} {res : Int × St} {o0 : Int} {v1 : Int} {v2 : Int} (ho0 : kX o0 = (5, 0)) (h : p_X5_barOn o0 v1 v2 σ = some res) : Met l yX5_barOn (wsU yX5_barOn cX5_barOn 5 (some .int)) (rmU 0 0) (va_Pc [.ref (ad o0), .int (zI v1), .int (zI v2)] (Pr D cA adK adV ad kX 151 R A σ)) (QI D cA ad kX 151 R A res) 0 0 A :=
  y_met (own := RX5) (by decide) rfl _ (Nat.le_of_ble_eq_true rfl) (fun p e s m args below meth c ls C hl hw => k_X5_barOn_0 C ho0 hw hl h)
/-! RungHouse$Plan.inside -/
set_option maxRecDepth 100000 in
set_option maxHeartbeats 4000000 in
theorem k_X3_inside_0  {o0 : Int} {v1 : Int} {v2 : Int} (C : Cx cX3_inside RX3 3 (some .int) D cA adK adV A p s m args meth c)  {σ : St} {H : Heap} {locs : List Loc} {ls : Array Slot} (ho0 : kX o0 = (3, 0)) (hw : At D cA ad kX 151 R A s σ H locs) (hl : lv_has ls 3 [(0, .ref (ad o0)), (1, .int (zI v1)), (2, .int (zI v2))]) (h : p_X3_inside  o0 v1 v2 σ = some res) : W p l e (rmU 0 0) s m args below meth c H locs 0 0 (MQ below (QI D cA ad kX 151 R A res) args s 0 0 A) (F0 m 0 ls []) := by
  have h := h
  unfold p_X3_inside at h
  refine y_aload_n C dX3_inside_0 (lv_at hl 0 rfl) ?_
  refine g3 C hw ho0 6 (by decide) wd_236 rfl dX3_inside_1 ?_
  refine y_iload_n C dX3_inside_4 (lv_at hl 1 rfl) ?_
  refine y_iconst C dX3_inside_5 ?_
  refine y_imul C dX3_inside_6 ?_
  refine y_iload_n C dX3_inside_7 (lv_at hl 2 rfl) ?_
  refine y_iadd C dX3_inside_8 ?_
  obtain ⟨hg9, h⟩ := gd_some h
  refine y_iald C hw (ka3_table ho0) (i' := zm ((v1 * 4) + v2)) rfl hg9 dX3_inside_9 ?_
  exact y_iret C hw h dX3_inside_10
theorem c_X3_inside {l : Launch} {D : va_G} {cA : Nat → ClassId} {adK adV : Nat → Nat} {A : Nat → Prop} {ad : Int → Nat} {R : va_W} {σ : St} {res : Int × St} {o0 : Int} {v1 : Int} {v2 : Int} (ho0 : kX o0 = (3, 0)) (h : p_X3_inside o0 v1 v2 σ = some res) : Met l yX3_inside (wsU yX3_inside cX3_inside 3 (some .int)) (rmU 0 0) (va_Pc [.ref (ad o0), .int (zI v1), .int (zI v2)] (Pr D cA adK adV ad kX 151 R A σ)) (QI D cA ad kX 151 R A res) 0 0 A :=
  y_met (own := RX3) (by decide) rfl _ (Nat.le_of_ble_eq_true rfl) (fun p e s m args below meth c ls C hl hw => k_X3_inside_0 C ho0 hw hl h)
/-! RungHouse$Plan.reckonMonth -/
set_option maxRecDepth 100000 in
set_option maxHeartbeats 4000000 in
theorem k_X3_reckonMonth_93  {o0 : Int} {v1 : Int} {v2 : Int} {v3 : Int} {v4 : Int} (C : Cx cX3_reckonMonth RX3 7 none D cA adK adV A p s m args meth c)  {σ : St} {H : Heap} {locs : List Loc} {ls : Array Slot} (ho0 : kX o0 = (3, 0)) (hw : At D cA ad kX 151 R A s σ H locs) (hl : lv_has ls 7 [(0, .ref (ad o0)), (1, .int (zI v1)), (2, .int (zI v2)), (3, .int (zI v3)), (4, .int (zI v4))]) (h : p_X3_reckonMonth_93  o0 v1 v2 v3 v4 σ = some res) : W p l e (rmU 1 24) s m args below meth c H locs 0 0 (MQ below (QV D cA ad kX 151 R A res) args s 0 0 A) (F0 m 93 ls []) := by
  have h := h
  unfold p_X3_reckonMonth_93 at h
  refine y_aload_n C dX3_reckonMonth_93 (lv_at hl 0 rfl) ?_
  refine g3 C hw ho0 7 (by decide) wd_237 rfl dX3_reckonMonth_94 ?_
  refine y_iload_n C dX3_reckonMonth_97 (lv_at hl 1 rfl) ?_
  refine y_iconst C dX3_reckonMonth_98 ?_
  refine y_imul C dX3_reckonMonth_99 ?_
  refine y_iload_n C dX3_reckonMonth_100 (lv_at hl 2 rfl) ?_
  refine y_iadd C dX3_reckonMonth_101 ?_
  refine y_iload C dX3_reckonMonth_102 (lv_at hl 4 rfl) ?_
  obtain ⟨hg104, h⟩ := gd_some h
  obtain ⟨σ104, eσ104, h⟩ := nx_some h
  refine y_iast C hw (ka3_firstAsked ho0) (i' := zm ((v1 * 4) + v2)) rfl hg104 dX3_reckonMonth_104 (fun H locs hw => ?_)
  rw [← eσ104] at hw
  refine y_aload_n C dX3_reckonMonth_105 (lv_at hl 0 rfl) ?_
  refine y_iload_n C dX3_reckonMonth_106 (lv_at hl 1 rfl) ?_
  refine y_iconst C dX3_reckonMonth_107 ?_
  refine y_iadd C dX3_reckonMonth_108 ?_
  refine y_iload_n C dX3_reckonMonth_109 (lv_at hl 2 rfl) ?_
  obtain ⟨x110, hc110, h⟩ := bd_some h
  refine y_ci (rest := []) hw (y_rV C hw ho0 (by decide) rfl rfl (c_X3_inside ho0 hc110) mi_X3_inside wd_629 wd_630 wd_631 rfl ⟨by decide, by decide⟩ hl rfl (Nat.le_of_ble_eq_true rfl) dX3_reckonMonth_110) (fun H locs hw => ?_)
  refine y_i2l C rfl dX3_reckonMonth_113 ?_
  refine y_aload_n C dX3_reckonMonth_114 (lv_at hl 0 rfl) ?_
  refine g3 C hw ho0 11 (by decide) wd_241 rfl dX3_reckonMonth_115 ?_
  refine y_i2l C rfl dX3_reckonMonth_118 ?_
  refine y_ladd C dX3_reckonMonth_119 ?_
  refine y_aload_n C dX3_reckonMonth_120 (lv_at hl 0 rfl) ?_
  refine g3 C hw ho0 10 (by decide) wd_240 rfl dX3_reckonMonth_121 ?_
  refine y_iload C dX3_reckonMonth_124 (lv_at hl 4 rfl) ?_
  obtain ⟨hg126, h⟩ := gd_some h
  refine y_iald C hw (ka3_houseBearsFrom ho0) (i' := zm v4) rfl hg126 dX3_reckonMonth_126 ?_
  refine y_i2l C rfl dX3_reckonMonth_127 ?_
  refine y_lsub C dX3_reckonMonth_128 ?_
  obtain ⟨z129, ez129, h⟩ := nz_some h
  rw [← ez129]
  refine y_lstore (lv' := [(5, .long (zJ z129)), (0, .ref (ad o0)), (1, .int (zI v1)), (2, .int (zI v2)), (3, .int (zI v3)), (4, .int (zI v4))]) C dX3_reckonMonth_129 hl (by decide) rfl (fun ls hl => ?_)
  refine y_aload_n C dX3_reckonMonth_131 (lv_at hl 1 rfl) ?_
  refine g3 C hw ho0 6 (by decide) wd_236 rfl dX3_reckonMonth_132 ?_
  refine y_iload_n C dX3_reckonMonth_135 (lv_at hl 2 rfl) ?_
  refine y_iconst C dX3_reckonMonth_136 ?_
  refine y_imul C dX3_reckonMonth_137 ?_
  refine y_iload_n C dX3_reckonMonth_138 (lv_at hl 3 rfl) ?_
  refine y_iadd C dX3_reckonMonth_139 ?_
  refine y_lload C dX3_reckonMonth_140 (lv_at hl 0 rfl) ?_
  refine y_ldc2 C (z := 1000) wd_633 (by decide) dX3_reckonMonth_142 ?_
  refine y_lmul C dX3_reckonMonth_145 ?_
  refine y_aload_n C dX3_reckonMonth_146 (lv_at hl 1 rfl) ?_
  refine g3 C hw ho0 9 (by decide) wd_239 rfl dX3_reckonMonth_147 ?_
  refine y_iload C dX3_reckonMonth_150 (lv_at hl 5 rfl) ?_
  refine y_iald C hw (ka3_chanceFrom ho0) (i' := zm v4) rfl hg126 dX3_reckonMonth_152 ?_
  refine y_i2l C rfl dX3_reckonMonth_153 ?_
  refine y_iload_n C dX3_reckonMonth_154 (lv_at hl 4 rfl) ?_
  refine y_i2l C rfl dX3_reckonMonth_155 ?_
  refine y_lmul C dX3_reckonMonth_156 ?_
  refine y_ladd C dX3_reckonMonth_157 ?_
  refine y_ldc2 C (z := 1000) wd_633 (by decide) dX3_reckonMonth_158 ?_
  refine y_ldiv C (b' := 1000) (by decide) (by decide) dX3_reckonMonth_161 ?_
  refine y_l2i C dX3_reckonMonth_162 ?_
  obtain ⟨hg163, h⟩ := gd_some h
  obtain ⟨σ163, eσ163, h⟩ := nx_some h
  refine y_iast C hw (ka3_table ho0) (i' := zm ((v1 * 4) + v2)) rfl hg163 dX3_reckonMonth_163 (fun H locs hw => ?_)
  rw [← eσ163] at hw
  exact y_vret C hw h dX3_reckonMonth_164
set_option maxRecDepth 100000 in
set_option maxHeartbeats 4000000 in
theorem k_X3_reckonMonth_60b {K60 : Int → Int → Int → Int → Int → Int → St → Option (Int × St)} {o0 : Int} {v1 : Int} {v2 : Int} {v3 : Int} {v4 : Int} {v5 : Int} (C : Cx cX3_reckonMonth RX3 7 none D cA adK adV A p s m args meth c)  (hK60 : ∀ (o0 : Int) (v1 : Int) (v2 : Int) (v3 : Int) (v4 : Int) (v5 : Int) (σ : St) (H : Heap) (locs : List Loc) (ls : Array Slot) (ho0 : kX o0 = (3, 0)), At D cA ad kX 151 R A s σ H locs → lv_has ls 7 [(0, .ref (ad o0)), (1, .int (zI v1)), (2, .int (zI v2)), (3, .int (zI v3)), (4, .int (zI v4)), (5, .int (zI v5))] → K60 o0 v1 v2 v3 v4 v5 σ = some res → W p l e (rmU 1 24) s m args below meth c H locs 0 0 (MQ below (QV D cA ad kX 151 R A res) args s 0 0 A) (F0 m 60 ls [])) {σ : St} {H : Heap} {locs : List Loc} {ls : Array Slot} (ho0 : kX o0 = (3, 0)) (hw : At D cA ad kX 151 R A s σ H locs) (hl : lv_has ls 7 [(0, .ref (ad o0)), (1, .int (zI v1)), (2, .int (zI v2)), (3, .int (zI v3)), (4, .int (zI v4)), (5, .int (zI v5))]) (h : p_X3_reckonMonth_60b K60 o0 v1 v2 v3 v4 v5 σ = some res) : W p l e (rmU 1 24) s m args below meth c H locs 0 0 (MQ below (QV D cA ad kX 151 R A res) args s 0 0 A) (F0 m 60 ls []) := by
  have h := h
  unfold p_X3_reckonMonth_60b at h
  refine y_iload C dX3_reckonMonth_60 (lv_at hl 4 rfl) ?_
  refine y_aload_n C dX3_reckonMonth_62 (lv_at hl 0 rfl) ?_
  obtain ⟨hg63, h⟩ := gd_some h
  refine g3 C hw ho0 0 (by decide) wd_228 rfl dX3_reckonMonth_63 ?_
  rw [rv_ref (kX_in _ (by rw [hg63]; decide)).1]
  refine g6 C hw hg63 3 (by decide) wd_194 rfl dX3_reckonMonth_66 ?_
  refine y_icmp_ge (tgt := 93) C (a' := zm v4) (b' := zm (σ (σ o0 0) 3)) rfl rfl dX3_reckonMonth_69 (by decide) (fun hc => ?_) (fun hc => ?_)
  · rw [if_pos hc] at h
    exact k_X3_reckonMonth_93 C  ho0 hw (lv_sub hl [0, 1, 2, 3, 4] rfl) h
  · rw [if_neg hc] at h
    refine y_aload_n C dX3_reckonMonth_72 (lv_at hl 0 rfl) ?_
    refine g3 C hw ho0 0 (by decide) wd_228 rfl dX3_reckonMonth_73 ?_
    rw [rv_ref (kX_in _ (by rw [hg63]; decide)).1]
    refine g6 C hw hg63 0 (by decide) wd_188 rfl dX3_reckonMonth_76 ?_
    refine y_iload C dX3_reckonMonth_79 (lv_at hl 4 rfl) ?_
    obtain ⟨hg81, h⟩ := gd_some h
    refine y_iald C hw (ka6_sums hg63) (i' := zm v4) rfl hg81 dX3_reckonMonth_81 ?_
    refine y_iload C dX3_reckonMonth_82 (lv_at hl 5 rfl) ?_
    refine y_icmp_ge (tgt := 93) C (a' := zm (σ ((σ o0 0) + 1) (zm v4))) (b' := zm v5) rfl rfl dX3_reckonMonth_84 (by decide) (fun hc => ?_) (fun hc => ?_)
    · rw [if_pos hc] at h
      exact k_X3_reckonMonth_93 C  ho0 hw (lv_sub hl [0, 1, 2, 3, 4] rfl) h
    · rw [if_neg hc] at h
      refine y_iinc (lv' := [(4, .int (zI (v4 + 1))), (0, .ref (ad o0)), (1, .int (zI v1)), (2, .int (zI v2)), (3, .int (zI v3)), (5, .int (zI v5))]) C dX3_reckonMonth_87 hl (k := 4) rfl (by decide) rfl (fun ls hl => ?_)
      refine y_goto (tgt := 60) C dX3_reckonMonth_90 (by decide) ?_
      exact hK60 _ _ _ _ _ _ _ _ _ _ ho0 hw (lv_sub hl [1, 2, 3, 4, 0, 5] rfl) h
set_option maxRecDepth 100000 in
theorem k_X3_reckonMonth_60  (C : Cx cX3_reckonMonth RX3 7 none D cA adK adV A p s m args meth c)  : ∀ (n : Nat) (o0 : Int) (v1 : Int) (v2 : Int) (v3 : Int) (v4 : Int) (v5 : Int) (σ : St) (H : Heap) (locs : List Loc) (ls : Array Slot) (ho0 : kX o0 = (3, 0)), At D cA ad kX 151 R A s σ H locs → lv_has ls 7 [(0, .ref (ad o0)), (1, .int (zI v1)), (2, .int (zI v2)), (3, .int (zI v3)), (4, .int (zI v4)), (5, .int (zI v5))] → p_X3_reckonMonth_60  n o0 v1 v2 v3 v4 v5 σ = some res → W p l e (rmU 1 24) s m args below meth c H locs 0 0 (MQ below (QV D cA ad kX 151 R A res) args s 0 0 A) (F0 m 60 ls []) := by
  intro n
  induction n with
  | zero =>
    intro o0 v1 v2 v3 v4 v5 σ H locs ls ho0 hw hl h
    have h : none = some res := h
    cases h
  | succ n ih =>
    intro o0 v1 v2 v3 v4 v5 σ H locs ls ho0 hw hl h
    exact k_X3_reckonMonth_60b C  ih ho0 hw hl h
set_option maxRecDepth 100000 in
set_option maxHeartbeats 4000000 in
theorem k_X3_reckonMonth_17b {K17 : Int → Int → Int → Int → Int → St → Option (Int × St)} {o0 : Int} {v1 : Int} {v2 : Int} {v3 : Int} {v4 : Int} (C : Cx cX3_reckonMonth RX3 7 none D cA adK adV A p s m args meth c)  (hK17 : ∀ (o0 : Int) (v1 : Int) (v2 : Int) (v3 : Int) (v4 : Int) (σ : St) (H : Heap) (locs : List Loc) (ls : Array Slot) (ho0 : kX o0 = (3, 0)), At D cA ad kX 151 R A s σ H locs → lv_has ls 7 [(0, .ref (ad o0)), (1, .int (zI v1)), (2, .int (zI v2)), (3, .int (zI v3)), (4, .int (zI v4))] → K17 o0 v1 v2 v3 v4 σ = some res → W p l e (rmU 1 24) s m args below meth c H locs 0 0 (MQ below (QV D cA ad kX 151 R A res) args s 0 0 A) (F0 m 17 ls [])) {σ : St} {H : Heap} {locs : List Loc} {ls : Array Slot} (ho0 : kX o0 = (3, 0)) (hw : At D cA ad kX 151 R A s σ H locs) (hl : lv_has ls 7 [(0, .ref (ad o0)), (1, .int (zI v1)), (2, .int (zI v2)), (3, .int (zI v3)), (4, .int (zI v4))]) (h : p_X3_reckonMonth_17b K17 o0 v1 v2 v3 v4 σ = some res) : W p l e (rmU 1 24) s m args below meth c H locs 0 0 (MQ below (QV D cA ad kX 151 R A res) args s 0 0 A) (F0 m 17 ls []) := by
  have h := h
  unfold p_X3_reckonMonth_17b at h
  refine y_iload C dX3_reckonMonth_17 (lv_at hl 4 rfl) ?_
  refine y_aload_n C dX3_reckonMonth_19 (lv_at hl 0 rfl) ?_
  obtain ⟨hg20, h⟩ := gd_some h
  refine g3 C hw ho0 0 (by decide) wd_228 rfl dX3_reckonMonth_20 ?_
  rw [rv_ref (kX_in _ (by rw [hg20]; decide)).1]
  refine g6 C hw hg20 3 (by decide) wd_194 rfl dX3_reckonMonth_23 ?_
  refine y_icmp_ge (tgt := 93) C (a' := zm v4) (b' := zm (σ (σ o0 0) 3)) rfl rfl dX3_reckonMonth_26 (by decide) (fun hc => ?_) (fun hc => ?_)
  · rw [if_pos hc] at h
    exact k_X3_reckonMonth_93 C  ho0 hw hl h
  · rw [if_neg hc] at h
    refine y_aload_n C dX3_reckonMonth_29 (lv_at hl 0 rfl) ?_
    refine g3 C hw ho0 8 (by decide) wd_238 rfl dX3_reckonMonth_30 ?_
    refine y_iload C dX3_reckonMonth_33 (lv_at hl 4 rfl) ?_
    obtain ⟨hg35, h⟩ := gd_some h
    refine y_iald C hw (ka3_spared ho0) (i' := zm v4) rfl hg35 dX3_reckonMonth_35 ?_
    refine y_iload_n C dX3_reckonMonth_36 (lv_at hl 3 rfl) ?_
    refine y_icmp_gt (tgt := 93) C (a' := zm (σ (o0 + 5) (zm v4))) (b' := zm v3) rfl rfl dX3_reckonMonth_37 (by decide) (fun hc => ?_) (fun hc => ?_)
    · rw [if_pos hc] at h
      exact k_X3_reckonMonth_93 C  ho0 hw hl h
    · rw [if_neg hc] at h
      refine y_iinc (lv' := [(4, .int (zI (v4 + 1))), (0, .ref (ad o0)), (1, .int (zI v1)), (2, .int (zI v2)), (3, .int (zI v3))]) C dX3_reckonMonth_40 hl (k := 4) rfl (by decide) rfl (fun ls hl => ?_)
      refine y_goto (tgt := 17) C dX3_reckonMonth_43 (by decide) ?_
      exact hK17 _ _ _ _ _ _ _ _ _ ho0 hw (lv_sub hl [1, 2, 3, 4, 0] rfl) h
set_option maxRecDepth 100000 in
theorem k_X3_reckonMonth_17  (C : Cx cX3_reckonMonth RX3 7 none D cA adK adV A p s m args meth c)  : ∀ (n : Nat) (o0 : Int) (v1 : Int) (v2 : Int) (v3 : Int) (v4 : Int) (σ : St) (H : Heap) (locs : List Loc) (ls : Array Slot) (ho0 : kX o0 = (3, 0)), At D cA ad kX 151 R A s σ H locs → lv_has ls 7 [(0, .ref (ad o0)), (1, .int (zI v1)), (2, .int (zI v2)), (3, .int (zI v3)), (4, .int (zI v4))] → p_X3_reckonMonth_17  n o0 v1 v2 v3 v4 σ = some res → W p l e (rmU 1 24) s m args below meth c H locs 0 0 (MQ below (QV D cA ad kX 151 R A res) args s 0 0 A) (F0 m 17 ls []) := by
  intro n
  induction n with
  | zero =>
    intro o0 v1 v2 v3 v4 σ H locs ls ho0 hw hl h
    have h : none = some res := h
    cases h
  | succ n ih =>
    intro o0 v1 v2 v3 v4 σ H locs ls ho0 hw hl h
    exact k_X3_reckonMonth_17b C  ih ho0 hw hl h
set_option maxRecDepth 100000 in
set_option maxHeartbeats 4000000 in
theorem k_X3_reckonMonth_0  {o0 : Int} {v1 : Int} {v2 : Int} (C : Cx cX3_reckonMonth RX3 7 none D cA adK adV A p s m args meth c)  {σ : St} {H : Heap} {locs : List Loc} {ls : Array Slot} (ho0 : kX o0 = (3, 0)) (hw : At D cA ad kX 151 R A s σ H locs) (hl : lv_has ls 7 [(0, .ref (ad o0)), (1, .int (zI v1)), (2, .int (zI v2))]) (h : p_X3_reckonMonth  o0 v1 v2 σ = some res) : W p l e (rmU 1 24) s m args below meth c H locs 0 0 (MQ below (QV D cA ad kX 151 R A res) args s 0 0 A) (F0 m 0 ls []) := by
  have h := h
  unfold p_X3_reckonMonth at h
  refine y_aload_n C dX3_reckonMonth_0 (lv_at hl 0 rfl) ?_
  refine y_iload_n C dX3_reckonMonth_1 (lv_at hl 1 rfl) ?_
  refine y_iload_n C dX3_reckonMonth_2 (lv_at hl 2 rfl) ?_
  obtain ⟨x3, hc3, h⟩ := bd_some h
  refine y_ci (rest := []) hw (y_rV C hw ho0 (by decide) rfl rfl (c_X3_costsLater ho0 hc3) mi_X3_costsLater wd_621 wd_623 ws_17 rfl ⟨by decide, by decide⟩ hl rfl (Nat.le_of_ble_eq_true rfl) dX3_reckonMonth_3) (fun H locs hw => ?_)
  refine y_istore_n (lv' := [(3, .int (zI x3.1)), (0, .ref (ad o0)), (1, .int (zI v1)), (2, .int (zI v2))]) C dX3_reckonMonth_6 hl (by decide) rfl (fun ls hl => ?_)
  refine y_iconst C dX3_reckonMonth_7 ?_
  refine y_istore (lv' := [(4, .int (zI 0)), (3, .int (zI x3.1)), (0, .ref (ad o0)), (1, .int (zI v1)), (2, .int (zI v2))]) C dX3_reckonMonth_8 hl (by decide) rfl (fun ls hl => ?_)
  refine y_aload_n C dX3_reckonMonth_10 (lv_at hl 2 rfl) ?_
  refine g3 C hw ho0 2 (by decide) wd_231 rfl dX3_reckonMonth_11 ?_
  refine y_ifnonnullV (tgt := 46) C dX3_reckonMonth_14 (by decide) (fun hc => ?_) (fun hc => ?_)
  · rw [if_pos hc] at h
    exact k_X3_reckonMonth_17 C  FU _ _ _ _ _ _ _ _ _ ho0 hw (lv_sub hl [2, 3, 4, 1, 0] rfl) h
  · rw [if_neg hc] at h
    refine y_aload_n C dX3_reckonMonth_46 (lv_at hl 2 rfl) ?_
    obtain ⟨hg47, h⟩ := gd_some h
    refine g3 C hw ho0 2 (by decide) wd_231 rfl dX3_reckonMonth_47 ?_
    rw [rv_ref (kX_in _ (by rw [hg47]; decide)).1]
    refine y_aload_n C dX3_reckonMonth_50 (lv_at hl 2 rfl) ?_
    refine g3 C hw ho0 12 (by decide) wd_242 rfl dX3_reckonMonth_51 ?_
    refine y_iload_n C dX3_reckonMonth_54 (lv_at hl 3 rfl) ?_
    obtain ⟨x55, hc55, h⟩ := bd_some h
    refine y_ci (rest := []) hw (y_rV C hw hg47 (by decide) rfl rfl (c_X5_barOn hg47 hc55) mi_X5_barOn wd_625 wd_626 wd_627 rfl ⟨by decide, by decide⟩ hl rfl (Nat.le_of_ble_eq_true rfl) dX3_reckonMonth_55) (fun H locs hw => ?_)
    refine y_istore (lv' := [(5, .int (zI x55.1)), (4, .int (zI 0)), (3, .int (zI x3.1)), (0, .ref (ad o0)), (1, .int (zI v1)), (2, .int (zI v2))]) C dX3_reckonMonth_58 hl (by decide) rfl (fun ls hl => ?_)
    exact k_X3_reckonMonth_60 C  FU _ _ _ _ _ _ _ _ _ _ ho0 hw (lv_sub hl [3, 4, 5, 2, 1, 0] rfl) h
theorem c_X3_reckonMonth {l : Launch} {D : va_G} {cA : Nat → ClassId} {adK adV : Nat → Nat} {A : Nat → Prop} {ad : Int → Nat} {R : va_W} {σ : St} {res : Int × St} {o0 : Int} {v1 : Int} {v2 : Int} (ho0 : kX o0 = (3, 0)) (h : p_X3_reckonMonth o0 v1 v2 σ = some res) : Met l yX3_reckonMonth (wsU yX3_reckonMonth cX3_reckonMonth 7 none) (rmU 1 24) (va_Pc [.ref (ad o0), .int (zI v1), .int (zI v2)] (Pr D cA adK adV ad kX 151 R A σ)) (QV D cA ad kX 151 R A res) 0 0 A :=
  y_met (own := RX3) (by decide) rfl _ (Nat.le_of_ble_eq_true rfl) (fun p e s m args below meth c ls C hl hw => k_X3_reckonMonth_0 C ho0 hw hl h)
/-! RungHouse$Plan.openYear -/
set_option maxRecDepth 100000 in
set_option maxHeartbeats 4000000 in
theorem k_X3_openYear_87b {K79 : Int → Int → St → Option (Int × St)} {K87 : Int → Int → Int → St → Option (Int × St)} {o0 : Int} {v4 : Int} {v5 : Int} (C : Cx cX3_openYear RX3 6 none D cA adK adV A p s m args meth c) (hK79 : ∀ (o0 : Int) (v4 : Int) (σ : St) (H : Heap) (locs : List Loc) (ls : Array Slot) (ho0 : kX o0 = (3, 0)), At D cA ad kX 151 R A s σ H locs → lv_has ls 6 [(0, .ref (ad o0)), (4, .int (zI v4))] → K79 o0 v4 σ = some res → W p l e (rmU 2 50) s m args below meth c H locs 0 0 (MQ below (QV D cA ad kX 151 R A res) args s 0 0 A) (F0 m 79 ls [])) (hK87 : ∀ (o0 : Int) (v4 : Int) (v5 : Int) (σ : St) (H : Heap) (locs : List Loc) (ls : Array Slot) (ho0 : kX o0 = (3, 0)), At D cA ad kX 151 R A s σ H locs → lv_has ls 6 [(0, .ref (ad o0)), (4, .int (zI v4)), (5, .int (zI v5))] → K87 o0 v4 v5 σ = some res → W p l e (rmU 2 50) s m args below meth c H locs 0 0 (MQ below (QV D cA ad kX 151 R A res) args s 0 0 A) (F0 m 87 ls [])) {σ : St} {H : Heap} {locs : List Loc} {ls : Array Slot} (ho0 : kX o0 = (3, 0)) (hw : At D cA ad kX 151 R A s σ H locs) (hl : lv_has ls 6 [(0, .ref (ad o0)), (4, .int (zI v4)), (5, .int (zI v5))]) (h : p_X3_openYear_87b K79 K87 o0 v4 v5 σ = some res) : W p l e (rmU 2 50) s m args below meth c H locs 0 0 (MQ below (QV D cA ad kX 151 R A res) args s 0 0 A) (F0 m 87 ls []) := by
  have h := h
  unfold p_X3_openYear_87b at h
  refine y_iload C dX3_openYear_87 (lv_at hl 2 rfl) ?_
  refine y_iconst C dX3_openYear_89 ?_
  refine y_icmp_ge (tgt := 107) C (a' := zm v5) (b' := 4) rfl (by decide) dX3_openYear_90 (by decide) (fun hc => ?_) (fun hc => ?_)
  · rw [if_pos hc] at h
    refine y_iinc (lv' := [(4, .int (zI (v4 + (-1)))), (0, .ref (ad o0)), (5, .int (zI v5))]) C dX3_openYear_107 hl (k := 1) rfl (by decide) rfl (fun ls hl => ?_)
    refine y_goto (tgt := 79) C dX3_openYear_110 (by decide) ?_
    exact hK79 _ _ _ _ _ _ ho0 hw (lv_sub hl [1, 0] rfl) h
  · rw [if_neg hc] at h
    refine y_aload_n C dX3_openYear_93 (lv_at hl 0 rfl) ?_
    refine y_iload C dX3_openYear_94 (lv_at hl 1 rfl) ?_
    refine y_iload C dX3_openYear_96 (lv_at hl 2 rfl) ?_
    obtain ⟨x98, hc98, h⟩ := bd_some h
    refine y_cv (rest := []) hw (y_rV C hw ho0 (by decide) rfl rfl (c_X3_reckonMonth ho0 hc98) mi_X3_reckonMonth wd_617 wd_619 ws_16 rfl ⟨by decide, by decide⟩ hl rfl (Nat.le_of_ble_eq_true rfl) dX3_openYear_98) (fun H locs hw => ?_)
    refine y_iinc (lv' := [(5, .int (zI (v5 + 1))), (0, .ref (ad o0)), (4, .int (zI v4))]) C dX3_openYear_101 hl (k := 2) rfl (by decide) rfl (fun ls hl => ?_)
    refine y_goto (tgt := 87) C dX3_openYear_104 (by decide) ?_
    exact hK87 _ _ _ _ _ _ _ ho0 hw (lv_sub hl [1, 2, 0] rfl) h
set_option maxRecDepth 100000 in
theorem k_X3_openYear_87 {K79 : Int → Int → St → Option (Int × St)} (C : Cx cX3_openYear RX3 6 none D cA adK adV A p s m args meth c) (hK79 : ∀ (o0 : Int) (v4 : Int) (σ : St) (H : Heap) (locs : List Loc) (ls : Array Slot) (ho0 : kX o0 = (3, 0)), At D cA ad kX 151 R A s σ H locs → lv_has ls 6 [(0, .ref (ad o0)), (4, .int (zI v4))] → K79 o0 v4 σ = some res → W p l e (rmU 2 50) s m args below meth c H locs 0 0 (MQ below (QV D cA ad kX 151 R A res) args s 0 0 A) (F0 m 79 ls [])) : ∀ (n : Nat) (o0 : Int) (v4 : Int) (v5 : Int) (σ : St) (H : Heap) (locs : List Loc) (ls : Array Slot) (ho0 : kX o0 = (3, 0)), At D cA ad kX 151 R A s σ H locs → lv_has ls 6 [(0, .ref (ad o0)), (4, .int (zI v4)), (5, .int (zI v5))] → p_X3_openYear_87 K79 n o0 v4 v5 σ = some res → W p l e (rmU 2 50) s m args below meth c H locs 0 0 (MQ below (QV D cA ad kX 151 R A res) args s 0 0 A) (F0 m 87 ls []) := by
  intro n
  induction n with
  | zero =>
    intro o0 v4 v5 σ H locs ls ho0 hw hl h
    have h : none = some res := h
    cases h
  | succ n ih =>
    intro o0 v4 v5 σ H locs ls ho0 hw hl h
    exact k_X3_openYear_87b C hK79 ih ho0 hw hl h
set_option maxRecDepth 100000 in
set_option maxHeartbeats 4000000 in
theorem k_X3_openYear_79b {K79 : Int → Int → St → Option (Int × St)} {o0 : Int} {v4 : Int} (C : Cx cX3_openYear RX3 6 none D cA adK adV A p s m args meth c)  (hK79 : ∀ (o0 : Int) (v4 : Int) (σ : St) (H : Heap) (locs : List Loc) (ls : Array Slot) (ho0 : kX o0 = (3, 0)), At D cA ad kX 151 R A s σ H locs → lv_has ls 6 [(0, .ref (ad o0)), (4, .int (zI v4))] → K79 o0 v4 σ = some res → W p l e (rmU 2 50) s m args below meth c H locs 0 0 (MQ below (QV D cA ad kX 151 R A res) args s 0 0 A) (F0 m 79 ls [])) {σ : St} {H : Heap} {locs : List Loc} {ls : Array Slot} (ho0 : kX o0 = (3, 0)) (hw : At D cA ad kX 151 R A s σ H locs) (hl : lv_has ls 6 [(0, .ref (ad o0)), (4, .int (zI v4))]) (h : p_X3_openYear_79b K79 o0 v4 σ = some res) : W p l e (rmU 2 50) s m args below meth c H locs 0 0 (MQ below (QV D cA ad kX 151 R A res) args s 0 0 A) (F0 m 79 ls []) := by
  have h := h
  unfold p_X3_openYear_79b at h
  refine y_iload C dX3_openYear_79 (lv_at hl 1 rfl) ?_
  refine y_if_lt (tgt := 113) C (a' := zm v4) rfl dX3_openYear_81 (by decide) (fun hc => ?_) (fun hc => ?_)
  · rw [if_pos hc] at h
    exact y_vret C hw h dX3_openYear_113
  · rw [if_neg hc] at h
    refine y_iconst C dX3_openYear_84 ?_
    refine y_istore (lv' := [(5, .int (zI 0)), (0, .ref (ad o0)), (4, .int (zI v4))]) C dX3_openYear_85 hl (by decide) rfl (fun ls hl => ?_)
    exact k_X3_openYear_87 C hK79 FU _ _ _ _ _ _ _ ho0 hw (lv_sub hl [1, 2, 0] rfl) h
set_option maxRecDepth 100000 in
theorem k_X3_openYear_79  (C : Cx cX3_openYear RX3 6 none D cA adK adV A p s m args meth c)  : ∀ (n : Nat) (o0 : Int) (v4 : Int) (σ : St) (H : Heap) (locs : List Loc) (ls : Array Slot) (ho0 : kX o0 = (3, 0)), At D cA ad kX 151 R A s σ H locs → lv_has ls 6 [(0, .ref (ad o0)), (4, .int (zI v4))] → p_X3_openYear_79  n o0 v4 σ = some res → W p l e (rmU 2 50) s m args below meth c H locs 0 0 (MQ below (QV D cA ad kX 151 R A res) args s 0 0 A) (F0 m 79 ls []) := by
  intro n
  induction n with
  | zero =>
    intro o0 v4 σ H locs ls ho0 hw hl h
    have h : none = some res := h
    cases h
  | succ n ih =>
    intro o0 v4 σ H locs ls ho0 hw hl h
    exact k_X3_openYear_79b C  ih ho0 hw hl h
set_option maxRecDepth 100000 in
set_option maxHeartbeats 4000000 in
theorem k_X3_openYear_31b {K31 : Int → Int → Int → Int → St → Option (Int × St)} {o0 : Int} {v1 : Int} {v2 : Int} {v4 : Int} (C : Cx cX3_openYear RX3 6 none D cA adK adV A p s m args meth c)  (hK31 : ∀ (o0 : Int) (v1 : Int) (v2 : Int) (v4 : Int) (σ : St) (H : Heap) (locs : List Loc) (ls : Array Slot) (ho0 : kX o0 = (3, 0)), At D cA ad kX 151 R A s σ H locs → lv_has ls 6 [(0, .ref (ad o0)), (1, .int (zI v1)), (2, .int (zI v2)), (4, .int (zI v4))] → K31 o0 v1 v2 v4 σ = some res → W p l e (rmU 2 50) s m args below meth c H locs 0 0 (MQ below (QV D cA ad kX 151 R A res) args s 0 0 A) (F0 m 31 ls [])) {σ : St} {H : Heap} {locs : List Loc} {ls : Array Slot} (ho0 : kX o0 = (3, 0)) (hw : At D cA ad kX 151 R A s σ H locs) (hl : lv_has ls 6 [(0, .ref (ad o0)), (1, .int (zI v1)), (2, .int (zI v2)), (4, .int (zI v4))]) (h : p_X3_openYear_31b K31 o0 v1 v2 v4 σ = some res) : W p l e (rmU 2 50) s m args below meth c H locs 0 0 (MQ below (QV D cA ad kX 151 R A res) args s 0 0 A) (F0 m 31 ls []) := by
  have h := h
  unfold p_X3_openYear_31b at h
  refine y_iload C dX3_openYear_31 (lv_at hl 3 rfl) ?_
  refine y_iconst C dX3_openYear_33 ?_
  refine y_icmp_ge (tgt := 75) C (a' := zm v4) (b' := 4) rfl (by decide) dX3_openYear_34 (by decide) (fun hc => ?_) (fun hc => ?_)
  · rw [if_pos hc] at h
    refine y_bipush C dX3_openYear_75 (by decide) ?_
    refine y_istore (lv' := [(4, .int (zI 11)), (0, .ref (ad o0)), (1, .int (zI v1)), (2, .int (zI v2))]) C dX3_openYear_77 hl (by decide) rfl (fun ls hl => ?_)
    exact k_X3_openYear_79 C  FU _ _ _ _ _ _ ho0 hw (lv_sub hl [1, 0] rfl) h
  · rw [if_neg hc] at h
    refine y_aload_n C dX3_openYear_37 (lv_at hl 0 rfl) ?_
    refine g3 C hw ho0 6 (by decide) wd_236 rfl dX3_openYear_38 ?_
    refine y_bipush C dX3_openYear_41 (by decide) ?_
    refine y_iload C dX3_openYear_43 (lv_at hl 3 rfl) ?_
    refine y_iadd C dX3_openYear_45 ?_
    refine y_aload_n C dX3_openYear_46 (lv_at hl 0 rfl) ?_
    refine g3 C hw ho0 3 (by decide) wd_233 rfl dX3_openYear_47 ?_
    refine y_iload_n C dX3_openYear_50 (lv_at hl 1 rfl) ?_
    refine y_iconst C dX3_openYear_51 ?_
    refine y_isub C dX3_openYear_52 ?_
    refine y_bipush C dX3_openYear_53 (by decide) ?_
    refine y_imul C dX3_openYear_55 ?_
    refine y_aload_n C dX3_openYear_56 (lv_at hl 0 rfl) ?_
    obtain ⟨hg57, h⟩ := gd_some h
    refine g3 C hw ho0 1 (by decide) wd_229 rfl dX3_openYear_57 ?_
    rw [rv_ref (kX_in _ (by rw [hg57]; decide)).1]
    refine y_iload_n C dX3_openYear_60 (lv_at hl 2 rfl) ?_
    refine y_iload C dX3_openYear_61 (lv_at hl 3 rfl) ?_
    obtain ⟨x63, hc63, h⟩ := bd_some h
    refine y_ci (rest := [.int (zI ((v1 - 1) * 10)), .ref (ad (o0 + 1)), .int (zI (48 + v4)), .ref (ad (o0 + 3))]) hw (y_rV C hw hg57 (by decide) rfl rfl (c_X0_rungAfter hg57 hc63) mi_X0_rungAfter wd_616 wd_563 wd_564 rfl ⟨by decide, by decide⟩ hl rfl (Nat.le_of_ble_eq_true rfl) dX3_openYear_63) (fun H locs hw => ?_)
    refine y_iadd C dX3_openYear_66 ?_
    obtain ⟨hg67, h⟩ := gd_some h
    refine y_iald C hw (ka3_costs ho0) (i' := zm (((v1 - 1) * 10) + x63.1)) rfl hg67 dX3_openYear_67 ?_
    obtain ⟨hg68, h⟩ := gd_some h
    obtain ⟨σ68, eσ68, h⟩ := nx_some h
    refine y_iast C hw (ka3_table ho0) (i' := zm (48 + v4)) rfl hg68 dX3_openYear_68 (fun H locs hw => ?_)
    rw [← eσ68] at hw
    refine y_iinc (lv' := [(4, .int (zI (v4 + 1))), (0, .ref (ad o0)), (1, .int (zI v1)), (2, .int (zI v2))]) C dX3_openYear_69 hl (k := 3) rfl (by decide) rfl (fun ls hl => ?_)
    refine y_goto (tgt := 31) C dX3_openYear_72 (by decide) ?_
    exact hK31 _ _ _ _ _ _ _ _ ho0 hw (lv_sub hl [1, 2, 3, 0] rfl) h
set_option maxRecDepth 100000 in
theorem k_X3_openYear_31  (C : Cx cX3_openYear RX3 6 none D cA adK adV A p s m args meth c)  : ∀ (n : Nat) (o0 : Int) (v1 : Int) (v2 : Int) (v4 : Int) (σ : St) (H : Heap) (locs : List Loc) (ls : Array Slot) (ho0 : kX o0 = (3, 0)), At D cA ad kX 151 R A s σ H locs → lv_has ls 6 [(0, .ref (ad o0)), (1, .int (zI v1)), (2, .int (zI v2)), (4, .int (zI v4))] → p_X3_openYear_31  n o0 v1 v2 v4 σ = some res → W p l e (rmU 2 50) s m args below meth c H locs 0 0 (MQ below (QV D cA ad kX 151 R A res) args s 0 0 A) (F0 m 31 ls []) := by
  intro n
  induction n with
  | zero =>
    intro o0 v1 v2 v4 σ H locs ls ho0 hw hl h
    have h : none = some res := h
    cases h
  | succ n ih =>
    intro o0 v1 v2 v4 σ H locs ls ho0 hw hl h
    exact k_X3_openYear_31b C  ih ho0 hw hl h
set_option maxRecDepth 100000 in
set_option maxHeartbeats 4000000 in
theorem k_X3_openYear_25  {o0 : Int} {v1 : Int} {v2 : Int} {os0 : Int} {vs1 : Int} (C : Cx cX3_openYear RX3 6 none D cA adK adV A p s m args meth c)  {σ : St} {H : Heap} {locs : List Loc} {ls : Array Slot} (ho0 : kX o0 = (3, 0)) (hos0 : kX os0 = (3, 0)) (hw : At D cA ad kX 151 R A s σ H locs) (hl : lv_has ls 6 [(0, .ref (ad o0)), (1, .int (zI v1)), (2, .int (zI v2))]) (h : p_X3_openYear_25  o0 v1 v2 os0 vs1 σ = some res) : W p l e (rmU 2 50) s m args below meth c H locs 0 0 (MQ below (QV D cA ad kX 151 R A res) args s 0 0 A) (F0 m 25 ls [.int (zI vs1), .ref (ad os0)]) := by
  have h := h
  unfold p_X3_openYear_25 at h
  obtain ⟨x25, hc25, h⟩ := bd_some h
  refine y_cv (rest := []) hw (y_rV C hw hos0 (by decide) rfl rfl (c_X3_sumScrapes hos0 hc25) mi_X3_sumScrapes wd_604 wd_606 ws_15 rfl ⟨by decide, by decide⟩ hl rfl (Nat.le_of_ble_eq_true rfl) dX3_openYear_25) (fun H locs hw => ?_)
  refine y_iconst C dX3_openYear_28 ?_
  refine y_istore (lv' := [(4, .int (zI 0)), (0, .ref (ad o0)), (1, .int (zI v1)), (2, .int (zI v2))]) C dX3_openYear_29 hl (by decide) rfl (fun ls hl => ?_)
  exact k_X3_openYear_31 C  FU _ _ _ _ _ _ _ _ ho0 hw (lv_sub hl [1, 2, 3, 0] rfl) h
set_option maxRecDepth 100000 in
set_option maxHeartbeats 4000000 in
theorem k_X3_openYear_24  {o0 : Int} {v1 : Int} {v2 : Int} {os0 : Int} (C : Cx cX3_openYear RX3 6 none D cA adK adV A p s m args meth c)  {σ : St} {H : Heap} {locs : List Loc} {ls : Array Slot} (ho0 : kX o0 = (3, 0)) (hos0 : kX os0 = (3, 0)) (hw : At D cA ad kX 151 R A s σ H locs) (hl : lv_has ls 6 [(0, .ref (ad o0)), (1, .int (zI v1)), (2, .int (zI v2))]) (h : p_X3_openYear_24  o0 v1 v2 os0 σ = some res) : W p l e (rmU 2 50) s m args below meth c H locs 0 0 (MQ below (QV D cA ad kX 151 R A res) args s 0 0 A) (F0 m 24 ls [.ref (ad os0)]) := by
  have h := h
  unfold p_X3_openYear_24 at h
  refine y_iconst C dX3_openYear_24 ?_
  exact k_X3_openYear_25 C  ho0 hos0 hw hl h
set_option maxRecDepth 100000 in
set_option maxHeartbeats 4000000 in
theorem k_X3_openYear_0  {o0 : Int} {v1 : Int} {v2 : Int} {v3 : Int} (C : Cx cX3_openYear RX3 6 none D cA adK adV A p s m args meth c)  {σ : St} {H : Heap} {locs : List Loc} {ls : Array Slot} (ho0 : kX o0 = (3, 0)) (hw : At D cA ad kX 151 R A s σ H locs) (hl : lv_has ls 6 [(0, .ref (ad o0)), (1, .int (zI v1)), (2, .int (zI v2)), (3, .int (zI v3))]) (h : p_X3_openYear  o0 v1 v2 v3 σ = some res) : W p l e (rmU 2 50) s m args below meth c H locs 0 0 (MQ below (QV D cA ad kX 151 R A res) args s 0 0 A) (F0 m 0 ls []) := by
  have h := h
  unfold p_X3_openYear at h
  refine y_aload_n C dX3_openYear_0 (lv_at hl 0 rfl) ?_
  refine y_iload_n C dX3_openYear_1 (lv_at hl 2 rfl) ?_
  obtain ⟨σ2, eσ2, h⟩ := nx_some h
  refine q3 C hw ho0 12 (by decide) wd_242 rfl rfl rfl (by decide) v2 12 rfl rfl dX3_openYear_2 (fun H locs hw => ?_)
  rw [← eσ2] at hw
  refine y_aload_n C dX3_openYear_5 (lv_at hl 0 rfl) ?_
  refine y_iload_n C dX3_openYear_6 (lv_at hl 3 rfl) ?_
  refine y_if_eq (tgt := 24) C (a' := zm v3) rfl dX3_openYear_7 (by decide) (fun hc => ?_) (fun hc => ?_)
  · rw [if_pos hc] at h
    exact k_X3_openYear_24 C  ho0 ho0 hw (lv_sub hl [0, 1, 2] rfl) h
  · rw [if_neg hc] at h
    refine y_aload_n C dX3_openYear_10 (lv_at hl 0 rfl) ?_
    obtain ⟨hg11, h⟩ := gd_some h
    refine g3 C hw ho0 0 (by decide) wd_228 rfl dX3_openYear_11 ?_
    rw [rv_ref (kX_in _ (by rw [hg11]; decide)).1]
    refine g6 C hw hg11 5 (by decide) wd_199 rfl dX3_openYear_14 ?_
    refine y_if_eq (tgt := 24) C (a' := zm (σ2 (σ2 o0 0) 5)) rfl dX3_openYear_17 (by decide) (fun hc => ?_) (fun hc => ?_)
    · rw [if_pos hc] at h
      exact k_X3_openYear_24 C  ho0 ho0 hw (lv_sub hl [0, 1, 2] rfl) h
    · rw [if_neg hc] at h
      refine y_iconst C dX3_openYear_20 ?_
      refine y_goto (tgt := 25) C dX3_openYear_21 (by decide) ?_
      exact k_X3_openYear_25 C  ho0 ho0 hw (lv_sub hl [0, 1, 2] rfl) h
theorem c_X3_openYear {l : Launch} {D : va_G} {cA : Nat → ClassId} {adK adV : Nat → Nat} {A : Nat → Prop} {ad : Int → Nat} {R : va_W} {σ : St} {res : Int × St} {o0 : Int} {v1 : Int} {v2 : Int} {v3 : Int} (ho0 : kX o0 = (3, 0)) (h : p_X3_openYear o0 v1 v2 v3 σ = some res) : Met l yX3_openYear (wsU yX3_openYear cX3_openYear 6 none) (rmU 2 50) (va_Pc [.ref (ad o0), .int (zI v1), .int (zI v2), .int (zI v3)] (Pr D cA adK adV ad kX 151 R A σ)) (QV D cA ad kX 151 R A res) 0 0 A :=
  y_met (own := RX3) (by decide) rfl _ (Nat.le_of_ble_eq_true rfl) (fun p e s m args below meth c ls C hl hw => k_X3_openYear_0 C ho0 hw hl h)
/-! RungHouse$Plan.houseBears -/
set_option maxRecDepth 100000 in
set_option maxHeartbeats 4000000 in
theorem k_X3_houseBears_0  {o0 : Int} {v1 : Int} {v2 : Int} (C : Cx cX3_houseBears RX3 3 (some .int) D cA adK adV A p s m args meth c)  {σ : St} {H : Heap} {locs : List Loc} {ls : Array Slot} (ho0 : kX o0 = (3, 0)) (hw : At D cA ad kX 151 R A s σ H locs) (hl : lv_has ls 3 [(0, .ref (ad o0)), (1, .int (zI v1)), (2, .int (zI v2))]) (h : p_X3_houseBears  o0 v1 v2 σ = some res) : W p l e (rmU 0 0) s m args below meth c H locs 0 0 (MQ below (QI D cA ad kX 151 R A res) args s 0 0 A) (F0 m 0 ls []) := by
  have h := h
  unfold p_X3_houseBears at h
  refine y_aload_n C dX3_houseBears_0 (lv_at hl 0 rfl) ?_
  refine g3 C hw ho0 10 (by decide) wd_240 rfl dX3_houseBears_1 ?_
  refine y_aload_n C dX3_houseBears_4 (lv_at hl 0 rfl) ?_
  refine g3 C hw ho0 7 (by decide) wd_237 rfl dX3_houseBears_5 ?_
  refine y_iload_n C dX3_houseBears_8 (lv_at hl 1 rfl) ?_
  refine y_iconst C dX3_houseBears_9 ?_
  refine y_imul C dX3_houseBears_10 ?_
  refine y_iload_n C dX3_houseBears_11 (lv_at hl 2 rfl) ?_
  refine y_iadd C dX3_houseBears_12 ?_
  obtain ⟨hg13, h⟩ := gd_some h
  refine y_iald C hw (ka3_firstAsked ho0) (i' := zm ((v1 * 4) + v2)) rfl hg13 dX3_houseBears_13 ?_
  obtain ⟨hg14, h⟩ := gd_some h
  refine y_iald C hw (ka3_houseBearsFrom ho0) (i' := zm (σ (o0 + 4) (zm ((v1 * 4) + v2)))) rfl hg14 dX3_houseBears_14 ?_
  exact y_iret C hw h dX3_houseBears_15
theorem c_X3_houseBears {l : Launch} {D : va_G} {cA : Nat → ClassId} {adK adV : Nat → Nat} {A : Nat → Prop} {ad : Int → Nat} {R : va_W} {σ : St} {res : Int × St} {o0 : Int} {v1 : Int} {v2 : Int} (ho0 : kX o0 = (3, 0)) (h : p_X3_houseBears o0 v1 v2 σ = some res) : Met l yX3_houseBears (wsU yX3_houseBears cX3_houseBears 3 (some .int)) (rmU 0 0) (va_Pc [.ref (ad o0), .int (zI v1), .int (zI v2)] (Pr D cA adK adV ad kX 151 R A σ)) (QI D cA ad kX 151 R A res) 0 0 A :=
  y_met (own := RX3) (by decide) rfl _ (Nat.le_of_ble_eq_true rfl) (fun p e s m args below meth c ls C hl hw => k_X3_houseBears_0 C ho0 hw hl h)
/-! RungHouse$Plan.chanceAsked -/
set_option maxRecDepth 100000 in
set_option maxHeartbeats 4000000 in
theorem k_X3_chanceAsked_0  {o0 : Int} {v1 : Int} {v2 : Int} (C : Cx cX3_chanceAsked RX3 3 (some .int) D cA adK adV A p s m args meth c)  {σ : St} {H : Heap} {locs : List Loc} {ls : Array Slot} (ho0 : kX o0 = (3, 0)) (hw : At D cA ad kX 151 R A s σ H locs) (hl : lv_has ls 3 [(0, .ref (ad o0)), (1, .int (zI v1)), (2, .int (zI v2))]) (h : p_X3_chanceAsked  o0 v1 v2 σ = some res) : W p l e (rmU 0 0) s m args below meth c H locs 0 0 (MQ below (QI D cA ad kX 151 R A res) args s 0 0 A) (F0 m 0 ls []) := by
  have h := h
  unfold p_X3_chanceAsked at h
  refine y_aload_n C dX3_chanceAsked_0 (lv_at hl 0 rfl) ?_
  refine g3 C hw ho0 9 (by decide) wd_239 rfl dX3_chanceAsked_1 ?_
  refine y_aload_n C dX3_chanceAsked_4 (lv_at hl 0 rfl) ?_
  refine g3 C hw ho0 7 (by decide) wd_237 rfl dX3_chanceAsked_5 ?_
  refine y_iload_n C dX3_chanceAsked_8 (lv_at hl 1 rfl) ?_
  refine y_iconst C dX3_chanceAsked_9 ?_
  refine y_imul C dX3_chanceAsked_10 ?_
  refine y_iload_n C dX3_chanceAsked_11 (lv_at hl 2 rfl) ?_
  refine y_iadd C dX3_chanceAsked_12 ?_
  obtain ⟨hg13, h⟩ := gd_some h
  refine y_iald C hw (ka3_firstAsked ho0) (i' := zm ((v1 * 4) + v2)) rfl hg13 dX3_chanceAsked_13 ?_
  obtain ⟨hg14, h⟩ := gd_some h
  refine y_iald C hw (ka3_chanceFrom ho0) (i' := zm (σ (o0 + 4) (zm ((v1 * 4) + v2)))) rfl hg14 dX3_chanceAsked_14 ?_
  exact y_iret C hw h dX3_chanceAsked_15
theorem c_X3_chanceAsked {l : Launch} {D : va_G} {cA : Nat → ClassId} {adK adV : Nat → Nat} {A : Nat → Prop} {ad : Int → Nat} {R : va_W} {σ : St} {res : Int × St} {o0 : Int} {v1 : Int} {v2 : Int} (ho0 : kX o0 = (3, 0)) (h : p_X3_chanceAsked o0 v1 v2 σ = some res) : Met l yX3_chanceAsked (wsU yX3_chanceAsked cX3_chanceAsked 3 (some .int)) (rmU 0 0) (va_Pc [.ref (ad o0), .int (zI v1), .int (zI v2)] (Pr D cA adK adV ad kX 151 R A σ)) (QI D cA ad kX 151 R A res) 0 0 A :=
  y_met (own := RX3) (by decide) rfl _ (Nat.le_of_ble_eq_true rfl) (fun p e s m args below meth c ls C hl hw => k_X3_chanceAsked_0 C ho0 hw hl h)
/-! RungHouse.oneMore -/
set_option maxRecDepth 100000 in
set_option maxHeartbeats 4000000 in
theorem k_X7_oneMore_0  {v0 : Int} (C : Cx cX7_oneMore RX7 1 (some .int) D cA adK adV A p s m args meth c)  {σ : St} {H : Heap} {locs : List Loc} {ls : Array Slot}  (hw : At D cA ad kX 151 R A s σ H locs) (hl : lv_has ls 1 [(0, .int (zI v0))]) (h : p_X7_oneMore  v0 σ = some res) : W p l e (rmU 0 0) s m args below meth c H locs 0 0 (MQ below (QI D cA ad kX 151 R A res) args s 0 0 A) (F0 m 0 ls []) := by
  have h := h
  unfold p_X7_oneMore at h
  refine y_iload_n C dX7_oneMore_0 (lv_at hl 0 rfl) ?_
  refine y_iconst C dX7_oneMore_1 ?_
  refine y_icmp_ge (tgt := 11) C (a' := zm v0) (b' := 3) rfl (by decide) dX7_oneMore_2 (by decide) (fun hc => ?_) (fun hc => ?_)
  · rw [if_pos hc] at h
    refine y_iconst C dX7_oneMore_11 ?_
    exact y_iret C hw h dX7_oneMore_12
  · rw [if_neg hc] at h
    refine y_iload_n C dX7_oneMore_5 (lv_at hl 0 rfl) ?_
    refine y_iconst C dX7_oneMore_6 ?_
    refine y_iadd C dX7_oneMore_7 ?_
    refine y_goto (tgt := 12) C dX7_oneMore_8 (by decide) ?_
    exact y_iret C hw h dX7_oneMore_12
theorem c_X7_oneMore {l : Launch} {D : va_G} {cA : Nat → ClassId} {adK adV : Nat → Nat} {A : Nat → Prop} {ad : Int → Nat} {R : va_W} {σ : St} {res : Int × St} {v0 : Int}  (h : p_X7_oneMore v0 σ = some res) : Met l yX7_oneMore (wsU yX7_oneMore cX7_oneMore 1 (some .int)) (rmU 0 0) (va_Pc [.int (zI v0)] (Pr D cA adK adV ad kX 151 R A σ)) (QI D cA ad kX 151 R A res) 0 0 A :=
  y_met (own := RX7) (by decide) rfl _ (Nat.le_of_ble_eq_true rfl) (fun p e s m args below meth c ls C hl hw => k_X7_oneMore_0 C  hw hl h)
/-! RungHouse$LongRun.passMonth -/
set_option maxRecDepth 100000 in
set_option maxHeartbeats 4000000 in
theorem k_X1_passMonth_5b {K5 : Int → Int → Int → Int → Int → St → Option (Int × St)} {o0 : Int} {o1 : Int} {v2 : Int} {v3 : Int} {v4 : Int} (C : Cx cX1_passMonth RX1 6 (some .int) D cA adK adV A p s m args meth c)  (hK5 : ∀ (o0 : Int) (o1 : Int) (v2 : Int) (v3 : Int) (v4 : Int) (σ : St) (H : Heap) (locs : List Loc) (ls : Array Slot) (ho0 : kX o0 = (1, 0)) (ho1 : kX o1 = (3, 0)), At D cA ad kX 151 R A s σ H locs → lv_has ls 6 [(0, .ref (ad o0)), (1, .ref (ad o1)), (2, .int (zI v2)), (3, .int (zI v3)), (4, .int (zI v4))] → K5 o0 o1 v2 v3 v4 σ = some res → W p l e (rmU 1 22) s m args below meth c H locs 0 0 (MQ below (QI D cA ad kX 151 R A res) args s 0 0 A) (F0 m 5 ls [])) {σ : St} {H : Heap} {locs : List Loc} {ls : Array Slot} (ho0 : kX o0 = (1, 0)) (ho1 : kX o1 = (3, 0)) (hw : At D cA ad kX 151 R A s σ H locs) (hl : lv_has ls 6 [(0, .ref (ad o0)), (1, .ref (ad o1)), (2, .int (zI v2)), (3, .int (zI v3)), (4, .int (zI v4))]) (h : p_X1_passMonth_5b K5 o0 o1 v2 v3 v4 σ = some res) : W p l e (rmU 1 22) s m args below meth c H locs 0 0 (MQ below (QI D cA ad kX 151 R A res) args s 0 0 A) (F0 m 5 ls []) := by
  have h := h
  unfold p_X1_passMonth_5b at h
  refine y_iload C dX1_passMonth_5 (lv_at hl 4 rfl) ?_
  refine y_if_lt (tgt := 92) C (a' := zm v4) rfl dX1_passMonth_7 (by decide) (fun hc => ?_) (fun hc => ?_)
  · rw [if_pos hc] at h
    refine y_iload_n C dX1_passMonth_92 (lv_at hl 3 rfl) ?_
    exact y_iret C hw h dX1_passMonth_93
  · rw [if_neg hc] at h
    refine y_iload_n C dX1_passMonth_10 (lv_at hl 3 rfl) ?_
    refine y_aload_n C dX1_passMonth_11 (lv_at hl 0 rfl) ?_
    refine g1 C hw ho0 4 (by decide) wd_124 rfl dX1_passMonth_12 ?_
    refine y_iload C dX1_passMonth_15 (lv_at hl 4 rfl) ?_
    obtain ⟨hg17, h⟩ := gd_some h
    refine y_iald C hw (ka1_askers ho0) (i' := zm v4) rfl hg17 dX1_passMonth_17 ?_
    refine y_i2l C rfl dX1_passMonth_18 ?_
    refine y_aload_n C dX1_passMonth_19 (lv_at hl 1 rfl) ?_
    refine y_iload_n C dX1_passMonth_20 (lv_at hl 2 rfl) ?_
    refine y_iload C dX1_passMonth_21 (lv_at hl 4 rfl) ?_
    obtain ⟨x23, hc23, h⟩ := bd_some h
    refine y_ci (rest := [.long (zJ (zm (σ (o0 + 5) (zm v4)))), .int (zI v3)]) hw (y_rV C hw ho1 (by decide) rfl rfl (c_X3_houseBears ho1 hc23) mi_X3_houseBears wd_725 wd_726 wd_727 rfl ⟨by decide, by decide⟩ hl rfl (Nat.le_of_ble_eq_true rfl) dX1_passMonth_23) (fun H locs hw => ?_)
    refine y_i2l C rfl dX1_passMonth_26 ?_
    refine y_lmul C dX1_passMonth_27 ?_
    refine y_ldc2 C (z := 1000000) wd_729 (by decide) dX1_passMonth_28 ?_
    refine y_ldiv C (b' := 1000000) (by decide) (by decide) dX1_passMonth_31 ?_
    refine y_l2i C dX1_passMonth_32 ?_
    refine y_iadd C dX1_passMonth_33 ?_
    obtain ⟨z34, ez34, h⟩ := nz_some h
    rw [← ez34]
    refine y_istore_n (lv' := [(3, .int (zI z34)), (0, .ref (ad o0)), (1, .ref (ad o1)), (2, .int (zI v2)), (4, .int (zI v4))]) C dX1_passMonth_34 hl (by decide) rfl (fun ls hl => ?_)
    refine y_aload_n C dX1_passMonth_35 (lv_at hl 1 rfl) ?_
    refine g1 C hw ho0 4 (by decide) wd_124 rfl dX1_passMonth_36 ?_
    refine y_iload C dX1_passMonth_39 (lv_at hl 4 rfl) ?_
    refine y_iald C hw (ka1_askers ho0) (i' := zm v4) rfl hg17 dX1_passMonth_41 ?_
    refine y_i2l C rfl dX1_passMonth_42 ?_
    refine y_aload_n C dX1_passMonth_43 (lv_at hl 2 rfl) ?_
    refine y_iload_n C dX1_passMonth_44 (lv_at hl 3 rfl) ?_
    refine y_iload C dX1_passMonth_45 (lv_at hl 4 rfl) ?_
    obtain ⟨x47, hc47, h⟩ := bd_some h
    refine y_ci (rest := [.long (zJ (zm (x23.2 (o0 + 5) (zm v4))))]) hw (y_rV C hw ho1 (by decide) rfl rfl (c_X3_chanceAsked ho1 hc47) mi_X3_chanceAsked wd_730 wd_731 wd_732 rfl ⟨by decide, by decide⟩ hl rfl (Nat.le_of_ble_eq_true rfl) dX1_passMonth_47) (fun H locs hw => ?_)
    refine y_i2l C rfl dX1_passMonth_50 ?_
    refine y_lmul C dX1_passMonth_51 ?_
    refine y_ldc2 C (z := 1000) wd_734 (by decide) dX1_passMonth_52 ?_
    refine y_ldiv C (b' := 1000) (by decide) (by decide) dX1_passMonth_55 ?_
    refine y_l2i C dX1_passMonth_56 ?_
    obtain ⟨z57, ez57, h⟩ := nz_some h
    rw [← ez57]
    refine y_istore (lv' := [(5, .int (zI z57)), (3, .int (zI z34)), (0, .ref (ad o0)), (1, .ref (ad o1)), (2, .int (zI v2)), (4, .int (zI v4))]) C dX1_passMonth_57 hl (by decide) rfl (fun ls hl => ?_)
    refine y_aload_n C dX1_passMonth_59 (lv_at hl 2 rfl) ?_
    refine g1 C hw ho0 4 (by decide) wd_124 rfl dX1_passMonth_60 ?_
    refine y_iload C dX1_passMonth_63 (lv_at hl 5 rfl) ?_
    refine y_dup2 C dX1_passMonth_65 rfl rfl ?_
    refine y_iald C hw (ka1_askers ho0) (i' := zm v4) rfl hg17 dX1_passMonth_66 ?_
    refine y_iload C dX1_passMonth_67 (lv_at hl 0 rfl) ?_
    refine y_isub C dX1_passMonth_69 ?_
    obtain ⟨σ70, eσ70, h⟩ := nx_some h
    refine y_iast C hw (ka1_askers ho0) (i' := zm v4) rfl hg17 dX1_passMonth_70 (fun H locs hw => ?_)
    rw [← eσ70] at hw
    refine y_aload_n C dX1_passMonth_71 (lv_at hl 2 rfl) ?_
    refine g1 C hw ho0 4 (by decide) wd_124 rfl dX1_passMonth_72 ?_
    refine y_iload C dX1_passMonth_75 (lv_at hl 5 rfl) ?_
    obtain ⟨x77, hc77, h⟩ := bd_some h
    refine y_ci (rest := [.ref (ad (o0 + 5))]) hw (y_rN C hw (c_X7_oneMore  hc77) mi_X7_oneMore (List.mem_of_getElem? (i := 7) rfl) wd_696 rfl ⟨by decide, by decide⟩ hl rfl (Nat.le_of_ble_eq_true rfl) dX1_passMonth_77) (fun H locs hw => ?_)
    refine y_dup2 C dX1_passMonth_80 rfl rfl ?_
    obtain ⟨hg81, h⟩ := gd_some h
    refine y_iald C hw (ka1_askers ho0) (i' := zm x77.1) rfl hg81 dX1_passMonth_81 ?_
    refine y_iload C dX1_passMonth_82 (lv_at hl 0 rfl) ?_
    refine y_iadd C dX1_passMonth_84 ?_
    obtain ⟨σ85, eσ85, h⟩ := nx_some h
    refine y_iast C hw (ka1_askers ho0) (i' := zm x77.1) rfl hg81 dX1_passMonth_85 (fun H locs hw => ?_)
    rw [← eσ85] at hw
    refine y_iinc (lv' := [(4, .int (zI (v4 + (-1)))), (5, .int (zI z57)), (3, .int (zI z34)), (0, .ref (ad o0)), (1, .ref (ad o1)), (2, .int (zI v2))]) C dX1_passMonth_86 hl (k := 5) rfl (by decide) rfl (fun ls hl => ?_)
    refine y_goto (tgt := 5) C dX1_passMonth_89 (by decide) ?_
    exact hK5 _ _ _ _ _ _ _ _ _ ho0 ho1 hw (lv_sub hl [3, 4, 5, 2, 0] rfl) h
set_option maxRecDepth 100000 in
theorem k_X1_passMonth_5  (C : Cx cX1_passMonth RX1 6 (some .int) D cA adK adV A p s m args meth c)  : ∀ (n : Nat) (o0 : Int) (o1 : Int) (v2 : Int) (v3 : Int) (v4 : Int) (σ : St) (H : Heap) (locs : List Loc) (ls : Array Slot) (ho0 : kX o0 = (1, 0)) (ho1 : kX o1 = (3, 0)), At D cA ad kX 151 R A s σ H locs → lv_has ls 6 [(0, .ref (ad o0)), (1, .ref (ad o1)), (2, .int (zI v2)), (3, .int (zI v3)), (4, .int (zI v4))] → p_X1_passMonth_5  n o0 o1 v2 v3 v4 σ = some res → W p l e (rmU 1 22) s m args below meth c H locs 0 0 (MQ below (QI D cA ad kX 151 R A res) args s 0 0 A) (F0 m 5 ls []) := by
  intro n
  induction n with
  | zero =>
    intro o0 o1 v2 v3 v4 σ H locs ls ho0 ho1 hw hl h
    have h : none = some res := h
    cases h
  | succ n ih =>
    intro o0 o1 v2 v3 v4 σ H locs ls ho0 ho1 hw hl h
    exact k_X1_passMonth_5b C  ih ho0 ho1 hw hl h
set_option maxRecDepth 100000 in
set_option maxHeartbeats 4000000 in
theorem k_X1_passMonth_0  {o0 : Int} {o1 : Int} {v2 : Int} (C : Cx cX1_passMonth RX1 6 (some .int) D cA adK adV A p s m args meth c)  {σ : St} {H : Heap} {locs : List Loc} {ls : Array Slot} (ho0 : kX o0 = (1, 0)) (ho1 : kX o1 = (3, 0)) (hw : At D cA ad kX 151 R A s σ H locs) (hl : lv_has ls 6 [(0, .ref (ad o0)), (1, .ref (ad o1)), (2, .int (zI v2))]) (h : p_X1_passMonth  o0 o1 v2 σ = some res) : W p l e (rmU 1 22) s m args below meth c H locs 0 0 (MQ below (QI D cA ad kX 151 R A res) args s 0 0 A) (F0 m 0 ls []) := by
  have h := h
  unfold p_X1_passMonth at h
  refine y_iconst C dX1_passMonth_0 ?_
  refine y_istore_n (lv' := [(3, .int (zI 0)), (0, .ref (ad o0)), (1, .ref (ad o1)), (2, .int (zI v2))]) C dX1_passMonth_1 hl (by decide) rfl (fun ls hl => ?_)
  refine y_iconst C dX1_passMonth_2 ?_
  refine y_istore (lv' := [(4, .int (zI 3)), (3, .int (zI 0)), (0, .ref (ad o0)), (1, .ref (ad o1)), (2, .int (zI v2))]) C dX1_passMonth_3 hl (by decide) rfl (fun ls hl => ?_)
  exact k_X1_passMonth_5 C  FU _ _ _ _ _ _ _ _ _ ho0 ho1 hw (lv_sub hl [2, 3, 4, 1, 0] rfl) h
theorem c_X1_passMonth {l : Launch} {D : va_G} {cA : Nat → ClassId} {adK adV : Nat → Nat} {A : Nat → Prop} {ad : Int → Nat} {R : va_W} {σ : St} {res : Int × St} {o0 : Int} {o1 : Int} {v2 : Int} (ho0 : kX o0 = (1, 0)) (ho1 : kX o1 = (3, 0)) (h : p_X1_passMonth o0 o1 v2 σ = some res) : Met l yX1_passMonth (wsU yX1_passMonth cX1_passMonth 6 (some .int)) (rmU 1 22) (va_Pc [.ref (ad o0), .ref (ad o1), .int (zI v2)] (Pr D cA adK adV ad kX 151 R A σ)) (QI D cA ad kX 151 R A res) 0 0 A :=
  y_met (own := RX1) (by decide) rfl _ (Nat.le_of_ble_eq_true rfl) (fun p e s m args below meth c ls C hl hw => k_X1_passMonth_0 C ho0 ho1 hw hl h)
/-! RungHouse$LongRun.reckonRung -/
set_option maxRecDepth 100000 in
set_option maxHeartbeats 4000000 in
theorem k_X1_reckonRung_104b {K104 : Int → Int → Int → St → Option (Int × St)} {o0 : Int} {v3 : Int} {v4 : Int} (C : Cx cX1_reckonRung RX1 5 none D cA adK adV A p s m args meth c)  (hK104 : ∀ (o0 : Int) (v3 : Int) (v4 : Int) (σ : St) (H : Heap) (locs : List Loc) (ls : Array Slot) (ho0 : kX o0 = (1, 0)), At D cA ad kX 151 R A s σ H locs → lv_has ls 5 [(0, .ref (ad o0)), (3, .int (zI v3)), (4, .int (zI v4))] → K104 o0 v3 v4 σ = some res → W p l e (rmU 3 75) s m args below meth c H locs 0 0 (MQ below (QV D cA ad kX 151 R A res) args s 0 0 A) (F0 m 104 ls [])) {σ : St} {H : Heap} {locs : List Loc} {ls : Array Slot} (ho0 : kX o0 = (1, 0)) (hw : At D cA ad kX 151 R A s σ H locs) (hl : lv_has ls 5 [(0, .ref (ad o0)), (3, .int (zI v3)), (4, .int (zI v4))]) (h : p_X1_reckonRung_104b K104 o0 v3 v4 σ = some res) : W p l e (rmU 3 75) s m args below meth c H locs 0 0 (MQ below (QV D cA ad kX 151 R A res) args s 0 0 A) (F0 m 104 ls []) := by
  have h := h
  unfold p_X1_reckonRung_104b at h
  refine y_iload C dX1_reckonRung_104 (lv_at hl 2 rfl) ?_
  refine y_iconst C dX1_reckonRung_106 ?_
  refine y_icmp_ge (tgt := 134) C (a' := zm v4) (b' := 4) rfl (by decide) dX1_reckonRung_107 (by decide) (fun hc => ?_) (fun hc => ?_)
  · rw [if_pos hc] at h
    exact y_vret C hw h dX1_reckonRung_134
  · rw [if_neg hc] at h
    refine y_aload_n C dX1_reckonRung_110 (lv_at hl 0 rfl) ?_
    refine g1 C hw ho0 2 (by decide) wd_122 rfl dX1_reckonRung_111 ?_
    refine y_iload_n C dX1_reckonRung_114 (lv_at hl 1 rfl) ?_
    refine y_iconst C dX1_reckonRung_115 ?_
    refine y_imul C dX1_reckonRung_116 ?_
    refine y_iload C dX1_reckonRung_117 (lv_at hl 2 rfl) ?_
    refine y_iadd C dX1_reckonRung_119 ?_
    refine y_aload_n C dX1_reckonRung_120 (lv_at hl 0 rfl) ?_
    refine g1 C hw ho0 4 (by decide) wd_124 rfl dX1_reckonRung_121 ?_
    refine y_iload C dX1_reckonRung_124 (lv_at hl 2 rfl) ?_
    obtain ⟨hg126, h⟩ := gd_some h
    refine y_iald C hw (ka1_askers ho0) (i' := zm v4) rfl hg126 dX1_reckonRung_126 ?_
    obtain ⟨hg127, h⟩ := gd_some h
    obtain ⟨σ127, eσ127, h⟩ := nx_some h
    refine y_iast C hw (ka1_oddsByRung ho0) (i' := zm ((v3 * 4) + v4)) rfl hg127 dX1_reckonRung_127 (fun H locs hw => ?_)
    rw [← eσ127] at hw
    refine y_iinc (lv' := [(4, .int (zI (v4 + 1))), (0, .ref (ad o0)), (3, .int (zI v3))]) C dX1_reckonRung_128 hl (k := 2) rfl (by decide) rfl (fun ls hl => ?_)
    refine y_goto (tgt := 104) C dX1_reckonRung_131 (by decide) ?_
    exact hK104 _ _ _ _ _ _ _ ho0 hw (lv_sub hl [1, 2, 0] rfl) h
set_option maxRecDepth 100000 in
theorem k_X1_reckonRung_104  (C : Cx cX1_reckonRung RX1 5 none D cA adK adV A p s m args meth c)  : ∀ (n : Nat) (o0 : Int) (v3 : Int) (v4 : Int) (σ : St) (H : Heap) (locs : List Loc) (ls : Array Slot) (ho0 : kX o0 = (1, 0)), At D cA ad kX 151 R A s σ H locs → lv_has ls 5 [(0, .ref (ad o0)), (3, .int (zI v3)), (4, .int (zI v4))] → p_X1_reckonRung_104  n o0 v3 v4 σ = some res → W p l e (rmU 3 75) s m args below meth c H locs 0 0 (MQ below (QV D cA ad kX 151 R A res) args s 0 0 A) (F0 m 104 ls []) := by
  intro n
  induction n with
  | zero =>
    intro o0 v3 v4 σ H locs ls ho0 hw hl h
    have h : none = some res := h
    cases h
  | succ n ih =>
    intro o0 v3 v4 σ H locs ls ho0 hw hl h
    exact k_X1_reckonRung_104b C  ih ho0 hw hl h
set_option maxRecDepth 100000 in
set_option maxHeartbeats 4000000 in
theorem k_X1_reckonRung_72b {K72 : Int → Int → Int → Int → St → Option (Int × St)} {o0 : Int} {o1 : Int} {v3 : Int} {v4 : Int} (C : Cx cX1_reckonRung RX1 5 none D cA adK adV A p s m args meth c)  (hK72 : ∀ (o0 : Int) (o1 : Int) (v3 : Int) (v4 : Int) (σ : St) (H : Heap) (locs : List Loc) (ls : Array Slot) (ho0 : kX o0 = (1, 0)) (ho1 : kX o1 = (3, 0)), At D cA ad kX 151 R A s σ H locs → lv_has ls 5 [(0, .ref (ad o0)), (1, .ref (ad o1)), (3, .int (zI v3)), (4, .int (zI v4))] → K72 o0 o1 v3 v4 σ = some res → W p l e (rmU 3 75) s m args below meth c H locs 0 0 (MQ below (QV D cA ad kX 151 R A res) args s 0 0 A) (F0 m 72 ls [])) {σ : St} {H : Heap} {locs : List Loc} {ls : Array Slot} (ho0 : kX o0 = (1, 0)) (ho1 : kX o1 = (3, 0)) (hw : At D cA ad kX 151 R A s σ H locs) (hl : lv_has ls 5 [(0, .ref (ad o0)), (1, .ref (ad o1)), (3, .int (zI v3)), (4, .int (zI v4))]) (h : p_X1_reckonRung_72b K72 o0 o1 v3 v4 σ = some res) : W p l e (rmU 3 75) s m args below meth c H locs 0 0 (MQ below (QV D cA ad kX 151 R A res) args s 0 0 A) (F0 m 72 ls []) := by
  have h := h
  unfold p_X1_reckonRung_72b at h
  refine y_iload C dX1_reckonRung_72 (lv_at hl 3 rfl) ?_
  refine y_bipush C dX1_reckonRung_74 (by decide) ?_
  refine y_icmp_ge (tgt := 101) C (a' := zm v4) (b' := 12) rfl (by decide) dX1_reckonRung_76 (by decide) (fun hc => ?_) (fun hc => ?_)
  · rw [if_pos hc] at h
    refine y_iconst C dX1_reckonRung_101 ?_
    refine y_istore (lv' := [(4, .int (zI 0)), (0, .ref (ad o0)), (1, .ref (ad o1)), (3, .int (zI v3))]) C dX1_reckonRung_102 hl (by decide) rfl (fun ls hl => ?_)
    exact k_X1_reckonRung_104 C  FU _ _ _ _ _ _ _ ho0 hw (lv_sub hl [1, 3, 0] rfl) h
  · rw [if_neg hc] at h
    refine y_aload_n C dX1_reckonRung_79 (lv_at hl 0 rfl) ?_
    refine g1 C hw ho0 3 (by decide) wd_123 rfl dX1_reckonRung_80 ?_
    refine y_iload_n C dX1_reckonRung_83 (lv_at hl 2 rfl) ?_
    refine y_dup2 C dX1_reckonRung_84 rfl rfl ?_
    obtain ⟨hg85, h⟩ := gd_some h
    refine y_iald C hw (ka1_houseBearsByRung ho0) (i' := zm v3) rfl hg85 dX1_reckonRung_85 ?_
    refine y_aload_n C dX1_reckonRung_86 (lv_at hl 0 rfl) ?_
    refine y_aload_n C dX1_reckonRung_87 (lv_at hl 1 rfl) ?_
    refine y_iload C dX1_reckonRung_88 (lv_at hl 3 rfl) ?_
    obtain ⟨x90, hc90, h⟩ := bd_some h
    refine y_ci (rest := [.int (zI (σ (o0 + 4) (zm v3))), .int (zI v3), .ref (ad (o0 + 4))]) hw (y_rV C hw ho0 (by decide) rfl rfl (c_X1_passMonth ho0 ho1 hc90) mi_X1_passMonth wd_721 wd_723 ws_21 rfl ⟨by decide, by decide⟩ hl rfl (Nat.le_of_ble_eq_true rfl) dX1_reckonRung_90) (fun H locs hw => ?_)
    refine y_iadd C dX1_reckonRung_93 ?_
    obtain ⟨σ94, eσ94, h⟩ := nx_some h
    refine y_iast C hw (ka1_houseBearsByRung ho0) (i' := zm v3) rfl hg85 dX1_reckonRung_94 (fun H locs hw => ?_)
    rw [← eσ94] at hw
    refine y_iinc (lv' := [(4, .int (zI (v4 + 1))), (0, .ref (ad o0)), (1, .ref (ad o1)), (3, .int (zI v3))]) C dX1_reckonRung_95 hl (k := 3) rfl (by decide) rfl (fun ls hl => ?_)
    refine y_goto (tgt := 72) C dX1_reckonRung_98 (by decide) ?_
    exact hK72 _ _ _ _ _ _ _ _ ho0 ho1 hw (lv_sub hl [1, 2, 3, 0] rfl) h
set_option maxRecDepth 100000 in
theorem k_X1_reckonRung_72  (C : Cx cX1_reckonRung RX1 5 none D cA adK adV A p s m args meth c)  : ∀ (n : Nat) (o0 : Int) (o1 : Int) (v3 : Int) (v4 : Int) (σ : St) (H : Heap) (locs : List Loc) (ls : Array Slot) (ho0 : kX o0 = (1, 0)) (ho1 : kX o1 = (3, 0)), At D cA ad kX 151 R A s σ H locs → lv_has ls 5 [(0, .ref (ad o0)), (1, .ref (ad o1)), (3, .int (zI v3)), (4, .int (zI v4))] → p_X1_reckonRung_72  n o0 o1 v3 v4 σ = some res → W p l e (rmU 3 75) s m args below meth c H locs 0 0 (MQ below (QV D cA ad kX 151 R A res) args s 0 0 A) (F0 m 72 ls []) := by
  intro n
  induction n with
  | zero =>
    intro o0 o1 v3 v4 σ H locs ls ho0 ho1 hw hl h
    have h : none = some res := h
    cases h
  | succ n ih =>
    intro o0 o1 v3 v4 σ H locs ls ho0 ho1 hw hl h
    exact k_X1_reckonRung_72b C  ih ho0 ho1 hw hl h
set_option maxRecDepth 100000 in
set_option maxHeartbeats 4000000 in
theorem k_X1_reckonRung_55 {K32 : Int → Int → Int → Int → St → Option (Int × St)} {o0 : Int} {o1 : Int} {v3 : Int} {v4 : Int} {os0 : Int} {vs1 : Int} {vs2 : Int} (C : Cx cX1_reckonRung RX1 5 none D cA adK adV A p s m args meth c) (hK32 : ∀ (o0 : Int) (o1 : Int) (v3 : Int) (v4 : Int) (σ : St) (H : Heap) (locs : List Loc) (ls : Array Slot) (ho0 : kX o0 = (1, 0)) (ho1 : kX o1 = (3, 0)), At D cA ad kX 151 R A s σ H locs → lv_has ls 5 [(0, .ref (ad o0)), (1, .ref (ad o1)), (3, .int (zI v3)), (4, .int (zI v4))] → K32 o0 o1 v3 v4 σ = some res → W p l e (rmU 3 75) s m args below meth c H locs 0 0 (MQ below (QV D cA ad kX 151 R A res) args s 0 0 A) (F0 m 32 ls [])) {σ : St} {H : Heap} {locs : List Loc} {ls : Array Slot} (ho0 : kX o0 = (1, 0)) (ho1 : kX o1 = (3, 0)) (hos0 : kX os0 = (20, 4)) (hw : At D cA ad kX 151 R A s σ H locs) (hl : lv_has ls 5 [(0, .ref (ad o0)), (1, .ref (ad o1)), (3, .int (zI v3)), (4, .int (zI v4))]) (h : p_X1_reckonRung_55 K32 o0 o1 v3 v4 os0 vs1 vs2 σ = some res) : W p l e (rmU 3 75) s m args below meth c H locs 0 0 (MQ below (QV D cA ad kX 151 R A res) args s 0 0 A) (F0 m 55 ls [.int (zI vs2), .int (zI vs1), .ref (ad os0)]) := by
  have h := h
  unfold p_X1_reckonRung_55 at h
  obtain ⟨hg55, h⟩ := gd_some h
  obtain ⟨σ55, eσ55, h⟩ := nx_some h
  refine y_iast C hw hos0 (i' := zm vs1) rfl hg55 dX1_reckonRung_55 (fun H locs hw => ?_)
  rw [← eσ55] at hw
  refine y_iinc (lv' := [(4, .int (zI (v4 + 1))), (0, .ref (ad o0)), (1, .ref (ad o1)), (3, .int (zI v3))]) C dX1_reckonRung_56 hl (k := 3) rfl (by decide) rfl (fun ls hl => ?_)
  refine y_goto (tgt := 32) C dX1_reckonRung_59 (by decide) ?_
  exact hK32 _ _ _ _ _ _ _ _ ho0 ho1 hw (lv_sub hl [1, 2, 3, 0] rfl) h
set_option maxRecDepth 100000 in
set_option maxHeartbeats 4000000 in
theorem k_X1_reckonRung_32b {K32 : Int → Int → Int → Int → St → Option (Int × St)} {o0 : Int} {o1 : Int} {v3 : Int} {v4 : Int} (C : Cx cX1_reckonRung RX1 5 none D cA adK adV A p s m args meth c)  (hK32 : ∀ (o0 : Int) (o1 : Int) (v3 : Int) (v4 : Int) (σ : St) (H : Heap) (locs : List Loc) (ls : Array Slot) (ho0 : kX o0 = (1, 0)) (ho1 : kX o1 = (3, 0)), At D cA ad kX 151 R A s σ H locs → lv_has ls 5 [(0, .ref (ad o0)), (1, .ref (ad o1)), (3, .int (zI v3)), (4, .int (zI v4))] → K32 o0 o1 v3 v4 σ = some res → W p l e (rmU 3 75) s m args below meth c H locs 0 0 (MQ below (QV D cA ad kX 151 R A res) args s 0 0 A) (F0 m 32 ls [])) {σ : St} {H : Heap} {locs : List Loc} {ls : Array Slot} (ho0 : kX o0 = (1, 0)) (ho1 : kX o1 = (3, 0)) (hw : At D cA ad kX 151 R A s σ H locs) (hl : lv_has ls 5 [(0, .ref (ad o0)), (1, .ref (ad o1)), (3, .int (zI v3)), (4, .int (zI v4))]) (h : p_X1_reckonRung_32b K32 o0 o1 v3 v4 σ = some res) : W p l e (rmU 3 75) s m args below meth c H locs 0 0 (MQ below (QV D cA ad kX 151 R A res) args s 0 0 A) (F0 m 32 ls []) := by
  have h := h
  unfold p_X1_reckonRung_32b at h
  refine y_iload C dX1_reckonRung_32 (lv_at hl 3 rfl) ?_
  refine y_iconst C dX1_reckonRung_34 ?_
  refine y_icmp_ge (tgt := 62) C (a' := zm v4) (b' := 4) rfl (by decide) dX1_reckonRung_35 (by decide) (fun hc => ?_) (fun hc => ?_)
  · rw [if_pos hc] at h
    refine y_aload_n C dX1_reckonRung_62 (lv_at hl 0 rfl) ?_
    refine g1 C hw ho0 3 (by decide) wd_123 rfl dX1_reckonRung_63 ?_
    refine y_iload_n C dX1_reckonRung_66 (lv_at hl 2 rfl) ?_
    refine y_iconst C dX1_reckonRung_67 ?_
    obtain ⟨hg68, h⟩ := gd_some h
    obtain ⟨σ68, eσ68, h⟩ := nx_some h
    refine y_iast C hw (ka1_houseBearsByRung ho0) (i' := zm v3) rfl hg68 dX1_reckonRung_68 (fun H locs hw => ?_)
    rw [← eσ68] at hw
    refine y_iconst C dX1_reckonRung_69 ?_
    refine y_istore (lv' := [(4, .int (zI 0)), (0, .ref (ad o0)), (1, .ref (ad o1)), (3, .int (zI v3))]) C dX1_reckonRung_70 hl (by decide) rfl (fun ls hl => ?_)
    exact k_X1_reckonRung_72 C  FU _ _ _ _ _ _ _ _ ho0 ho1 hw (lv_sub hl [1, 2, 3, 0] rfl) h
  · rw [if_neg hc] at h
    refine y_aload_n C dX1_reckonRung_38 (lv_at hl 0 rfl) ?_
    refine g1 C hw ho0 4 (by decide) wd_124 rfl dX1_reckonRung_39 ?_
    refine y_iload C dX1_reckonRung_42 (lv_at hl 3 rfl) ?_
    refine y_iload C dX1_reckonRung_44 (lv_at hl 3 rfl) ?_
    refine y_if_ne (tgt := 54) C (a' := zm v4) rfl dX1_reckonRung_46 (by decide) (fun hc => ?_) (fun hc => ?_)
    · rw [if_pos hc] at h
      refine y_ldc C (z := 1000000) wd_720 (by decide) dX1_reckonRung_49 ?_
      refine y_goto (tgt := 55) C dX1_reckonRung_51 (by decide) ?_
      exact k_X1_reckonRung_55 C hK32 ho0 ho1 (ka1_askers ho0) hw hl h
    · rw [if_neg hc] at h
      refine y_iconst C dX1_reckonRung_54 ?_
      exact k_X1_reckonRung_55 C hK32 ho0 ho1 (ka1_askers ho0) hw hl h
set_option maxRecDepth 100000 in
theorem k_X1_reckonRung_32  (C : Cx cX1_reckonRung RX1 5 none D cA adK adV A p s m args meth c)  : ∀ (n : Nat) (o0 : Int) (o1 : Int) (v3 : Int) (v4 : Int) (σ : St) (H : Heap) (locs : List Loc) (ls : Array Slot) (ho0 : kX o0 = (1, 0)) (ho1 : kX o1 = (3, 0)), At D cA ad kX 151 R A s σ H locs → lv_has ls 5 [(0, .ref (ad o0)), (1, .ref (ad o1)), (3, .int (zI v3)), (4, .int (zI v4))] → p_X1_reckonRung_32  n o0 o1 v3 v4 σ = some res → W p l e (rmU 3 75) s m args below meth c H locs 0 0 (MQ below (QV D cA ad kX 151 R A res) args s 0 0 A) (F0 m 32 ls []) := by
  intro n
  induction n with
  | zero =>
    intro o0 o1 v3 v4 σ H locs ls ho0 ho1 hw hl h
    have h : none = some res := h
    cases h
  | succ n ih =>
    intro o0 o1 v3 v4 σ H locs ls ho0 ho1 hw hl h
    exact k_X1_reckonRung_32b C  ih ho0 ho1 hw hl h
set_option maxRecDepth 100000 in
set_option maxHeartbeats 4000000 in
theorem k_X1_reckonRung_29  {o0 : Int} {o1 : Int} {v3 : Int} (C : Cx cX1_reckonRung RX1 5 none D cA adK adV A p s m args meth c)  {σ : St} {H : Heap} {locs : List Loc} {ls : Array Slot} (ho0 : kX o0 = (1, 0)) (ho1 : kX o1 = (3, 0)) (hw : At D cA ad kX 151 R A s σ H locs) (hl : lv_has ls 5 [(0, .ref (ad o0)), (1, .ref (ad o1)), (3, .int (zI v3))]) (h : p_X1_reckonRung_29  o0 o1 v3 σ = some res) : W p l e (rmU 3 75) s m args below meth c H locs 0 0 (MQ below (QV D cA ad kX 151 R A res) args s 0 0 A) (F0 m 29 ls []) := by
  have h := h
  unfold p_X1_reckonRung_29 at h
  refine y_iconst C dX1_reckonRung_29 ?_
  refine y_istore (lv' := [(4, .int (zI 0)), (0, .ref (ad o0)), (1, .ref (ad o1)), (3, .int (zI v3))]) C dX1_reckonRung_30 hl (by decide) rfl (fun ls hl => ?_)
  exact k_X1_reckonRung_32 C  FU _ _ _ _ _ _ _ _ ho0 ho1 hw (lv_sub hl [1, 2, 3, 0] rfl) h
set_option maxRecDepth 100000 in
set_option maxHeartbeats 4000000 in
theorem k_X1_reckonRung_0  {o0 : Int} {o1 : Int} {v2 : Int} {v3 : Int} (C : Cx cX1_reckonRung RX1 5 none D cA adK adV A p s m args meth c)  {σ : St} {H : Heap} {locs : List Loc} {ls : Array Slot} (ho0 : kX o0 = (1, 0)) (ho1 : kX o1 = (3, 0)) (hw : At D cA ad kX 151 R A s σ H locs) (hl : lv_has ls 5 [(0, .ref (ad o0)), (1, .ref (ad o1)), (2, .int (zI v2)), (3, .int (zI v3))]) (h : p_X1_reckonRung  o0 o1 v2 v3 σ = some res) : W p l e (rmU 3 75) s m args below meth c H locs 0 0 (MQ below (QV D cA ad kX 151 R A res) args s 0 0 A) (F0 m 0 ls []) := by
  have h := h
  unfold p_X1_reckonRung at h
  refine y_aload_n C dX1_reckonRung_0 (lv_at hl 1 rfl) ?_
  refine g3 C hw ho1 2 (by decide) wd_232 rfl dX1_reckonRung_1 ?_
  refine y_ifnonnullV (tgt := 22) C dX1_reckonRung_4 (by decide) (fun hc => ?_) (fun hc => ?_)
  · rw [if_pos hc] at h
    refine y_aload_n C dX1_reckonRung_7 (lv_at hl 1 rfl) ?_
    refine y_iload_n C dX1_reckonRung_8 (lv_at hl 2 rfl) ?_
    refine y_iload_n C dX1_reckonRung_9 (lv_at hl 3 rfl) ?_
    refine y_aload_n C dX1_reckonRung_10 (lv_at hl 1 rfl) ?_
    refine y_iload_n C dX1_reckonRung_11 (lv_at hl 2 rfl) ?_
    refine y_iload_n C dX1_reckonRung_12 (lv_at hl 3 rfl) ?_
    obtain ⟨x13, hc13, h⟩ := bd_some h
    refine y_ci (rest := [.int (zI v3), .int (zI v2), .ref (ad o1)]) hw (y_rV C hw ho1 (by decide) rfl rfl (c_X3_isPained ho1 hc13) mi_X3_isPained wd_718 wd_652 wd_653 rfl ⟨by decide, by decide⟩ hl rfl (Nat.le_of_ble_eq_true rfl) dX1_reckonRung_13) (fun H locs hw => ?_)
    obtain ⟨x16, hc16, h⟩ := bd_some h
    refine y_cv (rest := []) hw (y_rV C hw ho1 (by decide) rfl rfl (c_X3_openYear ho1 hc16) mi_X3_openYear wd_719 wd_601 wd_602 rfl ⟨by decide, by decide⟩ hl rfl (Nat.le_of_ble_eq_true rfl) dX1_reckonRung_16) (fun H locs hw => ?_)
    refine y_goto (tgt := 29) C dX1_reckonRung_19 (by decide) ?_
    exact k_X1_reckonRung_29 C  ho0 ho1 hw (lv_sub hl [0, 1, 3] rfl) h
  · rw [if_neg hc] at h
    refine y_aload_n C dX1_reckonRung_22 (lv_at hl 1 rfl) ?_
    refine y_iconst C dX1_reckonRung_23 ?_
    refine y_iload_n C dX1_reckonRung_24 (lv_at hl 3 rfl) ?_
    refine y_iconst C dX1_reckonRung_25 ?_
    obtain ⟨x26, hc26, h⟩ := bd_some h
    refine y_cv (rest := []) hw (y_rV C hw ho1 (by decide) rfl rfl (c_X3_openYear ho1 hc26) mi_X3_openYear wd_719 wd_601 wd_602 rfl ⟨by decide, by decide⟩ hl rfl (Nat.le_of_ble_eq_true rfl) dX1_reckonRung_26) (fun H locs hw => ?_)
    exact k_X1_reckonRung_29 C  ho0 ho1 hw (lv_sub hl [0, 1, 3] rfl) h
theorem c_X1_reckonRung {l : Launch} {D : va_G} {cA : Nat → ClassId} {adK adV : Nat → Nat} {A : Nat → Prop} {ad : Int → Nat} {R : va_W} {σ : St} {res : Int × St} {o0 : Int} {o1 : Int} {v2 : Int} {v3 : Int} (ho0 : kX o0 = (1, 0)) (ho1 : kX o1 = (3, 0)) (h : p_X1_reckonRung o0 o1 v2 v3 σ = some res) : Met l yX1_reckonRung (wsU yX1_reckonRung cX1_reckonRung 5 none) (rmU 3 75) (va_Pc [.ref (ad o0), .ref (ad o1), .int (zI v2), .int (zI v3)] (Pr D cA adK adV ad kX 151 R A σ)) (QV D cA ad kX 151 R A res) 0 0 A :=
  y_met (own := RX1) (by decide) rfl _ (Nat.le_of_ble_eq_true rfl) (fun p e s m args below meth c ls C hl hw => k_X1_reckonRung_0 C ho0 ho1 hw hl h)
/-! RungHouse$LongRun.reckon -/
set_option maxRecDepth 100000 in
set_option maxHeartbeats 4000000 in
theorem k_X1_reckon_23b {K23 : Int → Int → Int → Int → St → Option (Int × St)} {o0 : Int} {o1 : Int} {v2 : Int} {v3 : Int} (C : Cx cX1_reckon RX1 4 none D cA adK adV A p s m args meth c)  (hK23 : ∀ (o0 : Int) (o1 : Int) (v2 : Int) (v3 : Int) (σ : St) (H : Heap) (locs : List Loc) (ls : Array Slot) (ho0 : kX o0 = (1, 0)) (ho1 : kX o1 = (3, 0)), At D cA ad kX 151 R A s σ H locs → lv_has ls 4 [(0, .ref (ad o0)), (1, .ref (ad o1)), (2, .int (zI v2)), (3, .int (zI v3))] → K23 o0 o1 v2 v3 σ = some res → W p l e (rmU 4 99) s m args below meth c H locs 0 0 (MQ below (QV D cA ad kX 151 R A res) args s 0 0 A) (F0 m 23 ls [])) {σ : St} {H : Heap} {locs : List Loc} {ls : Array Slot} (ho0 : kX o0 = (1, 0)) (ho1 : kX o1 = (3, 0)) (hw : At D cA ad kX 151 R A s σ H locs) (hl : lv_has ls 4 [(0, .ref (ad o0)), (1, .ref (ad o1)), (2, .int (zI v2)), (3, .int (zI v3))]) (h : p_X1_reckon_23b K23 o0 o1 v2 v3 σ = some res) : W p l e (rmU 4 99) s m args below meth c H locs 0 0 (MQ below (QV D cA ad kX 151 R A res) args s 0 0 A) (F0 m 23 ls []) := by
  have h := h
  unfold p_X1_reckon_23b at h
  refine y_iload_n C dX1_reckon_23 (lv_at hl 3 rfl) ?_
  refine y_aload_n C dX1_reckon_24 (lv_at hl 1 rfl) ?_
  obtain ⟨hg25, h⟩ := gd_some h
  refine g3 C hw ho1 1 (by decide) wd_230 rfl dX1_reckon_25 ?_
  rw [rv_ref (kX_in _ (by rw [hg25]; decide)).1]
  refine g0 C hw hg25 1 (by decide) wd_84 rfl dX1_reckon_28 ?_
  refine y_icmp_ge (tgt := 47) C (a' := zm v3) (b' := zm (σ (σ o1 1) 1)) rfl rfl dX1_reckon_31 (by decide) (fun hc => ?_) (fun hc => ?_)
  · rw [if_pos hc] at h
    exact y_vret C hw h dX1_reckon_47
  · rw [if_neg hc] at h
    refine y_aload_n C dX1_reckon_34 (lv_at hl 0 rfl) ?_
    refine y_aload_n C dX1_reckon_35 (lv_at hl 1 rfl) ?_
    refine y_iload_n C dX1_reckon_36 (lv_at hl 2 rfl) ?_
    refine y_iload_n C dX1_reckon_37 (lv_at hl 3 rfl) ?_
    obtain ⟨x38, hc38, h⟩ := bd_some h
    refine y_cv (rest := []) hw (y_rV C hw ho0 (by decide) rfl rfl (c_X1_reckonRung ho0 ho1 hc38) mi_X1_reckonRung wd_714 wd_715 wd_716 rfl ⟨by decide, by decide⟩ hl rfl (Nat.le_of_ble_eq_true rfl) dX1_reckon_38) (fun H locs hw => ?_)
    refine y_iinc (lv' := [(3, .int (zI (v3 + 1))), (0, .ref (ad o0)), (1, .ref (ad o1)), (2, .int (zI v2))]) C dX1_reckon_41 hl (k := 3) rfl (by decide) rfl (fun ls hl => ?_)
    refine y_goto (tgt := 23) C dX1_reckon_44 (by decide) ?_
    exact hK23 _ _ _ _ _ _ _ _ ho0 ho1 hw (lv_sub hl [1, 2, 3, 0] rfl) h
set_option maxRecDepth 100000 in
theorem k_X1_reckon_23  (C : Cx cX1_reckon RX1 4 none D cA adK adV A p s m args meth c)  : ∀ (n : Nat) (o0 : Int) (o1 : Int) (v2 : Int) (v3 : Int) (σ : St) (H : Heap) (locs : List Loc) (ls : Array Slot) (ho0 : kX o0 = (1, 0)) (ho1 : kX o1 = (3, 0)), At D cA ad kX 151 R A s σ H locs → lv_has ls 4 [(0, .ref (ad o0)), (1, .ref (ad o1)), (2, .int (zI v2)), (3, .int (zI v3))] → p_X1_reckon_23  n o0 o1 v2 v3 σ = some res → W p l e (rmU 4 99) s m args below meth c H locs 0 0 (MQ below (QV D cA ad kX 151 R A res) args s 0 0 A) (F0 m 23 ls []) := by
  intro n
  induction n with
  | zero =>
    intro o0 o1 v2 v3 σ H locs ls ho0 ho1 hw hl h
    have h : none = some res := h
    cases h
  | succ n ih =>
    intro o0 o1 v2 v3 σ H locs ls ho0 ho1 hw hl h
    exact k_X1_reckon_23b C  ih ho0 ho1 hw hl h
set_option maxRecDepth 100000 in
set_option maxHeartbeats 4000000 in
theorem k_X1_reckon_2b {K2 : Int → Int → Int → Int → St → Option (Int × St)} {o0 : Int} {o1 : Int} {v2 : Int} {v3 : Int} (C : Cx cX1_reckon RX1 4 none D cA adK adV A p s m args meth c)  (hK2 : ∀ (o0 : Int) (o1 : Int) (v2 : Int) (v3 : Int) (σ : St) (H : Heap) (locs : List Loc) (ls : Array Slot) (ho0 : kX o0 = (1, 0)) (ho1 : kX o1 = (3, 0)), At D cA ad kX 151 R A s σ H locs → lv_has ls 4 [(0, .ref (ad o0)), (1, .ref (ad o1)), (2, .int (zI v2)), (3, .int (zI v3))] → K2 o0 o1 v2 v3 σ = some res → W p l e (rmU 4 99) s m args below meth c H locs 0 0 (MQ below (QV D cA ad kX 151 R A res) args s 0 0 A) (F0 m 2 ls [])) {σ : St} {H : Heap} {locs : List Loc} {ls : Array Slot} (ho0 : kX o0 = (1, 0)) (ho1 : kX o1 = (3, 0)) (hw : At D cA ad kX 151 R A s σ H locs) (hl : lv_has ls 4 [(0, .ref (ad o0)), (1, .ref (ad o1)), (2, .int (zI v2)), (3, .int (zI v3))]) (h : p_X1_reckon_2b K2 o0 o1 v2 v3 σ = some res) : W p l e (rmU 4 99) s m args below meth c H locs 0 0 (MQ below (QV D cA ad kX 151 R A res) args s 0 0 A) (F0 m 2 ls []) := by
  have h := h
  unfold p_X1_reckon_2b at h
  refine y_iload_n C dX1_reckon_2 (lv_at hl 3 rfl) ?_
  refine y_bipush C dX1_reckon_3 (by decide) ?_
  refine y_icmp_ge (tgt := 21) C (a' := zm v3) (b' := 10) rfl (by decide) dX1_reckon_5 (by decide) (fun hc => ?_) (fun hc => ?_)
  · rw [if_pos hc] at h
    refine y_iconst C dX1_reckon_21 ?_
    refine y_istore_n (lv' := [(3, .int (zI 0)), (0, .ref (ad o0)), (1, .ref (ad o1)), (2, .int (zI v2))]) C dX1_reckon_22 hl (by decide) rfl (fun ls hl => ?_)
    exact k_X1_reckon_23 C  FU _ _ _ _ _ _ _ _ ho0 ho1 hw (lv_sub hl [1, 2, 3, 0] rfl) h
  · rw [if_neg hc] at h
    refine y_aload_n C dX1_reckon_8 (lv_at hl 0 rfl) ?_
    refine g1 C hw ho0 3 (by decide) wd_123 rfl dX1_reckon_9 ?_
    refine y_iload_n C dX1_reckon_12 (lv_at hl 3 rfl) ?_
    refine y_iconst C dX1_reckon_13 ?_
    obtain ⟨hg14, h⟩ := gd_some h
    obtain ⟨σ14, eσ14, h⟩ := nx_some h
    refine y_iast C hw (ka1_houseBearsByRung ho0) (i' := zm v3) rfl hg14 dX1_reckon_14 (fun H locs hw => ?_)
    rw [← eσ14] at hw
    refine y_iinc (lv' := [(3, .int (zI (v3 + 1))), (0, .ref (ad o0)), (1, .ref (ad o1)), (2, .int (zI v2))]) C dX1_reckon_15 hl (k := 3) rfl (by decide) rfl (fun ls hl => ?_)
    refine y_goto (tgt := 2) C dX1_reckon_18 (by decide) ?_
    exact hK2 _ _ _ _ _ _ _ _ ho0 ho1 hw (lv_sub hl [1, 2, 3, 0] rfl) h
set_option maxRecDepth 100000 in
theorem k_X1_reckon_2  (C : Cx cX1_reckon RX1 4 none D cA adK adV A p s m args meth c)  : ∀ (n : Nat) (o0 : Int) (o1 : Int) (v2 : Int) (v3 : Int) (σ : St) (H : Heap) (locs : List Loc) (ls : Array Slot) (ho0 : kX o0 = (1, 0)) (ho1 : kX o1 = (3, 0)), At D cA ad kX 151 R A s σ H locs → lv_has ls 4 [(0, .ref (ad o0)), (1, .ref (ad o1)), (2, .int (zI v2)), (3, .int (zI v3))] → p_X1_reckon_2  n o0 o1 v2 v3 σ = some res → W p l e (rmU 4 99) s m args below meth c H locs 0 0 (MQ below (QV D cA ad kX 151 R A res) args s 0 0 A) (F0 m 2 ls []) := by
  intro n
  induction n with
  | zero =>
    intro o0 o1 v2 v3 σ H locs ls ho0 ho1 hw hl h
    have h : none = some res := h
    cases h
  | succ n ih =>
    intro o0 o1 v2 v3 σ H locs ls ho0 ho1 hw hl h
    exact k_X1_reckon_2b C  ih ho0 ho1 hw hl h
set_option maxRecDepth 100000 in
set_option maxHeartbeats 4000000 in
theorem k_X1_reckon_0  {o0 : Int} {o1 : Int} {v2 : Int} (C : Cx cX1_reckon RX1 4 none D cA adK adV A p s m args meth c)  {σ : St} {H : Heap} {locs : List Loc} {ls : Array Slot} (ho0 : kX o0 = (1, 0)) (ho1 : kX o1 = (3, 0)) (hw : At D cA ad kX 151 R A s σ H locs) (hl : lv_has ls 4 [(0, .ref (ad o0)), (1, .ref (ad o1)), (2, .int (zI v2))]) (h : p_X1_reckon  o0 o1 v2 σ = some res) : W p l e (rmU 4 99) s m args below meth c H locs 0 0 (MQ below (QV D cA ad kX 151 R A res) args s 0 0 A) (F0 m 0 ls []) := by
  have h := h
  unfold p_X1_reckon at h
  refine y_iconst C dX1_reckon_0 ?_
  refine y_istore_n (lv' := [(3, .int (zI 0)), (0, .ref (ad o0)), (1, .ref (ad o1)), (2, .int (zI v2))]) C dX1_reckon_1 hl (by decide) rfl (fun ls hl => ?_)
  exact k_X1_reckon_2 C  FU _ _ _ _ _ _ _ _ ho0 ho1 hw (lv_sub hl [1, 2, 3, 0] rfl) h
theorem c_X1_reckon {l : Launch} {D : va_G} {cA : Nat → ClassId} {adK adV : Nat → Nat} {A : Nat → Prop} {ad : Int → Nat} {R : va_W} {σ : St} {res : Int × St} {o0 : Int} {o1 : Int} {v2 : Int} (ho0 : kX o0 = (1, 0)) (ho1 : kX o1 = (3, 0)) (h : p_X1_reckon o0 o1 v2 σ = some res) : Met l yX1_reckon (wsU yX1_reckon cX1_reckon 4 none) (rmU 4 99) (va_Pc [.ref (ad o0), .ref (ad o1), .int (zI v2)] (Pr D cA adK adV ad kX 151 R A σ)) (QV D cA ad kX 151 R A res) 0 0 A :=
  y_met (own := RX1) (by decide) rfl _ (Nat.le_of_ble_eq_true rfl) (fun p e s m args below meth c ls C hl hw => k_X1_reckon_0 C ho0 ho1 hw hl h)
/-! RungHouse$LongRun.oddsOf -/
set_option maxRecDepth 100000 in
set_option maxHeartbeats 4000000 in
theorem k_X1_oddsOf_0  {o0 : Int} {v1 : Int} {v2 : Int} (C : Cx cX1_oddsOf RX1 3 (some .int) D cA adK adV A p s m args meth c)  {σ : St} {H : Heap} {locs : List Loc} {ls : Array Slot} (ho0 : kX o0 = (1, 0)) (hw : At D cA ad kX 151 R A s σ H locs) (hl : lv_has ls 3 [(0, .ref (ad o0)), (1, .int (zI v1)), (2, .int (zI v2))]) (h : p_X1_oddsOf  o0 v1 v2 σ = some res) : W p l e (rmU 0 0) s m args below meth c H locs 0 0 (MQ below (QI D cA ad kX 151 R A res) args s 0 0 A) (F0 m 0 ls []) := by
  have h := h
  unfold p_X1_oddsOf at h
  refine y_aload_n C dX1_oddsOf_0 (lv_at hl 0 rfl) ?_
  refine g1 C hw ho0 2 (by decide) wd_122 rfl dX1_oddsOf_1 ?_
  refine y_iload_n C dX1_oddsOf_4 (lv_at hl 1 rfl) ?_
  refine y_iconst C dX1_oddsOf_5 ?_
  refine y_imul C dX1_oddsOf_6 ?_
  refine y_iload_n C dX1_oddsOf_7 (lv_at hl 2 rfl) ?_
  refine y_iadd C dX1_oddsOf_8 ?_
  obtain ⟨hg9, h⟩ := gd_some h
  refine y_iald C hw (ka1_oddsByRung ho0) (i' := zm ((v1 * 4) + v2)) rfl hg9 dX1_oddsOf_9 ?_
  exact y_iret C hw h dX1_oddsOf_10
theorem c_X1_oddsOf {l : Launch} {D : va_G} {cA : Nat → ClassId} {adK adV : Nat → Nat} {A : Nat → Prop} {ad : Int → Nat} {R : va_W} {σ : St} {res : Int × St} {o0 : Int} {v1 : Int} {v2 : Int} (ho0 : kX o0 = (1, 0)) (h : p_X1_oddsOf o0 v1 v2 σ = some res) : Met l yX1_oddsOf (wsU yX1_oddsOf cX1_oddsOf 3 (some .int)) (rmU 0 0) (va_Pc [.ref (ad o0), .int (zI v1), .int (zI v2)] (Pr D cA adK adV ad kX 151 R A σ)) (QI D cA ad kX 151 R A res) 0 0 A :=
  y_met (own := RX1) (by decide) rfl _ (Nat.le_of_ble_eq_true rfl) (fun p e s m args below meth c ls C hl hw => k_X1_oddsOf_0 C ho0 hw hl h)
/-! RungHouse$LongRun.passYear -/
set_option maxRecDepth 100000 in
set_option maxHeartbeats 4000000 in
theorem k_X1_passYear_112b {K112 : Int → Int → St → Option (Int × St)} {o0 : Int} {v3 : Int} (C : Cx cX1_passYear RX1 6 none D cA adK adV A p s m args meth c)  (hK112 : ∀ (o0 : Int) (v3 : Int) (σ : St) (H : Heap) (locs : List Loc) (ls : Array Slot) (ho0 : kX o0 = (1, 0)), At D cA ad kX 151 R A s σ H locs → lv_has ls 6 [(0, .ref (ad o0)), (3, .int (zI v3))] → K112 o0 v3 σ = some res → W p l e (rmU 2 46) s m args below meth c H locs 0 0 (MQ below (QV D cA ad kX 151 R A res) args s 0 0 A) (F0 m 112 ls [])) {σ : St} {H : Heap} {locs : List Loc} {ls : Array Slot} (ho0 : kX o0 = (1, 0)) (hw : At D cA ad kX 151 R A s σ H locs) (hl : lv_has ls 6 [(0, .ref (ad o0)), (3, .int (zI v3))]) (h : p_X1_passYear_112b K112 o0 v3 σ = some res) : W p l e (rmU 2 46) s m args below meth c H locs 0 0 (MQ below (QV D cA ad kX 151 R A res) args s 0 0 A) (F0 m 112 ls []) := by
  have h := h
  unfold p_X1_passYear_112b at h
  refine y_iload_n C dX1_passYear_112 (lv_at hl 1 rfl) ?_
  refine y_bipush C dX1_passYear_113 (by decide) ?_
  refine y_icmp_ge (tgt := 136) C (a' := zm v3) (b' := 10) rfl (by decide) dX1_passYear_115 (by decide) (fun hc => ?_) (fun hc => ?_)
  · rw [if_pos hc] at h
    exact y_vret C hw h dX1_passYear_136
  · rw [if_neg hc] at h
    refine y_aload_n C dX1_passYear_118 (lv_at hl 0 rfl) ?_
    refine g1 C hw ho0 0 (by decide) wd_119 rfl dX1_passYear_119 ?_
    refine y_iload_n C dX1_passYear_122 (lv_at hl 1 rfl) ?_
    refine y_aload_n C dX1_passYear_123 (lv_at hl 0 rfl) ?_
    refine g1 C hw ho0 1 (by decide) wd_121 rfl dX1_passYear_124 ?_
    refine y_iload_n C dX1_passYear_127 (lv_at hl 1 rfl) ?_
    obtain ⟨hg128, h⟩ := gd_some h
    refine y_iald C hw (ka1_coming ho0) (i' := zm v3) rfl hg128 dX1_passYear_128 ?_
    obtain ⟨σ129, eσ129, h⟩ := nx_some h
    refine y_iast C hw (ka1_people ho0) (i' := zm v3) rfl hg128 dX1_passYear_129 (fun H locs hw => ?_)
    rw [← eσ129] at hw
    refine y_iinc (lv' := [(3, .int (zI (v3 + 1))), (0, .ref (ad o0))]) C dX1_passYear_130 hl (k := 1) rfl (by decide) rfl (fun ls hl => ?_)
    refine y_goto (tgt := 112) C dX1_passYear_133 (by decide) ?_
    exact hK112 _ _ _ _ _ _ ho0 hw (lv_sub hl [1, 0] rfl) h
set_option maxRecDepth 100000 in
theorem k_X1_passYear_112  (C : Cx cX1_passYear RX1 6 none D cA adK adV A p s m args meth c)  : ∀ (n : Nat) (o0 : Int) (v3 : Int) (σ : St) (H : Heap) (locs : List Loc) (ls : Array Slot) (ho0 : kX o0 = (1, 0)), At D cA ad kX 151 R A s σ H locs → lv_has ls 6 [(0, .ref (ad o0)), (3, .int (zI v3))] → p_X1_passYear_112  n o0 v3 σ = some res → W p l e (rmU 2 46) s m args below meth c H locs 0 0 (MQ below (QV D cA ad kX 151 R A res) args s 0 0 A) (F0 m 112 ls []) := by
  intro n
  induction n with
  | zero =>
    intro o0 v3 σ H locs ls ho0 hw hl h
    have h : none = some res := h
    cases h
  | succ n ih =>
    intro o0 v3 σ H locs ls ho0 hw hl h
    exact k_X1_passYear_112b C  ih ho0 hw hl h
set_option maxRecDepth 100000 in
set_option maxHeartbeats 4000000 in
theorem k_X1_passYear_37b {K26 : Int → Int → Int → Int → St → Option (Int × St)} {K37 : Int → Int → Int → Int → Int → St → Option (Int × St)} {o0 : Int} {o1 : Int} {v2 : Int} {v3 : Int} {v4 : Int} (C : Cx cX1_passYear RX1 6 none D cA adK adV A p s m args meth c) (hK26 : ∀ (o0 : Int) (o1 : Int) (v2 : Int) (v3 : Int) (σ : St) (H : Heap) (locs : List Loc) (ls : Array Slot) (ho0 : kX o0 = (1, 0)) (ho1 : kX o1 = (0, 0)), At D cA ad kX 151 R A s σ H locs → lv_has ls 6 [(0, .ref (ad o0)), (1, .ref (ad o1)), (2, .int (zI v2)), (3, .int (zI v3))] → K26 o0 o1 v2 v3 σ = some res → W p l e (rmU 2 46) s m args below meth c H locs 0 0 (MQ below (QV D cA ad kX 151 R A res) args s 0 0 A) (F0 m 26 ls [])) (hK37 : ∀ (o0 : Int) (o1 : Int) (v2 : Int) (v3 : Int) (v4 : Int) (σ : St) (H : Heap) (locs : List Loc) (ls : Array Slot) (ho0 : kX o0 = (1, 0)) (ho1 : kX o1 = (0, 0)), At D cA ad kX 151 R A s σ H locs → lv_has ls 6 [(0, .ref (ad o0)), (1, .ref (ad o1)), (2, .int (zI v2)), (3, .int (zI v3)), (4, .int (zI v4))] → K37 o0 o1 v2 v3 v4 σ = some res → W p l e (rmU 2 46) s m args below meth c H locs 0 0 (MQ below (QV D cA ad kX 151 R A res) args s 0 0 A) (F0 m 37 ls [])) {σ : St} {H : Heap} {locs : List Loc} {ls : Array Slot} (ho0 : kX o0 = (1, 0)) (ho1 : kX o1 = (0, 0)) (hw : At D cA ad kX 151 R A s σ H locs) (hl : lv_has ls 6 [(0, .ref (ad o0)), (1, .ref (ad o1)), (2, .int (zI v2)), (3, .int (zI v3)), (4, .int (zI v4))]) (h : p_X1_passYear_37b K26 K37 o0 o1 v2 v3 v4 σ = some res) : W p l e (rmU 2 46) s m args below meth c H locs 0 0 (MQ below (QV D cA ad kX 151 R A res) args s 0 0 A) (F0 m 37 ls []) := by
  have h := h
  unfold p_X1_passYear_37b at h
  refine y_iload C dX1_passYear_37 (lv_at hl 4 rfl) ?_
  refine y_iconst C dX1_passYear_39 ?_
  refine y_icmp_ge (tgt := 94) C (a' := zm v4) (b' := 4) rfl (by decide) dX1_passYear_40 (by decide) (fun hc => ?_) (fun hc => ?_)
  · rw [if_pos hc] at h
    refine y_iinc (lv' := [(3, .int (zI (v3 + 1))), (0, .ref (ad o0)), (1, .ref (ad o1)), (2, .int (zI v2)), (4, .int (zI v4))]) C dX1_passYear_94 hl (k := 3) rfl (by decide) rfl (fun ls hl => ?_)
    refine y_goto (tgt := 26) C dX1_passYear_97 (by decide) ?_
    exact hK26 _ _ _ _ _ _ _ _ ho0 ho1 hw (lv_sub hl [1, 2, 3, 0] rfl) h
  · rw [if_neg hc] at h
    refine y_aload_n C dX1_passYear_43 (lv_at hl 0 rfl) ?_
    refine g1 C hw ho0 0 (by decide) wd_119 rfl dX1_passYear_44 ?_
    refine y_iload_n C dX1_passYear_47 (lv_at hl 3 rfl) ?_
    obtain ⟨hg48, h⟩ := gd_some h
    refine y_iald C hw (ka1_people ho0) (i' := zm v3) rfl hg48 dX1_passYear_48 ?_
    refine y_i2l C rfl dX1_passYear_49 ?_
    refine y_aload_n C dX1_passYear_50 (lv_at hl 0 rfl) ?_
    refine y_iload_n C dX1_passYear_51 (lv_at hl 3 rfl) ?_
    refine y_iload C dX1_passYear_52 (lv_at hl 4 rfl) ?_
    obtain ⟨x54, hc54, h⟩ := bd_some h
    refine y_ci (rest := [.long (zJ (zm (σ (o0 + 1) (zm v3))))]) hw (y_rV C hw ho0 (by decide) rfl rfl (c_X1_oddsOf ho0 hc54) mi_X1_oddsOf wd_744 wd_745 wd_746 rfl ⟨by decide, by decide⟩ hl rfl (Nat.le_of_ble_eq_true rfl) dX1_passYear_54) (fun H locs hw => ?_)
    refine y_i2l C rfl dX1_passYear_57 ?_
    refine y_lmul C dX1_passYear_58 ?_
    refine y_ldc2 C (z := 1000000) wd_729 (by decide) dX1_passYear_59 ?_
    refine y_ldiv C (b' := 1000000) (by decide) (by decide) dX1_passYear_62 ?_
    refine y_l2i C dX1_passYear_63 ?_
    obtain ⟨z64, ez64, h⟩ := nz_some h
    rw [← ez64]
    refine y_istore (lv' := [(5, .int (zI z64)), (0, .ref (ad o0)), (1, .ref (ad o1)), (2, .int (zI v2)), (3, .int (zI v3)), (4, .int (zI v4))]) C dX1_passYear_64 hl (by decide) rfl (fun ls hl => ?_)
    refine y_aload_n C dX1_passYear_66 (lv_at hl 1 rfl) ?_
    refine g1 C hw ho0 1 (by decide) wd_121 rfl dX1_passYear_67 ?_
    refine y_aload_n C dX1_passYear_70 (lv_at hl 2 rfl) ?_
    refine y_iload_n C dX1_passYear_71 (lv_at hl 4 rfl) ?_
    refine y_iload C dX1_passYear_72 (lv_at hl 5 rfl) ?_
    obtain ⟨x74, hc74, h⟩ := bd_some h
    refine y_ci (rest := [.ref (ad (o0 + 2))]) hw (y_rV C hw ho1 (by decide) rfl rfl (c_X0_rungAfter ho1 hc74) mi_X0_rungAfter wd_748 wd_563 wd_564 rfl ⟨by decide, by decide⟩ hl rfl (Nat.le_of_ble_eq_true rfl) dX1_passYear_74) (fun H locs hw => ?_)
    refine y_dup2 C dX1_passYear_77 rfl rfl ?_
    obtain ⟨hg78, h⟩ := gd_some h
    refine y_iald C hw (ka1_coming ho0) (i' := zm x74.1) rfl hg78 dX1_passYear_78 ?_
    refine y_iload C dX1_passYear_79 (lv_at hl 0 rfl) ?_
    refine y_iadd C dX1_passYear_81 ?_
    obtain ⟨σ82, eσ82, h⟩ := nx_some h
    refine y_iast C hw (ka1_coming ho0) (i' := zm x74.1) rfl hg78 dX1_passYear_82 (fun H locs hw => ?_)
    rw [← eσ82] at hw
    refine y_iload_n C dX1_passYear_83 (lv_at hl 3 rfl) ?_
    refine y_iload C dX1_passYear_84 (lv_at hl 0 rfl) ?_
    refine y_isub C dX1_passYear_86 ?_
    refine y_istore_n (lv' := [(2, .int (zI (v2 - z64))), (5, .int (zI z64)), (0, .ref (ad o0)), (1, .ref (ad o1)), (3, .int (zI v3)), (4, .int (zI v4))]) C dX1_passYear_87 hl (by decide) rfl (fun ls hl => ?_)
    refine y_iinc (lv' := [(4, .int (zI (v4 + 1))), (2, .int (zI (v2 - z64))), (5, .int (zI z64)), (0, .ref (ad o0)), (1, .ref (ad o1)), (3, .int (zI v3))]) C dX1_passYear_88 hl (k := 5) rfl (by decide) rfl (fun ls hl => ?_)
    refine y_goto (tgt := 37) C dX1_passYear_91 (by decide) ?_
    exact hK37 _ _ _ _ _ _ _ _ _ ho0 ho1 hw (lv_sub hl [3, 4, 1, 5, 0] rfl) h
set_option maxRecDepth 100000 in
theorem k_X1_passYear_37 {K26 : Int → Int → Int → Int → St → Option (Int × St)} (C : Cx cX1_passYear RX1 6 none D cA adK adV A p s m args meth c) (hK26 : ∀ (o0 : Int) (o1 : Int) (v2 : Int) (v3 : Int) (σ : St) (H : Heap) (locs : List Loc) (ls : Array Slot) (ho0 : kX o0 = (1, 0)) (ho1 : kX o1 = (0, 0)), At D cA ad kX 151 R A s σ H locs → lv_has ls 6 [(0, .ref (ad o0)), (1, .ref (ad o1)), (2, .int (zI v2)), (3, .int (zI v3))] → K26 o0 o1 v2 v3 σ = some res → W p l e (rmU 2 46) s m args below meth c H locs 0 0 (MQ below (QV D cA ad kX 151 R A res) args s 0 0 A) (F0 m 26 ls [])) : ∀ (n : Nat) (o0 : Int) (o1 : Int) (v2 : Int) (v3 : Int) (v4 : Int) (σ : St) (H : Heap) (locs : List Loc) (ls : Array Slot) (ho0 : kX o0 = (1, 0)) (ho1 : kX o1 = (0, 0)), At D cA ad kX 151 R A s σ H locs → lv_has ls 6 [(0, .ref (ad o0)), (1, .ref (ad o1)), (2, .int (zI v2)), (3, .int (zI v3)), (4, .int (zI v4))] → p_X1_passYear_37 K26 n o0 o1 v2 v3 v4 σ = some res → W p l e (rmU 2 46) s m args below meth c H locs 0 0 (MQ below (QV D cA ad kX 151 R A res) args s 0 0 A) (F0 m 37 ls []) := by
  intro n
  induction n with
  | zero =>
    intro o0 o1 v2 v3 v4 σ H locs ls ho0 ho1 hw hl h
    have h : none = some res := h
    cases h
  | succ n ih =>
    intro o0 o1 v2 v3 v4 σ H locs ls ho0 ho1 hw hl h
    exact k_X1_passYear_37b C hK26 ih ho0 ho1 hw hl h
set_option maxRecDepth 100000 in
set_option maxHeartbeats 4000000 in
theorem k_X1_passYear_26b {K26 : Int → Int → Int → Int → St → Option (Int × St)} {o0 : Int} {o1 : Int} {v2 : Int} {v3 : Int} (C : Cx cX1_passYear RX1 6 none D cA adK adV A p s m args meth c)  (hK26 : ∀ (o0 : Int) (o1 : Int) (v2 : Int) (v3 : Int) (σ : St) (H : Heap) (locs : List Loc) (ls : Array Slot) (ho0 : kX o0 = (1, 0)) (ho1 : kX o1 = (0, 0)), At D cA ad kX 151 R A s σ H locs → lv_has ls 6 [(0, .ref (ad o0)), (1, .ref (ad o1)), (2, .int (zI v2)), (3, .int (zI v3))] → K26 o0 o1 v2 v3 σ = some res → W p l e (rmU 2 46) s m args below meth c H locs 0 0 (MQ below (QV D cA ad kX 151 R A res) args s 0 0 A) (F0 m 26 ls [])) {σ : St} {H : Heap} {locs : List Loc} {ls : Array Slot} (ho0 : kX o0 = (1, 0)) (ho1 : kX o1 = (0, 0)) (hw : At D cA ad kX 151 R A s σ H locs) (hl : lv_has ls 6 [(0, .ref (ad o0)), (1, .ref (ad o1)), (2, .int (zI v2)), (3, .int (zI v3))]) (h : p_X1_passYear_26b K26 o0 o1 v2 v3 σ = some res) : W p l e (rmU 2 46) s m args below meth c H locs 0 0 (MQ below (QV D cA ad kX 151 R A res) args s 0 0 A) (F0 m 26 ls []) := by
  have h := h
  unfold p_X1_passYear_26b at h
  refine y_iload_n C dX1_passYear_26 (lv_at hl 3 rfl) ?_
  refine y_aload_n C dX1_passYear_27 (lv_at hl 1 rfl) ?_
  refine g0 C hw ho1 1 (by decide) wd_84 rfl dX1_passYear_28 ?_
  refine y_icmp_ge (tgt := 100) C (a' := zm v3) (b' := zm (σ o1 1)) rfl rfl dX1_passYear_31 (by decide) (fun hc => ?_) (fun hc => ?_)
  · rw [if_pos hc] at h
    refine y_aload_n C dX1_passYear_100 (lv_at hl 0 rfl) ?_
    refine g1 C hw ho0 1 (by decide) wd_121 rfl dX1_passYear_101 ?_
    refine y_iconst C dX1_passYear_104 ?_
    refine y_dup2 C dX1_passYear_105 rfl rfl ?_
    refine y_iald C hw (ka1_coming ho0) (i' := 0) (by decide) (by decide) dX1_passYear_106 ?_
    refine y_iload_n C dX1_passYear_107 (lv_at hl 2 rfl) ?_
    refine y_iadd C dX1_passYear_108 ?_
    obtain ⟨σ109, eσ109, h⟩ := nx_some h
    refine y_iast C hw (ka1_coming ho0) (i' := 0) (by decide) (by decide) dX1_passYear_109 (fun H locs hw => ?_)
    rw [← eσ109] at hw
    refine y_iconst C dX1_passYear_110 ?_
    refine y_istore_n (lv' := [(3, .int (zI 0)), (0, .ref (ad o0)), (1, .ref (ad o1)), (2, .int (zI v2))]) C dX1_passYear_111 hl (by decide) rfl (fun ls hl => ?_)
    exact k_X1_passYear_112 C  FU _ _ _ _ _ _ ho0 hw (lv_sub hl [1, 0] rfl) h
  · rw [if_neg hc] at h
    refine y_iconst C dX1_passYear_34 ?_
    refine y_istore (lv' := [(4, .int (zI 0)), (0, .ref (ad o0)), (1, .ref (ad o1)), (2, .int (zI v2)), (3, .int (zI v3))]) C dX1_passYear_35 hl (by decide) rfl (fun ls hl => ?_)
    exact k_X1_passYear_37 C hK26 FU _ _ _ _ _ _ _ _ _ ho0 ho1 hw (lv_sub hl [1, 2, 3, 4, 0] rfl) h
set_option maxRecDepth 100000 in
theorem k_X1_passYear_26  (C : Cx cX1_passYear RX1 6 none D cA adK adV A p s m args meth c)  : ∀ (n : Nat) (o0 : Int) (o1 : Int) (v2 : Int) (v3 : Int) (σ : St) (H : Heap) (locs : List Loc) (ls : Array Slot) (ho0 : kX o0 = (1, 0)) (ho1 : kX o1 = (0, 0)), At D cA ad kX 151 R A s σ H locs → lv_has ls 6 [(0, .ref (ad o0)), (1, .ref (ad o1)), (2, .int (zI v2)), (3, .int (zI v3))] → p_X1_passYear_26  n o0 o1 v2 v3 σ = some res → W p l e (rmU 2 46) s m args below meth c H locs 0 0 (MQ below (QV D cA ad kX 151 R A res) args s 0 0 A) (F0 m 26 ls []) := by
  intro n
  induction n with
  | zero =>
    intro o0 o1 v2 v3 σ H locs ls ho0 ho1 hw hl h
    have h : none = some res := h
    cases h
  | succ n ih =>
    intro o0 o1 v2 v3 σ H locs ls ho0 ho1 hw hl h
    exact k_X1_passYear_26b C  ih ho0 ho1 hw hl h
set_option maxRecDepth 100000 in
set_option maxHeartbeats 4000000 in
theorem k_X1_passYear_2b {K2 : Int → Int → Int → St → Option (Int × St)} {o0 : Int} {o1 : Int} {v2 : Int} (C : Cx cX1_passYear RX1 6 none D cA adK adV A p s m args meth c)  (hK2 : ∀ (o0 : Int) (o1 : Int) (v2 : Int) (σ : St) (H : Heap) (locs : List Loc) (ls : Array Slot) (ho0 : kX o0 = (1, 0)) (ho1 : kX o1 = (0, 0)), At D cA ad kX 151 R A s σ H locs → lv_has ls 6 [(0, .ref (ad o0)), (1, .ref (ad o1)), (2, .int (zI v2))] → K2 o0 o1 v2 σ = some res → W p l e (rmU 2 46) s m args below meth c H locs 0 0 (MQ below (QV D cA ad kX 151 R A res) args s 0 0 A) (F0 m 2 ls [])) {σ : St} {H : Heap} {locs : List Loc} {ls : Array Slot} (ho0 : kX o0 = (1, 0)) (ho1 : kX o1 = (0, 0)) (hw : At D cA ad kX 151 R A s σ H locs) (hl : lv_has ls 6 [(0, .ref (ad o0)), (1, .ref (ad o1)), (2, .int (zI v2))]) (h : p_X1_passYear_2b K2 o0 o1 v2 σ = some res) : W p l e (rmU 2 46) s m args below meth c H locs 0 0 (MQ below (QV D cA ad kX 151 R A res) args s 0 0 A) (F0 m 2 ls []) := by
  have h := h
  unfold p_X1_passYear_2b at h
  refine y_iload_n C dX1_passYear_2 (lv_at hl 2 rfl) ?_
  refine y_bipush C dX1_passYear_3 (by decide) ?_
  refine y_icmp_ge (tgt := 21) C (a' := zm v2) (b' := 10) rfl (by decide) dX1_passYear_5 (by decide) (fun hc => ?_) (fun hc => ?_)
  · rw [if_pos hc] at h
    refine y_ldc C (z := 1000000) wd_720 (by decide) dX1_passYear_21 ?_
    refine y_istore_n (lv' := [(2, .int (zI 1000000)), (0, .ref (ad o0)), (1, .ref (ad o1))]) C dX1_passYear_23 hl (by decide) rfl (fun ls hl => ?_)
    refine y_iconst C dX1_passYear_24 ?_
    refine y_istore_n (lv' := [(3, .int (zI 0)), (2, .int (zI 1000000)), (0, .ref (ad o0)), (1, .ref (ad o1))]) C dX1_passYear_25 hl (by decide) rfl (fun ls hl => ?_)
    exact k_X1_passYear_26 C  FU _ _ _ _ _ _ _ _ ho0 ho1 hw (lv_sub hl [2, 3, 1, 0] rfl) h
  · rw [if_neg hc] at h
    refine y_aload_n C dX1_passYear_8 (lv_at hl 0 rfl) ?_
    refine g1 C hw ho0 1 (by decide) wd_121 rfl dX1_passYear_9 ?_
    refine y_iload_n C dX1_passYear_12 (lv_at hl 2 rfl) ?_
    refine y_iconst C dX1_passYear_13 ?_
    obtain ⟨hg14, h⟩ := gd_some h
    obtain ⟨σ14, eσ14, h⟩ := nx_some h
    refine y_iast C hw (ka1_coming ho0) (i' := zm v2) rfl hg14 dX1_passYear_14 (fun H locs hw => ?_)
    rw [← eσ14] at hw
    refine y_iinc (lv' := [(2, .int (zI (v2 + 1))), (0, .ref (ad o0)), (1, .ref (ad o1))]) C dX1_passYear_15 hl (k := 2) rfl (by decide) rfl (fun ls hl => ?_)
    refine y_goto (tgt := 2) C dX1_passYear_18 (by decide) ?_
    exact hK2 _ _ _ _ _ _ _ ho0 ho1 hw (lv_sub hl [1, 2, 0] rfl) h
set_option maxRecDepth 100000 in
theorem k_X1_passYear_2  (C : Cx cX1_passYear RX1 6 none D cA adK adV A p s m args meth c)  : ∀ (n : Nat) (o0 : Int) (o1 : Int) (v2 : Int) (σ : St) (H : Heap) (locs : List Loc) (ls : Array Slot) (ho0 : kX o0 = (1, 0)) (ho1 : kX o1 = (0, 0)), At D cA ad kX 151 R A s σ H locs → lv_has ls 6 [(0, .ref (ad o0)), (1, .ref (ad o1)), (2, .int (zI v2))] → p_X1_passYear_2  n o0 o1 v2 σ = some res → W p l e (rmU 2 46) s m args below meth c H locs 0 0 (MQ below (QV D cA ad kX 151 R A res) args s 0 0 A) (F0 m 2 ls []) := by
  intro n
  induction n with
  | zero =>
    intro o0 o1 v2 σ H locs ls ho0 ho1 hw hl h
    have h : none = some res := h
    cases h
  | succ n ih =>
    intro o0 o1 v2 σ H locs ls ho0 ho1 hw hl h
    exact k_X1_passYear_2b C  ih ho0 ho1 hw hl h
set_option maxRecDepth 100000 in
set_option maxHeartbeats 4000000 in
theorem k_X1_passYear_0  {o0 : Int} {o1 : Int} (C : Cx cX1_passYear RX1 6 none D cA adK adV A p s m args meth c)  {σ : St} {H : Heap} {locs : List Loc} {ls : Array Slot} (ho0 : kX o0 = (1, 0)) (ho1 : kX o1 = (0, 0)) (hw : At D cA ad kX 151 R A s σ H locs) (hl : lv_has ls 6 [(0, .ref (ad o0)), (1, .ref (ad o1))]) (h : p_X1_passYear  o0 o1 σ = some res) : W p l e (rmU 2 46) s m args below meth c H locs 0 0 (MQ below (QV D cA ad kX 151 R A res) args s 0 0 A) (F0 m 0 ls []) := by
  have h := h
  unfold p_X1_passYear at h
  refine y_iconst C dX1_passYear_0 ?_
  refine y_istore_n (lv' := [(2, .int (zI 0)), (0, .ref (ad o0)), (1, .ref (ad o1))]) C dX1_passYear_1 hl (by decide) rfl (fun ls hl => ?_)
  exact k_X1_passYear_2 C  FU _ _ _ _ _ _ _ ho0 ho1 hw (lv_sub hl [1, 2, 0] rfl) h
theorem c_X1_passYear {l : Launch} {D : va_G} {cA : Nat → ClassId} {adK adV : Nat → Nat} {A : Nat → Prop} {ad : Int → Nat} {R : va_W} {σ : St} {res : Int × St} {o0 : Int} {o1 : Int} (ho0 : kX o0 = (1, 0)) (ho1 : kX o1 = (0, 0)) (h : p_X1_passYear o0 o1 σ = some res) : Met l yX1_passYear (wsU yX1_passYear cX1_passYear 6 none) (rmU 2 46) (va_Pc [.ref (ad o0), .ref (ad o1)] (Pr D cA adK adV ad kX 151 R A σ)) (QV D cA ad kX 151 R A res) 0 0 A :=
  y_met (own := RX1) (by decide) rfl _ (Nat.le_of_ble_eq_true rfl) (fun p e s m args below meth c ls C hl hw => k_X1_passYear_0 C ho0 ho1 hw hl h)
/-! RungHouse$LongRun.goTo -/
set_option maxRecDepth 100000 in
set_option maxHeartbeats 4000000 in
theorem k_X1_goTo_36b {K36 : Int → Int → Int → Int → St → Option (Int × St)} {o0 : Int} {o1 : Int} {v2 : Int} {v3 : Int} (C : Cx cX1_goTo RX1 4 none D cA adK adV A p s m args meth c)  (hK36 : ∀ (o0 : Int) (o1 : Int) (v2 : Int) (v3 : Int) (σ : St) (H : Heap) (locs : List Loc) (ls : Array Slot) (ho0 : kX o0 = (1, 0)) (ho1 : kX o1 = (0, 0)), At D cA ad kX 151 R A s σ H locs → lv_has ls 4 [(0, .ref (ad o0)), (1, .ref (ad o1)), (2, .int (zI v2)), (3, .int (zI v3))] → K36 o0 o1 v2 v3 σ = some res → W p l e (rmU 3 71) s m args below meth c H locs 0 0 (MQ below (QV D cA ad kX 151 R A res) args s 0 0 A) (F0 m 36 ls [])) {σ : St} {H : Heap} {locs : List Loc} {ls : Array Slot} (ho0 : kX o0 = (1, 0)) (ho1 : kX o1 = (0, 0)) (hw : At D cA ad kX 151 R A s σ H locs) (hl : lv_has ls 4 [(0, .ref (ad o0)), (1, .ref (ad o1)), (2, .int (zI v2)), (3, .int (zI v3))]) (h : p_X1_goTo_36b K36 o0 o1 v2 v3 σ = some res) : W p l e (rmU 3 71) s m args below meth c H locs 0 0 (MQ below (QV D cA ad kX 151 R A res) args s 0 0 A) (F0 m 36 ls []) := by
  have h := h
  unfold p_X1_goTo_36b at h
  refine y_iload_n C dX1_goTo_36 (lv_at hl 3 rfl) ?_
  refine y_iload_n C dX1_goTo_37 (lv_at hl 2 rfl) ?_
  refine y_icmp_ge (tgt := 52) C (a' := zm v3) (b' := zm v2) rfl rfl dX1_goTo_38 (by decide) (fun hc => ?_) (fun hc => ?_)
  · rw [if_pos hc] at h
    exact y_vret C hw h dX1_goTo_52
  · rw [if_neg hc] at h
    refine y_aload_n C dX1_goTo_41 (lv_at hl 0 rfl) ?_
    refine y_aload_n C dX1_goTo_42 (lv_at hl 1 rfl) ?_
    obtain ⟨x43, hc43, h⟩ := bd_some h
    refine y_cv (rest := []) hw (y_rV C hw ho0 (by decide) rfl rfl (c_X1_passYear ho0 ho1 hc43) mi_X1_passYear wd_740 wd_742 ws_22 rfl ⟨by decide, by decide⟩ hl rfl (Nat.le_of_ble_eq_true rfl) dX1_goTo_43) (fun H locs hw => ?_)
    refine y_iinc (lv' := [(3, .int (zI (v3 + 1))), (0, .ref (ad o0)), (1, .ref (ad o1)), (2, .int (zI v2))]) C dX1_goTo_46 hl (k := 3) rfl (by decide) rfl (fun ls hl => ?_)
    refine y_goto (tgt := 36) C dX1_goTo_49 (by decide) ?_
    exact hK36 _ _ _ _ _ _ _ _ ho0 ho1 hw (lv_sub hl [1, 2, 3, 0] rfl) h
set_option maxRecDepth 100000 in
theorem k_X1_goTo_36  (C : Cx cX1_goTo RX1 4 none D cA adK adV A p s m args meth c)  : ∀ (n : Nat) (o0 : Int) (o1 : Int) (v2 : Int) (v3 : Int) (σ : St) (H : Heap) (locs : List Loc) (ls : Array Slot) (ho0 : kX o0 = (1, 0)) (ho1 : kX o1 = (0, 0)), At D cA ad kX 151 R A s σ H locs → lv_has ls 4 [(0, .ref (ad o0)), (1, .ref (ad o1)), (2, .int (zI v2)), (3, .int (zI v3))] → p_X1_goTo_36  n o0 o1 v2 v3 σ = some res → W p l e (rmU 3 71) s m args below meth c H locs 0 0 (MQ below (QV D cA ad kX 151 R A res) args s 0 0 A) (F0 m 36 ls []) := by
  intro n
  induction n with
  | zero =>
    intro o0 o1 v2 v3 σ H locs ls ho0 ho1 hw hl h
    have h : none = some res := h
    cases h
  | succ n ih =>
    intro o0 o1 v2 v3 σ H locs ls ho0 ho1 hw hl h
    exact k_X1_goTo_36b C  ih ho0 ho1 hw hl h
set_option maxRecDepth 100000 in
set_option maxHeartbeats 4000000 in
theorem k_X1_goTo_27 {K2 : Int → Int → Int → Int → St → Option (Int × St)} {o0 : Int} {o1 : Int} {v2 : Int} {v3 : Int} {os0 : Int} {vs1 : Int} {vs2 : Int} (C : Cx cX1_goTo RX1 4 none D cA adK adV A p s m args meth c) (hK2 : ∀ (o0 : Int) (o1 : Int) (v2 : Int) (v3 : Int) (σ : St) (H : Heap) (locs : List Loc) (ls : Array Slot) (ho0 : kX o0 = (1, 0)) (ho1 : kX o1 = (0, 0)), At D cA ad kX 151 R A s σ H locs → lv_has ls 4 [(0, .ref (ad o0)), (1, .ref (ad o1)), (2, .int (zI v2)), (3, .int (zI v3))] → K2 o0 o1 v2 v3 σ = some res → W p l e (rmU 3 71) s m args below meth c H locs 0 0 (MQ below (QV D cA ad kX 151 R A res) args s 0 0 A) (F0 m 2 ls [])) {σ : St} {H : Heap} {locs : List Loc} {ls : Array Slot} (ho0 : kX o0 = (1, 0)) (ho1 : kX o1 = (0, 0)) (hos0 : kX os0 = (20, 10)) (hw : At D cA ad kX 151 R A s σ H locs) (hl : lv_has ls 4 [(0, .ref (ad o0)), (1, .ref (ad o1)), (2, .int (zI v2)), (3, .int (zI v3))]) (h : p_X1_goTo_27 K2 o0 o1 v2 v3 os0 vs1 vs2 σ = some res) : W p l e (rmU 3 71) s m args below meth c H locs 0 0 (MQ below (QV D cA ad kX 151 R A res) args s 0 0 A) (F0 m 27 ls [.int (zI vs2), .int (zI vs1), .ref (ad os0)]) := by
  have h := h
  unfold p_X1_goTo_27 at h
  obtain ⟨hg27, h⟩ := gd_some h
  obtain ⟨σ27, eσ27, h⟩ := nx_some h
  refine y_iast C hw hos0 (i' := zm vs1) rfl hg27 dX1_goTo_27 (fun H locs hw => ?_)
  rw [← eσ27] at hw
  refine y_iinc (lv' := [(3, .int (zI (v3 + 1))), (0, .ref (ad o0)), (1, .ref (ad o1)), (2, .int (zI v2))]) C dX1_goTo_28 hl (k := 3) rfl (by decide) rfl (fun ls hl => ?_)
  refine y_goto (tgt := 2) C dX1_goTo_31 (by decide) ?_
  exact hK2 _ _ _ _ _ _ _ _ ho0 ho1 hw (lv_sub hl [1, 2, 3, 0] rfl) h
set_option maxRecDepth 100000 in
set_option maxHeartbeats 4000000 in
theorem k_X1_goTo_2b {K2 : Int → Int → Int → Int → St → Option (Int × St)} {o0 : Int} {o1 : Int} {v2 : Int} {v3 : Int} (C : Cx cX1_goTo RX1 4 none D cA adK adV A p s m args meth c)  (hK2 : ∀ (o0 : Int) (o1 : Int) (v2 : Int) (v3 : Int) (σ : St) (H : Heap) (locs : List Loc) (ls : Array Slot) (ho0 : kX o0 = (1, 0)) (ho1 : kX o1 = (0, 0)), At D cA ad kX 151 R A s σ H locs → lv_has ls 4 [(0, .ref (ad o0)), (1, .ref (ad o1)), (2, .int (zI v2)), (3, .int (zI v3))] → K2 o0 o1 v2 v3 σ = some res → W p l e (rmU 3 71) s m args below meth c H locs 0 0 (MQ below (QV D cA ad kX 151 R A res) args s 0 0 A) (F0 m 2 ls [])) {σ : St} {H : Heap} {locs : List Loc} {ls : Array Slot} (ho0 : kX o0 = (1, 0)) (ho1 : kX o1 = (0, 0)) (hw : At D cA ad kX 151 R A s σ H locs) (hl : lv_has ls 4 [(0, .ref (ad o0)), (1, .ref (ad o1)), (2, .int (zI v2)), (3, .int (zI v3))]) (h : p_X1_goTo_2b K2 o0 o1 v2 v3 σ = some res) : W p l e (rmU 3 71) s m args below meth c H locs 0 0 (MQ below (QV D cA ad kX 151 R A res) args s 0 0 A) (F0 m 2 ls []) := by
  have h := h
  unfold p_X1_goTo_2b at h
  refine y_iload_n C dX1_goTo_2 (lv_at hl 3 rfl) ?_
  refine y_bipush C dX1_goTo_3 (by decide) ?_
  refine y_icmp_ge (tgt := 34) C (a' := zm v3) (b' := 10) rfl (by decide) dX1_goTo_5 (by decide) (fun hc => ?_) (fun hc => ?_)
  · rw [if_pos hc] at h
    refine y_iconst C dX1_goTo_34 ?_
    refine y_istore_n (lv' := [(3, .int (zI 0)), (0, .ref (ad o0)), (1, .ref (ad o1)), (2, .int (zI v2))]) C dX1_goTo_35 hl (by decide) rfl (fun ls hl => ?_)
    exact k_X1_goTo_36 C  FU _ _ _ _ _ _ _ _ ho0 ho1 hw (lv_sub hl [1, 2, 3, 0] rfl) h
  · rw [if_neg hc] at h
    refine y_aload_n C dX1_goTo_8 (lv_at hl 0 rfl) ?_
    refine g1 C hw ho0 0 (by decide) wd_119 rfl dX1_goTo_9 ?_
    refine y_iload_n C dX1_goTo_12 (lv_at hl 3 rfl) ?_
    refine y_iload_n C dX1_goTo_13 (lv_at hl 3 rfl) ?_
    refine y_aload_n C dX1_goTo_14 (lv_at hl 1 rfl) ?_
    refine g0 C hw ho1 6 (by decide) wd_96 rfl dX1_goTo_15 ?_
    refine y_icmp_ne (tgt := 26) C (a' := zm v3) (b' := zm (σ o1 6)) rfl rfl dX1_goTo_18 (by decide) (fun hc => ?_) (fun hc => ?_)
    · rw [if_pos hc] at h
      refine y_ldc C (z := 1000000) wd_720 (by decide) dX1_goTo_21 ?_
      refine y_goto (tgt := 27) C dX1_goTo_23 (by decide) ?_
      exact k_X1_goTo_27 C hK2 ho0 ho1 (ka1_people ho0) hw hl h
    · rw [if_neg hc] at h
      refine y_iconst C dX1_goTo_26 ?_
      exact k_X1_goTo_27 C hK2 ho0 ho1 (ka1_people ho0) hw hl h
set_option maxRecDepth 100000 in
theorem k_X1_goTo_2  (C : Cx cX1_goTo RX1 4 none D cA adK adV A p s m args meth c)  : ∀ (n : Nat) (o0 : Int) (o1 : Int) (v2 : Int) (v3 : Int) (σ : St) (H : Heap) (locs : List Loc) (ls : Array Slot) (ho0 : kX o0 = (1, 0)) (ho1 : kX o1 = (0, 0)), At D cA ad kX 151 R A s σ H locs → lv_has ls 4 [(0, .ref (ad o0)), (1, .ref (ad o1)), (2, .int (zI v2)), (3, .int (zI v3))] → p_X1_goTo_2  n o0 o1 v2 v3 σ = some res → W p l e (rmU 3 71) s m args below meth c H locs 0 0 (MQ below (QV D cA ad kX 151 R A res) args s 0 0 A) (F0 m 2 ls []) := by
  intro n
  induction n with
  | zero =>
    intro o0 o1 v2 v3 σ H locs ls ho0 ho1 hw hl h
    have h : none = some res := h
    cases h
  | succ n ih =>
    intro o0 o1 v2 v3 σ H locs ls ho0 ho1 hw hl h
    exact k_X1_goTo_2b C  ih ho0 ho1 hw hl h
set_option maxRecDepth 100000 in
set_option maxHeartbeats 4000000 in
theorem k_X1_goTo_0  {o0 : Int} {o1 : Int} {v2 : Int} (C : Cx cX1_goTo RX1 4 none D cA adK adV A p s m args meth c)  {σ : St} {H : Heap} {locs : List Loc} {ls : Array Slot} (ho0 : kX o0 = (1, 0)) (ho1 : kX o1 = (0, 0)) (hw : At D cA ad kX 151 R A s σ H locs) (hl : lv_has ls 4 [(0, .ref (ad o0)), (1, .ref (ad o1)), (2, .int (zI v2))]) (h : p_X1_goTo  o0 o1 v2 σ = some res) : W p l e (rmU 3 71) s m args below meth c H locs 0 0 (MQ below (QV D cA ad kX 151 R A res) args s 0 0 A) (F0 m 0 ls []) := by
  have h := h
  unfold p_X1_goTo at h
  refine y_iconst C dX1_goTo_0 ?_
  refine y_istore_n (lv' := [(3, .int (zI 0)), (0, .ref (ad o0)), (1, .ref (ad o1)), (2, .int (zI v2))]) C dX1_goTo_1 hl (by decide) rfl (fun ls hl => ?_)
  exact k_X1_goTo_2 C  FU _ _ _ _ _ _ _ _ ho0 ho1 hw (lv_sub hl [1, 2, 3, 0] rfl) h
theorem c_X1_goTo {l : Launch} {D : va_G} {cA : Nat → ClassId} {adK adV : Nat → Nat} {A : Nat → Prop} {ad : Int → Nat} {R : va_W} {σ : St} {res : Int × St} {o0 : Int} {o1 : Int} {v2 : Int} (ho0 : kX o0 = (1, 0)) (ho1 : kX o1 = (0, 0)) (h : p_X1_goTo o0 o1 v2 σ = some res) : Met l yX1_goTo (wsU yX1_goTo cX1_goTo 4 none) (rmU 3 71) (va_Pc [.ref (ad o0), .ref (ad o1), .int (zI v2)] (Pr D cA adK adV ad kX 151 R A σ)) (QV D cA ad kX 151 R A res) 0 0 A :=
  y_met (own := RX1) (by decide) rfl _ (Nat.le_of_ble_eq_true rfl) (fun p e s m args below meth c ls C hl hw => k_X1_goTo_0 C ho0 ho1 hw hl h)
/-! RungHouse$LongRun.paid -/
set_option maxRecDepth 100000 in
set_option maxHeartbeats 4000000 in
theorem k_X1_paid_4b {K4 : Int → Int → Int → Int → St → Option (Int × St)} {o0 : Int} {o1 : Int} {v2 : Int} {v3 : Int} (C : Cx cX1_paid RX1 4 (some .int) D cA adK adV A p s m args meth c)  (hK4 : ∀ (o0 : Int) (o1 : Int) (v2 : Int) (v3 : Int) (σ : St) (H : Heap) (locs : List Loc) (ls : Array Slot) (ho0 : kX o0 = (1, 0)) (ho1 : kX o1 = (0, 0)), At D cA ad kX 151 R A s σ H locs → lv_has ls 4 [(0, .ref (ad o0)), (1, .ref (ad o1)), (2, .int (zI v2)), (3, .int (zI v3))] → K4 o0 o1 v2 v3 σ = some res → W p l e (rmU 0 0) s m args below meth c H locs 0 0 (MQ below (QI D cA ad kX 151 R A res) args s 0 0 A) (F0 m 4 ls [])) {σ : St} {H : Heap} {locs : List Loc} {ls : Array Slot} (ho0 : kX o0 = (1, 0)) (ho1 : kX o1 = (0, 0)) (hw : At D cA ad kX 151 R A s σ H locs) (hl : lv_has ls 4 [(0, .ref (ad o0)), (1, .ref (ad o1)), (2, .int (zI v2)), (3, .int (zI v3))]) (h : p_X1_paid_4b K4 o0 o1 v2 v3 σ = some res) : W p l e (rmU 0 0) s m args below meth c H locs 0 0 (MQ below (QI D cA ad kX 151 R A res) args s 0 0 A) (F0 m 4 ls []) := by
  have h := h
  unfold p_X1_paid_4b at h
  refine y_iload_n C dX1_paid_4 (lv_at hl 3 rfl) ?_
  refine y_aload_n C dX1_paid_5 (lv_at hl 1 rfl) ?_
  refine g0 C hw ho1 1 (by decide) wd_84 rfl dX1_paid_6 ?_
  refine y_icmp_ge (tgt := 41) C (a' := zm v3) (b' := zm (σ o1 1)) rfl rfl dX1_paid_9 (by decide) (fun hc => ?_) (fun hc => ?_)
  · rw [if_pos hc] at h
    refine y_iload_n C dX1_paid_41 (lv_at hl 2 rfl) ?_
    exact y_iret C hw h dX1_paid_42
  · rw [if_neg hc] at h
    refine y_iload_n C dX1_paid_12 (lv_at hl 2 rfl) ?_
    refine y_aload_n C dX1_paid_13 (lv_at hl 0 rfl) ?_
    refine g1 C hw ho0 0 (by decide) wd_119 rfl dX1_paid_14 ?_
    refine y_iload_n C dX1_paid_17 (lv_at hl 3 rfl) ?_
    obtain ⟨hg18, h⟩ := gd_some h
    refine y_iald C hw (ka1_people ho0) (i' := zm v3) rfl hg18 dX1_paid_18 ?_
    refine y_i2l C rfl dX1_paid_19 ?_
    refine y_aload_n C dX1_paid_20 (lv_at hl 1 rfl) ?_
    refine g0 C hw ho1 0 (by decide) wd_80 rfl dX1_paid_21 ?_
    refine y_iload_n C dX1_paid_24 (lv_at hl 3 rfl) ?_
    refine y_iald C hw (ka0_prices ho1) (i' := zm v3) rfl hg18 dX1_paid_25 ?_
    refine y_i2l C rfl dX1_paid_26 ?_
    refine y_lmul C dX1_paid_27 ?_
    refine y_ldc2 C (z := 1000) wd_734 (by decide) dX1_paid_28 ?_
    refine y_ldiv C (b' := 1000) (by decide) (by decide) dX1_paid_31 ?_
    refine y_l2i C dX1_paid_32 ?_
    refine y_iadd C dX1_paid_33 ?_
    obtain ⟨z34, ez34, h⟩ := nz_some h
    rw [← ez34]
    refine y_istore_n (lv' := [(2, .int (zI z34)), (0, .ref (ad o0)), (1, .ref (ad o1)), (3, .int (zI v3))]) C dX1_paid_34 hl (by decide) rfl (fun ls hl => ?_)
    refine y_iinc (lv' := [(3, .int (zI (v3 + 1))), (2, .int (zI z34)), (0, .ref (ad o0)), (1, .ref (ad o1))]) C dX1_paid_35 hl (k := 3) rfl (by decide) rfl (fun ls hl => ?_)
    refine y_goto (tgt := 4) C dX1_paid_38 (by decide) ?_
    exact hK4 _ _ _ _ _ _ _ _ ho0 ho1 hw (lv_sub hl [2, 3, 1, 0] rfl) h
set_option maxRecDepth 100000 in
theorem k_X1_paid_4  (C : Cx cX1_paid RX1 4 (some .int) D cA adK adV A p s m args meth c)  : ∀ (n : Nat) (o0 : Int) (o1 : Int) (v2 : Int) (v3 : Int) (σ : St) (H : Heap) (locs : List Loc) (ls : Array Slot) (ho0 : kX o0 = (1, 0)) (ho1 : kX o1 = (0, 0)), At D cA ad kX 151 R A s σ H locs → lv_has ls 4 [(0, .ref (ad o0)), (1, .ref (ad o1)), (2, .int (zI v2)), (3, .int (zI v3))] → p_X1_paid_4  n o0 o1 v2 v3 σ = some res → W p l e (rmU 0 0) s m args below meth c H locs 0 0 (MQ below (QI D cA ad kX 151 R A res) args s 0 0 A) (F0 m 4 ls []) := by
  intro n
  induction n with
  | zero =>
    intro o0 o1 v2 v3 σ H locs ls ho0 ho1 hw hl h
    have h : none = some res := h
    cases h
  | succ n ih =>
    intro o0 o1 v2 v3 σ H locs ls ho0 ho1 hw hl h
    exact k_X1_paid_4b C  ih ho0 ho1 hw hl h
set_option maxRecDepth 100000 in
set_option maxHeartbeats 4000000 in
theorem k_X1_paid_0  {o0 : Int} {o1 : Int} (C : Cx cX1_paid RX1 4 (some .int) D cA adK adV A p s m args meth c)  {σ : St} {H : Heap} {locs : List Loc} {ls : Array Slot} (ho0 : kX o0 = (1, 0)) (ho1 : kX o1 = (0, 0)) (hw : At D cA ad kX 151 R A s σ H locs) (hl : lv_has ls 4 [(0, .ref (ad o0)), (1, .ref (ad o1))]) (h : p_X1_paid  o0 o1 σ = some res) : W p l e (rmU 0 0) s m args below meth c H locs 0 0 (MQ below (QI D cA ad kX 151 R A res) args s 0 0 A) (F0 m 0 ls []) := by
  have h := h
  unfold p_X1_paid at h
  refine y_iconst C dX1_paid_0 ?_
  refine y_istore_n (lv' := [(2, .int (zI 0)), (0, .ref (ad o0)), (1, .ref (ad o1))]) C dX1_paid_1 hl (by decide) rfl (fun ls hl => ?_)
  refine y_iconst C dX1_paid_2 ?_
  refine y_istore_n (lv' := [(3, .int (zI 0)), (2, .int (zI 0)), (0, .ref (ad o0)), (1, .ref (ad o1))]) C dX1_paid_3 hl (by decide) rfl (fun ls hl => ?_)
  exact k_X1_paid_4 C  FU _ _ _ _ _ _ _ _ ho0 ho1 hw (lv_sub hl [2, 3, 1, 0] rfl) h
theorem c_X1_paid {l : Launch} {D : va_G} {cA : Nat → ClassId} {adK adV : Nat → Nat} {A : Nat → Prop} {ad : Int → Nat} {R : va_W} {σ : St} {res : Int × St} {o0 : Int} {o1 : Int} (ho0 : kX o0 = (1, 0)) (ho1 : kX o1 = (0, 0)) (h : p_X1_paid o0 o1 σ = some res) : Met l yX1_paid (wsU yX1_paid cX1_paid 4 (some .int)) (rmU 0 0) (va_Pc [.ref (ad o0), .ref (ad o1)] (Pr D cA adK adV ad kX 151 R A σ)) (QI D cA ad kX 151 R A res) 0 0 A :=
  y_met (own := RX1) (by decide) rfl _ (Nat.le_of_ble_eq_true rfl) (fun p e s m args below meth c ls C hl hw => k_X1_paid_0 C ho0 ho1 hw hl h)
/-! RungHouse$LongRun.askedFor -/
set_option maxRecDepth 100000 in
set_option maxHeartbeats 4000000 in
theorem k_X1_askedFor_4b {K4 : Int → Int → Int → St → Option (Int × St)} {o0 : Int} {v1 : Int} {v2 : Int} (C : Cx cX1_askedFor RX1 3 (some .int) D cA adK adV A p s m args meth c)  (hK4 : ∀ (o0 : Int) (v1 : Int) (v2 : Int) (σ : St) (H : Heap) (locs : List Loc) (ls : Array Slot) (ho0 : kX o0 = (1, 0)), At D cA ad kX 151 R A s σ H locs → lv_has ls 3 [(0, .ref (ad o0)), (1, .int (zI v1)), (2, .int (zI v2))] → K4 o0 v1 v2 σ = some res → W p l e (rmU 0 0) s m args below meth c H locs 0 0 (MQ below (QI D cA ad kX 151 R A res) args s 0 0 A) (F0 m 4 ls [])) {σ : St} {H : Heap} {locs : List Loc} {ls : Array Slot} (ho0 : kX o0 = (1, 0)) (hw : At D cA ad kX 151 R A s σ H locs) (hl : lv_has ls 3 [(0, .ref (ad o0)), (1, .int (zI v1)), (2, .int (zI v2))]) (h : p_X1_askedFor_4b K4 o0 v1 v2 σ = some res) : W p l e (rmU 0 0) s m args below meth c H locs 0 0 (MQ below (QI D cA ad kX 151 R A res) args s 0 0 A) (F0 m 4 ls []) := by
  have h := h
  unfold p_X1_askedFor_4b at h
  refine y_iload_n C dX1_askedFor_4 (lv_at hl 2 rfl) ?_
  refine y_bipush C dX1_askedFor_5 (by decide) ?_
  refine y_icmp_ge (tgt := 39) C (a' := zm v2) (b' := 10) rfl (by decide) dX1_askedFor_7 (by decide) (fun hc => ?_) (fun hc => ?_)
  · rw [if_pos hc] at h
    refine y_iload_n C dX1_askedFor_39 (lv_at hl 1 rfl) ?_
    exact y_iret C hw h dX1_askedFor_40
  · rw [if_neg hc] at h
    refine y_iload_n C dX1_askedFor_10 (lv_at hl 1 rfl) ?_
    refine y_aload_n C dX1_askedFor_11 (lv_at hl 0 rfl) ?_
    refine g1 C hw ho0 0 (by decide) wd_119 rfl dX1_askedFor_12 ?_
    refine y_iload_n C dX1_askedFor_15 (lv_at hl 2 rfl) ?_
    obtain ⟨hg16, h⟩ := gd_some h
    refine y_iald C hw (ka1_people ho0) (i' := zm v2) rfl hg16 dX1_askedFor_16 ?_
    refine y_i2l C rfl dX1_askedFor_17 ?_
    refine y_aload_n C dX1_askedFor_18 (lv_at hl 0 rfl) ?_
    refine g1 C hw ho0 3 (by decide) wd_123 rfl dX1_askedFor_19 ?_
    refine y_iload_n C dX1_askedFor_22 (lv_at hl 2 rfl) ?_
    refine y_iald C hw (ka1_houseBearsByRung ho0) (i' := zm v2) rfl hg16 dX1_askedFor_23 ?_
    refine y_i2l C rfl dX1_askedFor_24 ?_
    refine y_lmul C dX1_askedFor_25 ?_
    refine y_ldc2 C (z := 1000000) wd_729 (by decide) dX1_askedFor_26 ?_
    refine y_ldiv C (b' := 1000000) (by decide) (by decide) dX1_askedFor_29 ?_
    refine y_l2i C dX1_askedFor_30 ?_
    refine y_iadd C dX1_askedFor_31 ?_
    obtain ⟨z32, ez32, h⟩ := nz_some h
    rw [← ez32]
    refine y_istore_n (lv' := [(1, .int (zI z32)), (0, .ref (ad o0)), (2, .int (zI v2))]) C dX1_askedFor_32 hl (by decide) rfl (fun ls hl => ?_)
    refine y_iinc (lv' := [(2, .int (zI (v2 + 1))), (1, .int (zI z32)), (0, .ref (ad o0))]) C dX1_askedFor_33 hl (k := 2) rfl (by decide) rfl (fun ls hl => ?_)
    refine y_goto (tgt := 4) C dX1_askedFor_36 (by decide) ?_
    exact hK4 _ _ _ _ _ _ _ ho0 hw (lv_sub hl [2, 1, 0] rfl) h
set_option maxRecDepth 100000 in
theorem k_X1_askedFor_4  (C : Cx cX1_askedFor RX1 3 (some .int) D cA adK adV A p s m args meth c)  : ∀ (n : Nat) (o0 : Int) (v1 : Int) (v2 : Int) (σ : St) (H : Heap) (locs : List Loc) (ls : Array Slot) (ho0 : kX o0 = (1, 0)), At D cA ad kX 151 R A s σ H locs → lv_has ls 3 [(0, .ref (ad o0)), (1, .int (zI v1)), (2, .int (zI v2))] → p_X1_askedFor_4  n o0 v1 v2 σ = some res → W p l e (rmU 0 0) s m args below meth c H locs 0 0 (MQ below (QI D cA ad kX 151 R A res) args s 0 0 A) (F0 m 4 ls []) := by
  intro n
  induction n with
  | zero =>
    intro o0 v1 v2 σ H locs ls ho0 hw hl h
    have h : none = some res := h
    cases h
  | succ n ih =>
    intro o0 v1 v2 σ H locs ls ho0 hw hl h
    exact k_X1_askedFor_4b C  ih ho0 hw hl h
set_option maxRecDepth 100000 in
set_option maxHeartbeats 4000000 in
theorem k_X1_askedFor_0  {o0 : Int} (C : Cx cX1_askedFor RX1 3 (some .int) D cA adK adV A p s m args meth c)  {σ : St} {H : Heap} {locs : List Loc} {ls : Array Slot} (ho0 : kX o0 = (1, 0)) (hw : At D cA ad kX 151 R A s σ H locs) (hl : lv_has ls 3 [(0, .ref (ad o0))]) (h : p_X1_askedFor  o0 σ = some res) : W p l e (rmU 0 0) s m args below meth c H locs 0 0 (MQ below (QI D cA ad kX 151 R A res) args s 0 0 A) (F0 m 0 ls []) := by
  have h := h
  unfold p_X1_askedFor at h
  refine y_iconst C dX1_askedFor_0 ?_
  refine y_istore_n (lv' := [(1, .int (zI 0)), (0, .ref (ad o0))]) C dX1_askedFor_1 hl (by decide) rfl (fun ls hl => ?_)
  refine y_iconst C dX1_askedFor_2 ?_
  refine y_istore_n (lv' := [(2, .int (zI 0)), (1, .int (zI 0)), (0, .ref (ad o0))]) C dX1_askedFor_3 hl (by decide) rfl (fun ls hl => ?_)
  exact k_X1_askedFor_4 C  FU _ _ _ _ _ _ _ ho0 hw (lv_sub hl [2, 1, 0] rfl) h
theorem c_X1_askedFor {l : Launch} {D : va_G} {cA : Nat → ClassId} {adK adV : Nat → Nat} {A : Nat → Prop} {ad : Int → Nat} {R : va_W} {σ : St} {res : Int × St} {o0 : Int} (ho0 : kX o0 = (1, 0)) (h : p_X1_askedFor o0 σ = some res) : Met l yX1_askedFor (wsU yX1_askedFor cX1_askedFor 3 (some .int)) (rmU 0 0) (va_Pc [.ref (ad o0)] (Pr D cA adK adV ad kX 151 R A σ)) (QI D cA ad kX 151 R A res) 0 0 A :=
  y_met (own := RX1) (by decide) rfl _ (Nat.le_of_ble_eq_true rfl) (fun p e s m args below meth c ls C hl hw => k_X1_askedFor_0 C ho0 hw hl h)
/-! RungHouse$Memory.rises -/
set_option maxRecDepth 100000 in
set_option maxHeartbeats 4000000 in
theorem k_X2_rises_31   (C : Cx cX2_rises RX2 2 (some .boolean) D cA adK adV A p s m args meth c)  {σ : St} {H : Heap} {locs : List Loc} {ls : Array Slot}  (hw : At D cA ad kX 151 R A s σ H locs) (hl : lv_has ls 2 []) (h : p_X2_rises_31   σ = some res) : W p l e (rmU 0 0) s m args below meth c H locs 0 0 (MQ below (QI D cA ad kX 151 R A res) args s 0 0 A) (F0 m 31 ls []) := by
  have h := h
  unfold p_X2_rises_31 at h
  refine y_iconst C dX2_rises_31 ?_
  refine y_goto (tgt := 36) C dX2_rises_32 (by decide) ?_
  exact y_zret C hw (by decide) h dX2_rises_36
set_option maxRecDepth 100000 in
set_option maxHeartbeats 4000000 in
theorem k_X2_rises_0  {o0 : Int} {v1 : Int} (C : Cx cX2_rises RX2 2 (some .boolean) D cA adK adV A p s m args meth c)  {σ : St} {H : Heap} {locs : List Loc} {ls : Array Slot} (ho0 : kX o0 = (2, 0)) (hw : At D cA ad kX 151 R A s σ H locs) (hl : lv_has ls 2 [(0, .ref (ad o0)), (1, .int (zI v1))]) (h : p_X2_rises  o0 v1 σ = some res) : W p l e (rmU 0 0) s m args below meth c H locs 0 0 (MQ below (QI D cA ad kX 151 R A res) args s 0 0 A) (F0 m 0 ls []) := by
  have h := h
  unfold p_X2_rises at h
  refine y_aload_n C dX2_rises_0 (lv_at hl 0 rfl) ?_
  refine g2 C hw ho0 3 (by decide) wd_148 rfl dX2_rises_1 ?_
  refine y_if_eq (tgt := 31) C (a' := zm (σ o0 3)) rfl dX2_rises_4 (by decide) (fun hc => ?_) (fun hc => ?_)
  · rw [if_pos hc] at h
    exact k_X2_rises_31 C   hw (lv_sub hl [] rfl) h
  · rw [if_neg hc] at h
    refine y_aload_n C dX2_rises_7 (lv_at hl 0 rfl) ?_
    refine g2 C hw ho0 3 (by decide) wd_148 rfl dX2_rises_8 ?_
    refine y_bipush C dX2_rises_11 (by decide) ?_
    refine y_icmp_ge (tgt := 35) C (a' := zm (σ o0 3)) (b' := 12) rfl (by decide) dX2_rises_13 (by decide) (fun hc => ?_) (fun hc => ?_)
    · rw [if_pos hc] at h
      refine y_iconst C dX2_rises_35 ?_
      exact y_zret C hw (by decide) h dX2_rises_36
    · rw [if_neg hc] at h
      refine y_iload_n C dX2_rises_16 (lv_at hl 1 rfl) ?_
      refine y_aload_n C dX2_rises_17 (lv_at hl 0 rfl) ?_
      refine g2 C hw ho0 0 (by decide) wd_142 rfl dX2_rises_18 ?_
      refine y_aload_n C dX2_rises_21 (lv_at hl 0 rfl) ?_
      refine g2 C hw ho0 3 (by decide) wd_148 rfl dX2_rises_22 ?_
      refine y_iconst C dX2_rises_25 ?_
      refine y_isub C dX2_rises_26 ?_
      obtain ⟨hg27, h⟩ := gd_some h
      refine y_iald C hw (ka2_months ho0) (i' := zm ((σ o0 3) - 1)) rfl hg27 dX2_rises_27 ?_
      refine y_icmp_le (tgt := 35) C (a' := zm v1) (b' := zm (σ (o0 + 1) (zm ((σ o0 3) - 1)))) rfl rfl dX2_rises_28 (by decide) (fun hc => ?_) (fun hc => ?_)
      · rw [if_pos hc] at h
        refine y_iconst C dX2_rises_35 ?_
        exact y_zret C hw (by decide) h dX2_rises_36
      · rw [if_neg hc] at h
        exact k_X2_rises_31 C   hw (lv_sub hl [] rfl) h
theorem c_X2_rises {l : Launch} {D : va_G} {cA : Nat → ClassId} {adK adV : Nat → Nat} {A : Nat → Prop} {ad : Int → Nat} {R : va_W} {σ : St} {res : Int × St} {o0 : Int} {v1 : Int} (ho0 : kX o0 = (2, 0)) (h : p_X2_rises o0 v1 σ = some res) : Met l yX2_rises (wsU yX2_rises cX2_rises 2 (some .boolean)) (rmU 0 0) (va_Pc [.ref (ad o0), .int (zI v1)] (Pr D cA adK adV ad kX 151 R A σ)) (QI D cA ad kX 151 R A res) 0 0 A :=
  y_met (own := RX2) (by decide) rfl _ (Nat.le_of_ble_eq_true rfl) (fun p e s m args below meth c ls C hl hw => k_X2_rises_0 C ho0 hw hl h)
/-! RungHouse$Memory.addScrape -/
set_option maxRecDepth 100000 in
set_option maxHeartbeats 4000000 in
theorem k_X2_addScrape_0  {o0 : Int} {v1 : Int} {v2 : Int} {v3 : Int} (C : Cx cX2_addScrape RX2 4 none D cA adK adV A p s m args meth c)  {σ : St} {H : Heap} {locs : List Loc} {ls : Array Slot} (ho0 : kX o0 = (2, 0)) (hw : At D cA ad kX 151 R A s σ H locs) (hl : lv_has ls 4 [(0, .ref (ad o0)), (1, .int (zI v1)), (2, .int (zI v2)), (3, .int (zI v3))]) (h : p_X2_addScrape  o0 v1 v2 v3 σ = some res) : W p l e (rmU 0 0) s m args below meth c H locs 0 0 (MQ below (QV D cA ad kX 151 R A res) args s 0 0 A) (F0 m 0 ls []) := by
  have h := h
  unfold p_X2_addScrape at h
  refine y_aload_n C dX2_addScrape_0 (lv_at hl 0 rfl) ?_
  refine g2 C hw ho0 3 (by decide) wd_148 rfl dX2_addScrape_1 ?_
  refine y_bipush C dX2_addScrape_4 (by decide) ?_
  refine y_icmp_ge (tgt := 49) C (a' := zm (σ o0 3)) (b' := 12) rfl (by decide) dX2_addScrape_6 (by decide) (fun hc => ?_) (fun hc => ?_)
  · rw [if_pos hc] at h
    exact y_vret C hw h dX2_addScrape_49
  · rw [if_neg hc] at h
    refine y_aload_n C dX2_addScrape_9 (lv_at hl 0 rfl) ?_
    refine g2 C hw ho0 0 (by decide) wd_142 rfl dX2_addScrape_10 ?_
    refine y_aload_n C dX2_addScrape_13 (lv_at hl 0 rfl) ?_
    refine g2 C hw ho0 3 (by decide) wd_148 rfl dX2_addScrape_14 ?_
    refine y_iload_n C dX2_addScrape_17 (lv_at hl 1 rfl) ?_
    obtain ⟨hg18, h⟩ := gd_some h
    obtain ⟨σ18, eσ18, h⟩ := nx_some h
    refine y_iast C hw (ka2_months ho0) (i' := zm (σ o0 3)) rfl hg18 dX2_addScrape_18 (fun H locs hw => ?_)
    rw [← eσ18] at hw
    refine y_aload_n C dX2_addScrape_19 (lv_at hl 0 rfl) ?_
    refine g2 C hw ho0 1 (by decide) wd_144 rfl dX2_addScrape_20 ?_
    refine y_aload_n C dX2_addScrape_23 (lv_at hl 0 rfl) ?_
    refine g2 C hw ho0 3 (by decide) wd_148 rfl dX2_addScrape_24 ?_
    refine y_iload_n C dX2_addScrape_27 (lv_at hl 2 rfl) ?_
    obtain ⟨hg28, h⟩ := gd_some h
    obtain ⟨σ28, eσ28, h⟩ := nx_some h
    refine y_iast C hw (ka2_sums ho0) (i' := zm (σ18 o0 3)) rfl hg28 dX2_addScrape_28 (fun H locs hw => ?_)
    rw [← eσ28] at hw
    refine y_aload_n C dX2_addScrape_29 (lv_at hl 0 rfl) ?_
    refine g2 C hw ho0 2 (by decide) wd_146 rfl dX2_addScrape_30 ?_
    refine y_aload_n C dX2_addScrape_33 (lv_at hl 0 rfl) ?_
    refine g2 C hw ho0 3 (by decide) wd_148 rfl dX2_addScrape_34 ?_
    refine y_iload_n C dX2_addScrape_37 (lv_at hl 3 rfl) ?_
    obtain ⟨hg38, h⟩ := gd_some h
    obtain ⟨hb38, h⟩ := gd_some h
    obtain ⟨σ38, eσ38, h⟩ := nx_some h
    refine y_zast C hw (ka2_asked ho0) (i' := zm (σ28 o0 3)) rfl hg38 hb38 dX2_addScrape_38 (fun H locs hw => ?_)
    rw [← eσ38] at hw
    refine y_aload_n C dX2_addScrape_39 (lv_at hl 0 rfl) ?_
    refine y_dup C dX2_addScrape_40 rfl ?_
    refine g2 C hw ho0 3 (by decide) wd_148 rfl dX2_addScrape_41 ?_
    refine y_iconst C dX2_addScrape_44 ?_
    refine y_iadd C dX2_addScrape_45 ?_
    obtain ⟨σ46, eσ46, h⟩ := nx_some h
    refine q2 C hw ho0 3 (by decide) wd_148 rfl rfl rfl (by decide) ((σ38 o0 3) + 1) 3 rfl rfl dX2_addScrape_46 (fun H locs hw => ?_)
    rw [← eσ46] at hw
    exact y_vret C hw h dX2_addScrape_49
theorem c_X2_addScrape {l : Launch} {D : va_G} {cA : Nat → ClassId} {adK adV : Nat → Nat} {A : Nat → Prop} {ad : Int → Nat} {R : va_W} {σ : St} {res : Int × St} {o0 : Int} {v1 : Int} {v2 : Int} {v3 : Int} (ho0 : kX o0 = (2, 0)) (h : p_X2_addScrape o0 v1 v2 v3 σ = some res) : Met l yX2_addScrape (wsU yX2_addScrape cX2_addScrape 4 none) (rmU 0 0) (va_Pc [.ref (ad o0), .int (zI v1), .int (zI v2), .int (zI v3)] (Pr D cA adK adV ad kX 151 R A σ)) (QV D cA ad kX 151 R A res) 0 0 A :=
  y_met (own := RX2) (by decide) rfl _ (Nat.le_of_ble_eq_true rfl) (fun p e s m args below meth c ls C hl hw => k_X2_addScrape_0 C ho0 hw hl h)
/-! RungHouse$Memory.addYear -/
set_option maxRecDepth 100000 in
set_option maxHeartbeats 4000000 in
theorem k_X2_addYear_0  {o0 : Int} {v1 : Int} {v2 : Int} (C : Cx cX2_addYear RX2 3 none D cA adK adV A p s m args meth c)  {σ : St} {H : Heap} {locs : List Loc} {ls : Array Slot} (ho0 : kX o0 = (2, 0)) (hw : At D cA ad kX 151 R A s σ H locs) (hl : lv_has ls 3 [(0, .ref (ad o0)), (1, .int (zI v1)), (2, .int (zI v2))]) (h : p_X2_addYear  o0 v1 v2 σ = some res) : W p l e (rmU 0 0) s m args below meth c H locs 0 0 (MQ below (QV D cA ad kX 151 R A res) args s 0 0 A) (F0 m 0 ls []) := by
  have h := h
  unfold p_X2_addYear at h
  refine y_aload_n C dX2_addYear_0 (lv_at hl 0 rfl) ?_
  refine g2 C hw ho0 6 (by decide) wd_154 rfl dX2_addYear_1 ?_
  refine y_bipush C dX2_addYear_4 (by decide) ?_
  refine y_icmp_ge (tgt := 39) C (a' := zm (σ o0 6)) (b' := 8) rfl (by decide) dX2_addYear_6 (by decide) (fun hc => ?_) (fun hc => ?_)
  · rw [if_pos hc] at h
    exact y_vret C hw h dX2_addYear_39
  · rw [if_neg hc] at h
    refine y_aload_n C dX2_addYear_9 (lv_at hl 0 rfl) ?_
    refine g2 C hw ho0 4 (by decide) wd_150 rfl dX2_addYear_10 ?_
    refine y_aload_n C dX2_addYear_13 (lv_at hl 0 rfl) ?_
    refine g2 C hw ho0 6 (by decide) wd_154 rfl dX2_addYear_14 ?_
    refine y_iload_n C dX2_addYear_17 (lv_at hl 1 rfl) ?_
    obtain ⟨hg18, h⟩ := gd_some h
    obtain ⟨σ18, eσ18, h⟩ := nx_some h
    refine y_iast C hw (ka2_rungs ho0) (i' := zm (σ o0 6)) rfl hg18 dX2_addYear_18 (fun H locs hw => ?_)
    rw [← eσ18] at hw
    refine y_aload_n C dX2_addYear_19 (lv_at hl 0 rfl) ?_
    refine g2 C hw ho0 5 (by decide) wd_152 rfl dX2_addYear_20 ?_
    refine y_aload_n C dX2_addYear_23 (lv_at hl 0 rfl) ?_
    refine g2 C hw ho0 6 (by decide) wd_154 rfl dX2_addYear_24 ?_
    refine y_iload_n C dX2_addYear_27 (lv_at hl 2 rfl) ?_
    obtain ⟨hg28, h⟩ := gd_some h
    obtain ⟨σ28, eσ28, h⟩ := nx_some h
    refine y_iast C hw (ka2_askings ho0) (i' := zm (σ18 o0 6)) rfl hg28 dX2_addYear_28 (fun H locs hw => ?_)
    rw [← eσ28] at hw
    refine y_aload_n C dX2_addYear_29 (lv_at hl 0 rfl) ?_
    refine y_dup C dX2_addYear_30 rfl ?_
    refine g2 C hw ho0 6 (by decide) wd_154 rfl dX2_addYear_31 ?_
    refine y_iconst C dX2_addYear_34 ?_
    refine y_iadd C dX2_addYear_35 ?_
    obtain ⟨σ36, eσ36, h⟩ := nx_some h
    refine q2 C hw ho0 6 (by decide) wd_154 rfl rfl rfl (by decide) ((σ28 o0 6) + 1) 6 rfl rfl dX2_addYear_36 (fun H locs hw => ?_)
    rw [← eσ36] at hw
    exact y_vret C hw h dX2_addYear_39
theorem c_X2_addYear {l : Launch} {D : va_G} {cA : Nat → ClassId} {adK adV : Nat → Nat} {A : Nat → Prop} {ad : Int → Nat} {R : va_W} {σ : St} {res : Int × St} {o0 : Int} {v1 : Int} {v2 : Int} (ho0 : kX o0 = (2, 0)) (h : p_X2_addYear o0 v1 v2 σ = some res) : Met l yX2_addYear (wsU yX2_addYear cX2_addYear 3 none) (rmU 0 0) (va_Pc [.ref (ad o0), .int (zI v1), .int (zI v2)] (Pr D cA adK adV ad kX 151 R A σ)) (QV D cA ad kX 151 R A res) 0 0 A :=
  y_met (own := RX2) (by decide) rfl _ (Nat.le_of_ble_eq_true rfl) (fun p e s m args below meth c ls C hl hw => k_X2_addYear_0 C ho0 hw hl h)
/-! RungHouse$Memory.highestRung -/
set_option maxRecDepth 100000 in
set_option maxHeartbeats 4000000 in
theorem k_X2_highestRung_4b {K4 : Int → Int → Int → St → Option (Int × St)} {o0 : Int} {v1 : Int} {v2 : Int} (C : Cx cX2_highestRung RX2 3 (some .int) D cA adK adV A p s m args meth c)  (hK4 : ∀ (o0 : Int) (v1 : Int) (v2 : Int) (σ : St) (H : Heap) (locs : List Loc) (ls : Array Slot) (ho0 : kX o0 = (2, 0)), At D cA ad kX 151 R A s σ H locs → lv_has ls 3 [(0, .ref (ad o0)), (1, .int (zI v1)), (2, .int (zI v2))] → K4 o0 v1 v2 σ = some res → W p l e (rmU 1 24) s m args below meth c H locs 0 0 (MQ below (QI D cA ad kX 151 R A res) args s 0 0 A) (F0 m 4 ls [])) {σ : St} {H : Heap} {locs : List Loc} {ls : Array Slot} (ho0 : kX o0 = (2, 0)) (hw : At D cA ad kX 151 R A s σ H locs) (hl : lv_has ls 3 [(0, .ref (ad o0)), (1, .int (zI v1)), (2, .int (zI v2))]) (h : p_X2_highestRung_4b K4 o0 v1 v2 σ = some res) : W p l e (rmU 1 24) s m args below meth c H locs 0 0 (MQ below (QI D cA ad kX 151 R A res) args s 0 0 A) (F0 m 4 ls []) := by
  have h := h
  unfold p_X2_highestRung_4b at h
  refine y_iload_n C dX2_highestRung_4 (lv_at hl 2 rfl) ?_
  refine y_aload_n C dX2_highestRung_5 (lv_at hl 0 rfl) ?_
  refine g2 C hw ho0 6 (by decide) wd_154 rfl dX2_highestRung_6 ?_
  refine y_icmp_ge (tgt := 29) C (a' := zm v2) (b' := zm (σ o0 6)) rfl rfl dX2_highestRung_9 (by decide) (fun hc => ?_) (fun hc => ?_)
  · rw [if_pos hc] at h
    refine y_iload_n C dX2_highestRung_29 (lv_at hl 1 rfl) ?_
    exact y_iret C hw h dX2_highestRung_30
  · rw [if_neg hc] at h
    refine y_iload_n C dX2_highestRung_12 (lv_at hl 1 rfl) ?_
    refine y_aload_n C dX2_highestRung_13 (lv_at hl 0 rfl) ?_
    refine g2 C hw ho0 4 (by decide) wd_150 rfl dX2_highestRung_14 ?_
    refine y_iload_n C dX2_highestRung_17 (lv_at hl 2 rfl) ?_
    obtain ⟨hg18, h⟩ := gd_some h
    refine y_iald C hw (ka2_rungs ho0) (i' := zm v2) rfl hg18 dX2_highestRung_18 ?_
    refine y_max C hl wd_787 wd_574 wd_14 wd_575 (by decide) (Nat.le_of_ble_eq_true rfl) dX2_highestRung_19 ?_
    obtain ⟨z22, ez22, h⟩ := nz_some h
    rw [← ez22]
    refine y_istore_n (lv' := [(1, .int (zI z22)), (0, .ref (ad o0)), (2, .int (zI v2))]) C dX2_highestRung_22 hl (by decide) rfl (fun ls hl => ?_)
    refine y_iinc (lv' := [(2, .int (zI (v2 + 1))), (1, .int (zI z22)), (0, .ref (ad o0))]) C dX2_highestRung_23 hl (k := 2) rfl (by decide) rfl (fun ls hl => ?_)
    refine y_goto (tgt := 4) C dX2_highestRung_26 (by decide) ?_
    exact hK4 _ _ _ _ _ _ _ ho0 hw (lv_sub hl [2, 1, 0] rfl) h
set_option maxRecDepth 100000 in
theorem k_X2_highestRung_4  (C : Cx cX2_highestRung RX2 3 (some .int) D cA adK adV A p s m args meth c)  : ∀ (n : Nat) (o0 : Int) (v1 : Int) (v2 : Int) (σ : St) (H : Heap) (locs : List Loc) (ls : Array Slot) (ho0 : kX o0 = (2, 0)), At D cA ad kX 151 R A s σ H locs → lv_has ls 3 [(0, .ref (ad o0)), (1, .int (zI v1)), (2, .int (zI v2))] → p_X2_highestRung_4  n o0 v1 v2 σ = some res → W p l e (rmU 1 24) s m args below meth c H locs 0 0 (MQ below (QI D cA ad kX 151 R A res) args s 0 0 A) (F0 m 4 ls []) := by
  intro n
  induction n with
  | zero =>
    intro o0 v1 v2 σ H locs ls ho0 hw hl h
    have h : none = some res := h
    cases h
  | succ n ih =>
    intro o0 v1 v2 σ H locs ls ho0 hw hl h
    exact k_X2_highestRung_4b C  ih ho0 hw hl h
set_option maxRecDepth 100000 in
set_option maxHeartbeats 4000000 in
theorem k_X2_highestRung_0  {o0 : Int} (C : Cx cX2_highestRung RX2 3 (some .int) D cA adK adV A p s m args meth c)  {σ : St} {H : Heap} {locs : List Loc} {ls : Array Slot} (ho0 : kX o0 = (2, 0)) (hw : At D cA ad kX 151 R A s σ H locs) (hl : lv_has ls 3 [(0, .ref (ad o0))]) (h : p_X2_highestRung  o0 σ = some res) : W p l e (rmU 1 24) s m args below meth c H locs 0 0 (MQ below (QI D cA ad kX 151 R A res) args s 0 0 A) (F0 m 0 ls []) := by
  have h := h
  unfold p_X2_highestRung at h
  refine y_iconst C dX2_highestRung_0 ?_
  refine y_istore_n (lv' := [(1, .int (zI (-1))), (0, .ref (ad o0))]) C dX2_highestRung_1 hl (by decide) rfl (fun ls hl => ?_)
  refine y_iconst C dX2_highestRung_2 ?_
  refine y_istore_n (lv' := [(2, .int (zI 0)), (1, .int (zI (-1))), (0, .ref (ad o0))]) C dX2_highestRung_3 hl (by decide) rfl (fun ls hl => ?_)
  exact k_X2_highestRung_4 C  FU _ _ _ _ _ _ _ ho0 hw (lv_sub hl [2, 1, 0] rfl) h
theorem c_X2_highestRung {l : Launch} {D : va_G} {cA : Nat → ClassId} {adK adV : Nat → Nat} {A : Nat → Prop} {ad : Int → Nat} {R : va_W} {σ : St} {res : Int × St} {o0 : Int} (ho0 : kX o0 = (2, 0)) (h : p_X2_highestRung o0 σ = some res) : Met l yX2_highestRung (wsU yX2_highestRung cX2_highestRung 3 (some .int)) (rmU 1 24) (va_Pc [.ref (ad o0)] (Pr D cA adK adV ad kX 151 R A σ)) (QI D cA ad kX 151 R A res) 0 0 A :=
  y_met (own := RX2) (by decide) rfl _ (Nat.le_of_ble_eq_true rfl) (fun p e s m args below meth c ls C hl hw => k_X2_highestRung_0 C ho0 hw hl h)
/-! RungHouse$Memory.draw -/
set_option maxRecDepth 100000 in
set_option maxHeartbeats 4000000 in
theorem k_X2_draw_0  {o0 : Int} {v1 : Int} (C : Cx cX2_draw RX2 2 (some .int) D cA adK adV A p s m args meth c)  {σ : St} {H : Heap} {locs : List Loc} {ls : Array Slot} (ho0 : kX o0 = (2, 0)) (hw : At D cA ad kX 151 R A s σ H locs) (hl : lv_has ls 2 [(0, .ref (ad o0)), (1, .int (zI v1))]) (h : p_X2_draw  o0 v1 σ = some res) : W p l e (rmU 0 0) s m args below meth c H locs 0 0 (MQ below (QI D cA ad kX 151 R A res) args s 0 0 A) (F0 m 0 ls []) := by
  have h := h
  unfold p_X2_draw at h
  refine y_aload_n C dX2_draw_0 (lv_at hl 0 rfl) ?_
  refine y_aload_n C dX2_draw_1 (lv_at hl 0 rfl) ?_
  refine g2 C hw ho0 7 (by decide) wd_156 rfl dX2_draw_2 ?_
  refine y_i2l C rfl dX2_draw_5 ?_
  refine y_ldc2 C (z := 1103515245) wd_840 (by decide) dX2_draw_6 ?_
  refine y_lmul C dX2_draw_9 ?_
  refine y_ldc2 C (z := 12345) wd_841 (by decide) dX2_draw_10 ?_
  refine y_ladd C dX2_draw_13 ?_
  refine y_ldc2 C (z := 2147483647) wd_842 (by decide) dX2_draw_14 ?_
  refine y_land C dX2_draw_17 ?_
  refine y_l2i C dX2_draw_18 ?_
  obtain ⟨σ19, eσ19, h⟩ := nx_some h
  refine q2 C hw ho0 7 (by decide) wd_156 rfl rfl rfl (by decide) (zland (((zm (σ o0 7)) * 1103515245) + 12345) 2147483647) 7 rfl rfl dX2_draw_19 (fun H locs hw => ?_)
  rw [← eσ19] at hw
  refine y_iload_n C dX2_draw_22 (lv_at hl 1 rfl) ?_
  refine y_if_le (tgt := 38) C (a' := zm v1) rfl dX2_draw_23 (by decide) (fun hc => ?_) (fun hc => ?_)
  · rw [if_pos hc] at h
    refine y_iconst C dX2_draw_38 ?_
    exact y_iret C hw h dX2_draw_39
  · rw [if_neg hc] at h
    refine y_aload_n C dX2_draw_26 (lv_at hl 0 rfl) ?_
    refine g2 C hw ho0 7 (by decide) wd_156 rfl dX2_draw_27 ?_
    refine y_ldc C (z := 65536) wd_843 (by decide) dX2_draw_30 ?_
    refine y_idiv C (b' := 65536) (by decide) (by decide) dX2_draw_32 ?_
    refine y_iload_n C dX2_draw_33 (lv_at hl 1 rfl) ?_
    obtain ⟨hg34, h⟩ := gd_some h
    refine y_irem C (b' := zm v1) rfl hg34 dX2_draw_34 ?_
    refine y_goto (tgt := 39) C dX2_draw_35 (by decide) ?_
    exact y_iret C hw h dX2_draw_39
theorem c_X2_draw {l : Launch} {D : va_G} {cA : Nat → ClassId} {adK adV : Nat → Nat} {A : Nat → Prop} {ad : Int → Nat} {R : va_W} {σ : St} {res : Int × St} {o0 : Int} {v1 : Int} (ho0 : kX o0 = (2, 0)) (h : p_X2_draw o0 v1 σ = some res) : Met l yX2_draw (wsU yX2_draw cX2_draw 2 (some .int)) (rmU 0 0) (va_Pc [.ref (ad o0), .int (zI v1)] (Pr D cA adK adV ad kX 151 R A σ)) (QI D cA ad kX 151 R A res) 0 0 A :=
  y_met (own := RX2) (by decide) rfl _ (Nat.le_of_ble_eq_true rfl) (fun p e s m args below meth c ls C hl hw => k_X2_draw_0 C ho0 hw hl h)
/-! RungHouse$Memory.copyFrom -/
set_option maxRecDepth 100000 in
set_option maxHeartbeats 4000000 in
theorem k_X2_copyFrom_60b {K60 : Int → Int → Int → St → Option (Int × St)} {o0 : Int} {o1 : Int} {v2 : Int} (C : Cx cX2_copyFrom RX2 3 none D cA adK adV A p s m args meth c)  (hK60 : ∀ (o0 : Int) (o1 : Int) (v2 : Int) (σ : St) (H : Heap) (locs : List Loc) (ls : Array Slot) (ho0 : kX o0 = (2, 0)) (ho1 : kX o1 = (2, 0)), At D cA ad kX 151 R A s σ H locs → lv_has ls 3 [(0, .ref (ad o0)), (1, .ref (ad o1)), (2, .int (zI v2))] → K60 o0 o1 v2 σ = some res → W p l e (rmU 0 0) s m args below meth c H locs 0 0 (MQ below (QV D cA ad kX 151 R A res) args s 0 0 A) (F0 m 60 ls [])) {σ : St} {H : Heap} {locs : List Loc} {ls : Array Slot} (ho0 : kX o0 = (2, 0)) (ho1 : kX o1 = (2, 0)) (hw : At D cA ad kX 151 R A s σ H locs) (hl : lv_has ls 3 [(0, .ref (ad o0)), (1, .ref (ad o1)), (2, .int (zI v2))]) (h : p_X2_copyFrom_60b K60 o0 o1 v2 σ = some res) : W p l e (rmU 0 0) s m args below meth c H locs 0 0 (MQ below (QV D cA ad kX 151 R A res) args s 0 0 A) (F0 m 60 ls []) := by
  have h := h
  unfold p_X2_copyFrom_60b at h
  refine y_iload_n C dX2_copyFrom_60 (lv_at hl 2 rfl) ?_
  refine y_bipush C dX2_copyFrom_61 (by decide) ?_
  refine y_icmp_ge (tgt := 96) C (a' := zm v2) (b' := 8) rfl (by decide) dX2_copyFrom_63 (by decide) (fun hc => ?_) (fun hc => ?_)
  · rw [if_pos hc] at h
    refine y_aload_n C dX2_copyFrom_96 (lv_at hl 0 rfl) ?_
    refine y_aload_n C dX2_copyFrom_97 (lv_at hl 1 rfl) ?_
    refine g2 C hw ho1 6 (by decide) wd_154 rfl dX2_copyFrom_98 ?_
    obtain ⟨σ101, eσ101, h⟩ := nx_some h
    refine q2 C hw ho0 6 (by decide) wd_154 rfl rfl rfl (by decide) (σ o1 6) 6 rfl rfl dX2_copyFrom_101 (fun H locs hw => ?_)
    rw [← eσ101] at hw
    refine y_aload_n C dX2_copyFrom_104 (lv_at hl 0 rfl) ?_
    refine y_aload_n C dX2_copyFrom_105 (lv_at hl 1 rfl) ?_
    refine g2 C hw ho1 7 (by decide) wd_156 rfl dX2_copyFrom_106 ?_
    obtain ⟨σ109, eσ109, h⟩ := nx_some h
    refine q2 C hw ho0 7 (by decide) wd_156 rfl rfl rfl (by decide) (σ101 o1 7) 7 rfl rfl dX2_copyFrom_109 (fun H locs hw => ?_)
    rw [← eσ109] at hw
    exact y_vret C hw h dX2_copyFrom_112
  · rw [if_neg hc] at h
    refine y_aload_n C dX2_copyFrom_66 (lv_at hl 0 rfl) ?_
    refine g2 C hw ho0 4 (by decide) wd_150 rfl dX2_copyFrom_67 ?_
    refine y_iload_n C dX2_copyFrom_70 (lv_at hl 2 rfl) ?_
    refine y_aload_n C dX2_copyFrom_71 (lv_at hl 1 rfl) ?_
    refine g2 C hw ho1 4 (by decide) wd_150 rfl dX2_copyFrom_72 ?_
    refine y_iload_n C dX2_copyFrom_75 (lv_at hl 2 rfl) ?_
    obtain ⟨hg76, h⟩ := gd_some h
    refine y_iald C hw (ka2_rungs ho1) (i' := zm v2) rfl hg76 dX2_copyFrom_76 ?_
    obtain ⟨σ77, eσ77, h⟩ := nx_some h
    refine y_iast C hw (ka2_rungs ho0) (i' := zm v2) rfl hg76 dX2_copyFrom_77 (fun H locs hw => ?_)
    rw [← eσ77] at hw
    refine y_aload_n C dX2_copyFrom_78 (lv_at hl 0 rfl) ?_
    refine g2 C hw ho0 5 (by decide) wd_152 rfl dX2_copyFrom_79 ?_
    refine y_iload_n C dX2_copyFrom_82 (lv_at hl 2 rfl) ?_
    refine y_aload_n C dX2_copyFrom_83 (lv_at hl 1 rfl) ?_
    refine g2 C hw ho1 5 (by decide) wd_152 rfl dX2_copyFrom_84 ?_
    refine y_iload_n C dX2_copyFrom_87 (lv_at hl 2 rfl) ?_
    refine y_iald C hw (ka2_askings ho1) (i' := zm v2) rfl hg76 dX2_copyFrom_88 ?_
    obtain ⟨σ89, eσ89, h⟩ := nx_some h
    refine y_iast C hw (ka2_askings ho0) (i' := zm v2) rfl hg76 dX2_copyFrom_89 (fun H locs hw => ?_)
    rw [← eσ89] at hw
    refine y_iinc (lv' := [(2, .int (zI (v2 + 1))), (0, .ref (ad o0)), (1, .ref (ad o1))]) C dX2_copyFrom_90 hl (k := 2) rfl (by decide) rfl (fun ls hl => ?_)
    refine y_goto (tgt := 60) C dX2_copyFrom_93 (by decide) ?_
    exact hK60 _ _ _ _ _ _ _ ho0 ho1 hw (lv_sub hl [1, 2, 0] rfl) h
set_option maxRecDepth 100000 in
theorem k_X2_copyFrom_60  (C : Cx cX2_copyFrom RX2 3 none D cA adK adV A p s m args meth c)  : ∀ (n : Nat) (o0 : Int) (o1 : Int) (v2 : Int) (σ : St) (H : Heap) (locs : List Loc) (ls : Array Slot) (ho0 : kX o0 = (2, 0)) (ho1 : kX o1 = (2, 0)), At D cA ad kX 151 R A s σ H locs → lv_has ls 3 [(0, .ref (ad o0)), (1, .ref (ad o1)), (2, .int (zI v2))] → p_X2_copyFrom_60  n o0 o1 v2 σ = some res → W p l e (rmU 0 0) s m args below meth c H locs 0 0 (MQ below (QV D cA ad kX 151 R A res) args s 0 0 A) (F0 m 60 ls []) := by
  intro n
  induction n with
  | zero =>
    intro o0 o1 v2 σ H locs ls ho0 ho1 hw hl h
    have h : none = some res := h
    cases h
  | succ n ih =>
    intro o0 o1 v2 σ H locs ls ho0 ho1 hw hl h
    exact k_X2_copyFrom_60b C  ih ho0 ho1 hw hl h
set_option maxRecDepth 100000 in
set_option maxHeartbeats 4000000 in
theorem k_X2_copyFrom_2b {K2 : Int → Int → Int → St → Option (Int × St)} {o0 : Int} {o1 : Int} {v2 : Int} (C : Cx cX2_copyFrom RX2 3 none D cA adK adV A p s m args meth c)  (hK2 : ∀ (o0 : Int) (o1 : Int) (v2 : Int) (σ : St) (H : Heap) (locs : List Loc) (ls : Array Slot) (ho0 : kX o0 = (2, 0)) (ho1 : kX o1 = (2, 0)), At D cA ad kX 151 R A s σ H locs → lv_has ls 3 [(0, .ref (ad o0)), (1, .ref (ad o1)), (2, .int (zI v2))] → K2 o0 o1 v2 σ = some res → W p l e (rmU 0 0) s m args below meth c H locs 0 0 (MQ below (QV D cA ad kX 151 R A res) args s 0 0 A) (F0 m 2 ls [])) {σ : St} {H : Heap} {locs : List Loc} {ls : Array Slot} (ho0 : kX o0 = (2, 0)) (ho1 : kX o1 = (2, 0)) (hw : At D cA ad kX 151 R A s σ H locs) (hl : lv_has ls 3 [(0, .ref (ad o0)), (1, .ref (ad o1)), (2, .int (zI v2))]) (h : p_X2_copyFrom_2b K2 o0 o1 v2 σ = some res) : W p l e (rmU 0 0) s m args below meth c H locs 0 0 (MQ below (QV D cA ad kX 151 R A res) args s 0 0 A) (F0 m 2 ls []) := by
  have h := h
  unfold p_X2_copyFrom_2b at h
  refine y_iload_n C dX2_copyFrom_2 (lv_at hl 2 rfl) ?_
  refine y_bipush C dX2_copyFrom_3 (by decide) ?_
  refine y_icmp_ge (tgt := 50) C (a' := zm v2) (b' := 12) rfl (by decide) dX2_copyFrom_5 (by decide) (fun hc => ?_) (fun hc => ?_)
  · rw [if_pos hc] at h
    refine y_aload_n C dX2_copyFrom_50 (lv_at hl 0 rfl) ?_
    refine y_aload_n C dX2_copyFrom_51 (lv_at hl 1 rfl) ?_
    refine g2 C hw ho1 3 (by decide) wd_148 rfl dX2_copyFrom_52 ?_
    obtain ⟨σ55, eσ55, h⟩ := nx_some h
    refine q2 C hw ho0 3 (by decide) wd_148 rfl rfl rfl (by decide) (σ o1 3) 3 rfl rfl dX2_copyFrom_55 (fun H locs hw => ?_)
    rw [← eσ55] at hw
    refine y_iconst C dX2_copyFrom_58 ?_
    refine y_istore_n (lv' := [(2, .int (zI 0)), (0, .ref (ad o0)), (1, .ref (ad o1))]) C dX2_copyFrom_59 hl (by decide) rfl (fun ls hl => ?_)
    exact k_X2_copyFrom_60 C  FU _ _ _ _ _ _ _ ho0 ho1 hw (lv_sub hl [1, 2, 0] rfl) h
  · rw [if_neg hc] at h
    refine y_aload_n C dX2_copyFrom_8 (lv_at hl 0 rfl) ?_
    refine g2 C hw ho0 0 (by decide) wd_142 rfl dX2_copyFrom_9 ?_
    refine y_iload_n C dX2_copyFrom_12 (lv_at hl 2 rfl) ?_
    refine y_aload_n C dX2_copyFrom_13 (lv_at hl 1 rfl) ?_
    refine g2 C hw ho1 0 (by decide) wd_142 rfl dX2_copyFrom_14 ?_
    refine y_iload_n C dX2_copyFrom_17 (lv_at hl 2 rfl) ?_
    obtain ⟨hg18, h⟩ := gd_some h
    refine y_iald C hw (ka2_months ho1) (i' := zm v2) rfl hg18 dX2_copyFrom_18 ?_
    obtain ⟨σ19, eσ19, h⟩ := nx_some h
    refine y_iast C hw (ka2_months ho0) (i' := zm v2) rfl hg18 dX2_copyFrom_19 (fun H locs hw => ?_)
    rw [← eσ19] at hw
    refine y_aload_n C dX2_copyFrom_20 (lv_at hl 0 rfl) ?_
    refine g2 C hw ho0 1 (by decide) wd_144 rfl dX2_copyFrom_21 ?_
    refine y_iload_n C dX2_copyFrom_24 (lv_at hl 2 rfl) ?_
    refine y_aload_n C dX2_copyFrom_25 (lv_at hl 1 rfl) ?_
    refine g2 C hw ho1 1 (by decide) wd_144 rfl dX2_copyFrom_26 ?_
    refine y_iload_n C dX2_copyFrom_29 (lv_at hl 2 rfl) ?_
    refine y_iald C hw (ka2_sums ho1) (i' := zm v2) rfl hg18 dX2_copyFrom_30 ?_
    obtain ⟨σ31, eσ31, h⟩ := nx_some h
    refine y_iast C hw (ka2_sums ho0) (i' := zm v2) rfl hg18 dX2_copyFrom_31 (fun H locs hw => ?_)
    rw [← eσ31] at hw
    refine y_aload_n C dX2_copyFrom_32 (lv_at hl 0 rfl) ?_
    refine g2 C hw ho0 2 (by decide) wd_146 rfl dX2_copyFrom_33 ?_
    refine y_iload_n C dX2_copyFrom_36 (lv_at hl 2 rfl) ?_
    refine y_aload_n C dX2_copyFrom_37 (lv_at hl 1 rfl) ?_
    refine g2 C hw ho1 2 (by decide) wd_146 rfl dX2_copyFrom_38 ?_
    refine y_iload_n C dX2_copyFrom_41 (lv_at hl 2 rfl) ?_
    refine y_zald C hw (ka2_asked ho1) (i' := zm v2) rfl hg18 dX2_copyFrom_42 ?_
    obtain ⟨hb43, h⟩ := gd_some h
    obtain ⟨σ43, eσ43, h⟩ := nx_some h
    refine y_zast C hw (ka2_asked ho0) (i' := zm v2) rfl hg18 hb43 dX2_copyFrom_43 (fun H locs hw => ?_)
    rw [← eσ43] at hw
    refine y_iinc (lv' := [(2, .int (zI (v2 + 1))), (0, .ref (ad o0)), (1, .ref (ad o1))]) C dX2_copyFrom_44 hl (k := 2) rfl (by decide) rfl (fun ls hl => ?_)
    refine y_goto (tgt := 2) C dX2_copyFrom_47 (by decide) ?_
    exact hK2 _ _ _ _ _ _ _ ho0 ho1 hw (lv_sub hl [1, 2, 0] rfl) h
set_option maxRecDepth 100000 in
theorem k_X2_copyFrom_2  (C : Cx cX2_copyFrom RX2 3 none D cA adK adV A p s m args meth c)  : ∀ (n : Nat) (o0 : Int) (o1 : Int) (v2 : Int) (σ : St) (H : Heap) (locs : List Loc) (ls : Array Slot) (ho0 : kX o0 = (2, 0)) (ho1 : kX o1 = (2, 0)), At D cA ad kX 151 R A s σ H locs → lv_has ls 3 [(0, .ref (ad o0)), (1, .ref (ad o1)), (2, .int (zI v2))] → p_X2_copyFrom_2  n o0 o1 v2 σ = some res → W p l e (rmU 0 0) s m args below meth c H locs 0 0 (MQ below (QV D cA ad kX 151 R A res) args s 0 0 A) (F0 m 2 ls []) := by
  intro n
  induction n with
  | zero =>
    intro o0 o1 v2 σ H locs ls ho0 ho1 hw hl h
    have h : none = some res := h
    cases h
  | succ n ih =>
    intro o0 o1 v2 σ H locs ls ho0 ho1 hw hl h
    exact k_X2_copyFrom_2b C  ih ho0 ho1 hw hl h
set_option maxRecDepth 100000 in
set_option maxHeartbeats 4000000 in
theorem k_X2_copyFrom_0  {o0 : Int} {o1 : Int} (C : Cx cX2_copyFrom RX2 3 none D cA adK adV A p s m args meth c)  {σ : St} {H : Heap} {locs : List Loc} {ls : Array Slot} (ho0 : kX o0 = (2, 0)) (ho1 : kX o1 = (2, 0)) (hw : At D cA ad kX 151 R A s σ H locs) (hl : lv_has ls 3 [(0, .ref (ad o0)), (1, .ref (ad o1))]) (h : p_X2_copyFrom  o0 o1 σ = some res) : W p l e (rmU 0 0) s m args below meth c H locs 0 0 (MQ below (QV D cA ad kX 151 R A res) args s 0 0 A) (F0 m 0 ls []) := by
  have h := h
  unfold p_X2_copyFrom at h
  refine y_iconst C dX2_copyFrom_0 ?_
  refine y_istore_n (lv' := [(2, .int (zI 0)), (0, .ref (ad o0)), (1, .ref (ad o1))]) C dX2_copyFrom_1 hl (by decide) rfl (fun ls hl => ?_)
  exact k_X2_copyFrom_2 C  FU _ _ _ _ _ _ _ ho0 ho1 hw (lv_sub hl [1, 2, 0] rfl) h
theorem c_X2_copyFrom {l : Launch} {D : va_G} {cA : Nat → ClassId} {adK adV : Nat → Nat} {A : Nat → Prop} {ad : Int → Nat} {R : va_W} {σ : St} {res : Int × St} {o0 : Int} {o1 : Int} (ho0 : kX o0 = (2, 0)) (ho1 : kX o1 = (2, 0)) (h : p_X2_copyFrom o0 o1 σ = some res) : Met l yX2_copyFrom (wsU yX2_copyFrom cX2_copyFrom 3 none) (rmU 0 0) (va_Pc [.ref (ad o0), .ref (ad o1)] (Pr D cA adK adV ad kX 151 R A σ)) (QV D cA ad kX 151 R A res) 0 0 A :=
  y_met (own := RX2) (by decide) rfl _ (Nat.le_of_ble_eq_true rfl) (fun p e s m args below meth c ls C hl hw => k_X2_copyFrom_0 C ho0 ho1 hw hl h)
/-! RungHouse$Plan.begin -/
set_option maxRecDepth 100000 in
set_option maxHeartbeats 4000000 in
theorem k_X3_begin_0  {o0 : Int} {o1 : Int} {o2 : Int} {n3 : Int} (C : Cx cX3_begin RX3 4 none D cA adK adV A p s m args meth c)  {σ : St} {H : Heap} {locs : List Loc} {ls : Array Slot} (ho0 : kX o0 = (3, 0)) (ho1 : kX o1 = (6, 0)) (ho2 : kX o2 = (0, 0)) (hw : At D cA ad kX 151 R A s σ H locs) (hl : lv_has ls 4 [(0, .ref (ad o0)), (1, .ref (ad o1)), (2, .ref (ad o2)), (3, rv ad n3)]) (h : p_X3_begin  o0 o1 o2 n3 σ = some res) : W p l e (rmU 0 0) s m args below meth c H locs 0 0 (MQ below (QV D cA ad kX 151 R A res) args s 0 0 A) (F0 m 0 ls []) := by
  have h := h
  unfold p_X3_begin at h
  refine y_aload_n C dX3_begin_0 (lv_at hl 0 rfl) ?_
  refine y_aload_n C dX3_begin_1 (lv_at hl 1 rfl) ?_
  obtain ⟨σ2, eσ2, h⟩ := nx_some h
  rw [← rv_ref (ad := ad) (kX_in _ (by rw [ho1]; decide)).1]
  refine q3 C hw ho0 0 (by decide) wd_228 rfl rv_nar rv_fit (by decide) o1 0 rfl rfl dX3_begin_2 (fun H locs hw => ?_)
  rw [← eσ2] at hw
  refine y_aload_n C dX3_begin_5 (lv_at hl 0 rfl) ?_
  refine y_aload_n C dX3_begin_6 (lv_at hl 2 rfl) ?_
  obtain ⟨σ7, eσ7, h⟩ := nx_some h
  rw [← rv_ref (ad := ad) (kX_in _ (by rw [ho2]; decide)).1]
  refine q3 C hw ho0 1 (by decide) wd_229 rfl rv_nar rv_fit (by decide) o2 1 rfl rfl dX3_begin_7 (fun H locs hw => ?_)
  rw [← eσ7] at hw
  refine y_aload_n C dX3_begin_10 (lv_at hl 0 rfl) ?_
  refine y_aloadV_n C dX3_begin_11 (lv_at hl 3 rfl) ?_
  obtain ⟨σ12, eσ12, h⟩ := nx_some h
  refine q3 C hw ho0 2 (by decide) wd_231 rfl rv_nar rv_fit (by decide) n3 2 rfl rfl dX3_begin_12 (fun H locs hw => ?_)
  rw [← eσ12] at hw
  refine y_aload_n C dX3_begin_15 (lv_at hl 0 rfl) ?_
  refine y_iconst C dX3_begin_16 ?_
  obtain ⟨σ17, eσ17, h⟩ := nx_some h
  refine q3 C hw ho0 5 (by decide) wd_235 rfl rfl rfl (by decide) 0 5 rfl rfl dX3_begin_17 (fun H locs hw => ?_)
  rw [← eσ17] at hw
  exact y_vret C hw h dX3_begin_20
theorem c_X3_begin {l : Launch} {D : va_G} {cA : Nat → ClassId} {adK adV : Nat → Nat} {A : Nat → Prop} {ad : Int → Nat} {R : va_W} {σ : St} {res : Int × St} {o0 : Int} {o1 : Int} {o2 : Int} {n3 : Int} (ho0 : kX o0 = (3, 0)) (ho1 : kX o1 = (6, 0)) (ho2 : kX o2 = (0, 0)) (h : p_X3_begin o0 o1 o2 n3 σ = some res) : Met l yX3_begin (wsU yX3_begin cX3_begin 4 none) (rmU 0 0) (va_Pc [.ref (ad o0), .ref (ad o1), .ref (ad o2), rv ad n3] (Pr D cA adK adV ad kX 151 R A σ)) (QV D cA ad kX 151 R A res) 0 0 A :=
  y_met (own := RX3) (by decide) rfl _ (by unfold rv; split <;> exact Nat.le_of_ble_eq_true rfl) (fun p e s m args below meth c ls C hl hw => k_X3_begin_0 C ho0 ho1 ho2 hw hl h)
/-! RungHouse$Plan.forget -/
set_option maxRecDepth 100000 in
set_option maxHeartbeats 4000000 in
theorem k_X3_forget_0  {o0 : Int} (C : Cx cX3_forget RX3 1 none D cA adK adV A p s m args meth c)  {σ : St} {H : Heap} {locs : List Loc} {ls : Array Slot} (ho0 : kX o0 = (3, 0)) (hw : At D cA ad kX 151 R A s σ H locs) (hl : lv_has ls 1 [(0, .ref (ad o0))]) (h : p_X3_forget  o0 σ = some res) : W p l e (rmU 0 0) s m args below meth c H locs 0 0 (MQ below (QV D cA ad kX 151 R A res) args s 0 0 A) (F0 m 0 ls []) := by
  have h := h
  unfold p_X3_forget at h
  refine y_aload_n C dX3_forget_0 (lv_at hl 0 rfl) ?_
  refine y_iconst C dX3_forget_1 ?_
  obtain ⟨σ2, eσ2, h⟩ := nx_some h
  refine q3 C hw ho0 5 (by decide) wd_235 rfl rfl rfl (by decide) 0 5 rfl rfl dX3_forget_2 (fun H locs hw => ?_)
  rw [← eσ2] at hw
  exact y_vret C hw h dX3_forget_5
theorem c_X3_forget {l : Launch} {D : va_G} {cA : Nat → ClassId} {adK adV : Nat → Nat} {A : Nat → Prop} {ad : Int → Nat} {R : va_W} {σ : St} {res : Int × St} {o0 : Int} (ho0 : kX o0 = (3, 0)) (h : p_X3_forget o0 σ = some res) : Met l yX3_forget (wsU yX3_forget cX3_forget 1 none) (rmU 0 0) (va_Pc [.ref (ad o0)] (Pr D cA adK adV ad kX 151 R A σ)) (QV D cA ad kX 151 R A res) 0 0 A :=
  y_met (own := RX3) (by decide) rfl _ (Nat.le_of_ble_eq_true rfl) (fun p e s m args below meth c ls C hl hw => k_X3_forget_0 C ho0 hw hl h)
/-! RungHouse$Plan.reckonCost -/
set_option maxRecDepth 100000 in
set_option maxHeartbeats 4000000 in
theorem k_X3_reckonCost_141  {os0 : Int} {vs1 : Int} {vs2 : Int} {vs3 : Int} (C : Cx cX3_reckonCost RX3 6 none D cA adK adV A p s m args meth c)  {σ : St} {H : Heap} {locs : List Loc} {ls : Array Slot} (hos0 : kX os0 = (20, 31)) (hw : At D cA ad kX 151 R A s σ H locs) (hl : lv_has ls 6 []) (h : p_X3_reckonCost_141  os0 vs1 vs2 vs3 σ = some res) : W p l e (rmU 3 75) s m args below meth c H locs 0 0 (MQ below (QV D cA ad kX 151 R A res) args s 0 0 A) (F0 m 141 ls [.int (zI vs3), .int (zI vs2), .int (zI vs1), .ref (ad os0)]) := by
  have h := h
  unfold p_X3_reckonCost_141 at h
  refine y_ior C dX3_reckonCost_141 ?_
  obtain ⟨hg142, h⟩ := gd_some h
  obtain ⟨σ142, eσ142, h⟩ := nx_some h
  refine y_iast C hw hos0 (i' := zm vs1) rfl hg142 dX3_reckonCost_142 (fun H locs hw => ?_)
  rw [← eσ142] at hw
  exact y_vret C hw h dX3_reckonCost_143
set_option maxRecDepth 100000 in
set_option maxHeartbeats 4000000 in
theorem k_X3_reckonCost_86  {o0 : Int} {v1 : Int} {v2 : Int} {v3 : Int} {v4 : Int} (C : Cx cX3_reckonCost RX3 6 none D cA adK adV A p s m args meth c)  {σ : St} {H : Heap} {locs : List Loc} {ls : Array Slot} (ho0 : kX o0 = (3, 0)) (hw : At D cA ad kX 151 R A s σ H locs) (hl : lv_has ls 6 [(0, .ref (ad o0)), (1, .int (zI v1)), (2, .int (zI v2)), (3, .int (zI v3)), (4, .int (zI v4))]) (h : p_X3_reckonCost_86  o0 v1 v2 v3 v4 σ = some res) : W p l e (rmU 3 75) s m args below meth c H locs 0 0 (MQ below (QV D cA ad kX 151 R A res) args s 0 0 A) (F0 m 86 ls []) := by
  have h := h
  unfold p_X3_reckonCost_86 at h
  refine y_aload_n C dX3_reckonCost_86 (lv_at hl 0 rfl) ?_
  refine g3 C hw ho0 3 (by decide) wd_233 rfl dX3_reckonCost_87 ?_
  refine y_iload_n C dX3_reckonCost_90 (lv_at hl 1 rfl) ?_
  refine y_bipush C dX3_reckonCost_91 (by decide) ?_
  refine y_imul C dX3_reckonCost_93 ?_
  refine y_iload_n C dX3_reckonCost_94 (lv_at hl 2 rfl) ?_
  refine y_iadd C dX3_reckonCost_95 ?_
  refine y_aload_n C dX3_reckonCost_96 (lv_at hl 0 rfl) ?_
  obtain ⟨hg97, h⟩ := gd_some h
  refine g3 C hw ho0 1 (by decide) wd_229 rfl dX3_reckonCost_97 ?_
  rw [rv_ref (kX_in _ (by rw [hg97]; decide)).1]
  refine g0 C hw hg97 0 (by decide) wd_82 rfl dX3_reckonCost_100 ?_
  refine y_iload_n C dX3_reckonCost_103 (lv_at hl 2 rfl) ?_
  obtain ⟨hg104, h⟩ := gd_some h
  refine y_iald C hw (ka0_prices hg97) (i' := zm v2) rfl hg104 dX3_reckonCost_104 ?_
  refine y_sipush C dX3_reckonCost_105 (by decide) ?_
  refine y_imul C dX3_reckonCost_108 ?_
  refine y_iload_n C dX3_reckonCost_109 (lv_at hl 3 rfl) ?_
  refine y_iadd C dX3_reckonCost_110 ?_
  obtain ⟨hg111, h⟩ := gd_some h
  obtain ⟨σ111, eσ111, h⟩ := nx_some h
  refine y_iast C hw (ka3_costs ho0) (i' := zm ((v1 * 10) + v2)) rfl hg111 dX3_reckonCost_111 (fun H locs hw => ?_)
  rw [← eσ111] at hw
  refine y_aload_n C dX3_reckonCost_112 (lv_at hl 0 rfl) ?_
  refine g3 C hw ho0 4 (by decide) wd_234 rfl dX3_reckonCost_113 ?_
  refine y_iload_n C dX3_reckonCost_116 (lv_at hl 1 rfl) ?_
  refine y_aload_n C dX3_reckonCost_117 (lv_at hl 0 rfl) ?_
  refine g3 C hw ho0 4 (by decide) wd_234 rfl dX3_reckonCost_118 ?_
  refine y_iload_n C dX3_reckonCost_121 (lv_at hl 1 rfl) ?_
  obtain ⟨hg122, h⟩ := gd_some h
  refine y_iald C hw (ka3_painedRungs ho0) (i' := zm v1) rfl hg122 dX3_reckonCost_122 ?_
  refine y_iconst C dX3_reckonCost_123 ?_
  refine y_iload_n C dX3_reckonCost_124 (lv_at hl 2 rfl) ?_
  refine y_ishl C dX3_reckonCost_125 ?_
  refine y_iconst C dX3_reckonCost_126 ?_
  refine y_ixor C dX3_reckonCost_127 ?_
  refine y_iand C dX3_reckonCost_128 ?_
  refine y_iload C dX3_reckonCost_129 (lv_at hl 4 rfl) ?_
  refine y_if_eq (tgt := 140) C (a' := zm v4) rfl dX3_reckonCost_131 (by decide) (fun hc => ?_) (fun hc => ?_)
  · rw [if_pos hc] at h
    refine y_iconst C dX3_reckonCost_140 ?_
    exact k_X3_reckonCost_141 C  (ka3_painedRungs ho0) hw (lv_sub hl [] rfl) h
  · rw [if_neg hc] at h
    refine y_iconst C dX3_reckonCost_134 ?_
    refine y_iload_n C dX3_reckonCost_135 (lv_at hl 2 rfl) ?_
    refine y_ishl C dX3_reckonCost_136 ?_
    refine y_goto (tgt := 141) C dX3_reckonCost_137 (by decide) ?_
    exact k_X3_reckonCost_141 C  (ka3_painedRungs ho0) hw (lv_sub hl [] rfl) h
set_option maxRecDepth 100000 in
set_option maxHeartbeats 4000000 in
theorem k_X3_reckonCost_85  {o0 : Int} {v1 : Int} {v2 : Int} {v4 : Int} {vs0 : Int} (C : Cx cX3_reckonCost RX3 6 none D cA adK adV A p s m args meth c)  {σ : St} {H : Heap} {locs : List Loc} {ls : Array Slot} (ho0 : kX o0 = (3, 0)) (hw : At D cA ad kX 151 R A s σ H locs) (hl : lv_has ls 6 [(0, .ref (ad o0)), (1, .int (zI v1)), (2, .int (zI v2)), (4, .int (zI v4))]) (h : p_X3_reckonCost_85  o0 v1 v2 v4 vs0 σ = some res) : W p l e (rmU 3 75) s m args below meth c H locs 0 0 (MQ below (QV D cA ad kX 151 R A res) args s 0 0 A) (F0 m 85 ls [.int (zI vs0)]) := by
  have h := h
  unfold p_X3_reckonCost_85 at h
  refine y_istore_n (lv' := [(3, .int (zI vs0)), (0, .ref (ad o0)), (1, .int (zI v1)), (2, .int (zI v2)), (4, .int (zI v4))]) C dX3_reckonCost_85 hl (by decide) rfl (fun ls hl => ?_)
  exact k_X3_reckonCost_86 C  ho0 hw (lv_sub hl [1, 2, 3, 0, 4] rfl) h
set_option maxRecDepth 100000 in
set_option maxHeartbeats 4000000 in
theorem k_X3_reckonCost_72  {o0 : Int} {v1 : Int} {v2 : Int} {v3 : Int} {v5 : Int} {vs0 : Int} (C : Cx cX3_reckonCost RX3 6 none D cA adK adV A p s m args meth c)  {σ : St} {H : Heap} {locs : List Loc} {ls : Array Slot} (ho0 : kX o0 = (3, 0)) (hw : At D cA ad kX 151 R A s σ H locs) (hl : lv_has ls 6 [(0, .ref (ad o0)), (1, .int (zI v1)), (2, .int (zI v2)), (3, .int (zI v3)), (5, .int (zI v5))]) (h : p_X3_reckonCost_72  o0 v1 v2 v3 v5 vs0 σ = some res) : W p l e (rmU 3 75) s m args below meth c H locs 0 0 (MQ below (QV D cA ad kX 151 R A res) args s 0 0 A) (F0 m 72 ls [.int (zI vs0)]) := by
  have h := h
  unfold p_X3_reckonCost_72 at h
  refine y_istore (lv' := [(4, .int (zI vs0)), (0, .ref (ad o0)), (1, .int (zI v1)), (2, .int (zI v2)), (3, .int (zI v3)), (5, .int (zI v5))]) C dX3_reckonCost_72 hl (by decide) rfl (fun ls hl => ?_)
  refine y_iload C dX3_reckonCost_74 (lv_at hl 0 rfl) ?_
  refine y_if_eq (tgt := 84) C (a' := zm vs0) rfl dX3_reckonCost_76 (by decide) (fun hc => ?_) (fun hc => ?_)
  · rw [if_pos hc] at h
    refine y_iload_n C dX3_reckonCost_84 (lv_at hl 4 rfl) ?_
    exact k_X3_reckonCost_85 C  ho0 hw (lv_sub hl [1, 2, 3, 0] rfl) h
  · rw [if_neg hc] at h
    refine y_iload C dX3_reckonCost_79 (lv_at hl 5 rfl) ?_
    refine y_goto (tgt := 85) C dX3_reckonCost_81 (by decide) ?_
    exact k_X3_reckonCost_85 C  ho0 hw (lv_sub hl [1, 2, 3, 0] rfl) h
set_option maxRecDepth 100000 in
set_option maxHeartbeats 4000000 in
theorem k_X3_reckonCost_0  {o0 : Int} {v1 : Int} {v2 : Int} (C : Cx cX3_reckonCost RX3 6 none D cA adK adV A p s m args meth c)  {σ : St} {H : Heap} {locs : List Loc} {ls : Array Slot} (ho0 : kX o0 = (3, 0)) (hw : At D cA ad kX 151 R A s σ H locs) (hl : lv_has ls 6 [(0, .ref (ad o0)), (1, .int (zI v1)), (2, .int (zI v2))]) (h : p_X3_reckonCost  o0 v1 v2 σ = some res) : W p l e (rmU 3 75) s m args below meth c H locs 0 0 (MQ below (QV D cA ad kX 151 R A res) args s 0 0 A) (F0 m 0 ls []) := by
  have h := h
  unfold p_X3_reckonCost at h
  refine y_aload_n C dX3_reckonCost_0 (lv_at hl 0 rfl) ?_
  refine y_iload_n C dX3_reckonCost_1 (lv_at hl 1 rfl) ?_
  refine y_iload_n C dX3_reckonCost_2 (lv_at hl 2 rfl) ?_
  refine y_iconst C dX3_reckonCost_3 ?_
  obtain ⟨x4, hc4, h⟩ := bd_some h
  refine y_cv (rest := []) hw (y_rV C hw ho0 (by decide) rfl rfl (c_X3_openYear ho0 hc4) mi_X3_openYear wd_600 wd_601 wd_602 rfl ⟨by decide, by decide⟩ hl rfl (Nat.le_of_ble_eq_true rfl) dX3_reckonCost_4) (fun H locs hw => ?_)
  refine y_aload_n C dX3_reckonCost_7 (lv_at hl 0 rfl) ?_
  refine y_iconst C dX3_reckonCost_8 ?_
  refine y_iconst C dX3_reckonCost_9 ?_
  obtain ⟨x10, hc10, h⟩ := bd_some h
  refine y_ci (rest := []) hw (y_rV C hw ho0 (by decide) rfl rfl (c_X3_inside ho0 hc10) mi_X3_inside wd_629 wd_630 wd_631 rfl ⟨by decide, by decide⟩ hl rfl (Nat.le_of_ble_eq_true rfl) dX3_reckonCost_10) (fun H locs hw => ?_)
  refine y_istore_n (lv' := [(3, .int (zI x10.1)), (0, .ref (ad o0)), (1, .int (zI v1)), (2, .int (zI v2))]) C dX3_reckonCost_13 hl (by decide) rfl (fun ls hl => ?_)
  refine y_iconst C dX3_reckonCost_14 ?_
  refine y_istore (lv' := [(4, .int (zI 0)), (3, .int (zI x10.1)), (0, .ref (ad o0)), (1, .int (zI v1)), (2, .int (zI v2))]) C dX3_reckonCost_15 hl (by decide) rfl (fun ls hl => ?_)
  refine y_aload_n C dX3_reckonCost_17 (lv_at hl 2 rfl) ?_
  obtain ⟨hg18, h⟩ := gd_some h
  refine g3 C hw ho0 0 (by decide) wd_228 rfl dX3_reckonCost_18 ?_
  rw [rv_ref (kX_in _ (by rw [hg18]; decide)).1]
  refine g6 C hw hg18 5 (by decide) wd_199 rfl dX3_reckonCost_21 ?_
  refine y_if_eq (tgt := 86) C (a' := zm (x10.2 (x10.2 o0 0) 5)) rfl dX3_reckonCost_24 (by decide) (fun hc => ?_) (fun hc => ?_)
  · rw [if_pos hc] at h
    exact k_X3_reckonCost_86 C  ho0 hw (lv_sub hl [2, 3, 4, 1, 0] rfl) h
  · rw [if_neg hc] at h
    refine y_aload_n C dX3_reckonCost_27 (lv_at hl 2 rfl) ?_
    refine g3 C hw ho0 2 (by decide) wd_231 rfl dX3_reckonCost_28 ?_
    refine y_ifnonnullV (tgt := 86) C dX3_reckonCost_31 (by decide) (fun hc => ?_) (fun hc => ?_)
    · rw [if_pos hc] at h
      refine y_aload_n C dX3_reckonCost_34 (lv_at hl 2 rfl) ?_
      refine y_iload_n C dX3_reckonCost_35 (lv_at hl 3 rfl) ?_
      refine y_iload_n C dX3_reckonCost_36 (lv_at hl 4 rfl) ?_
      refine y_iconst C dX3_reckonCost_37 ?_
      obtain ⟨x38, hc38, h⟩ := bd_some h
      refine y_cv (rest := []) hw (y_rV C hw ho0 (by decide) rfl rfl (c_X3_openYear ho0 hc38) mi_X3_openYear wd_600 wd_601 wd_602 rfl ⟨by decide, by decide⟩ hl rfl (Nat.le_of_ble_eq_true rfl) dX3_reckonCost_38) (fun H locs hw => ?_)
      refine y_aload_n C dX3_reckonCost_41 (lv_at hl 2 rfl) ?_
      refine y_iconst C dX3_reckonCost_42 ?_
      refine y_iconst C dX3_reckonCost_43 ?_
      obtain ⟨x44, hc44, h⟩ := bd_some h
      refine y_ci (rest := []) hw (y_rV C hw ho0 (by decide) rfl rfl (c_X3_inside ho0 hc44) mi_X3_inside wd_629 wd_630 wd_631 rfl ⟨by decide, by decide⟩ hl rfl (Nat.le_of_ble_eq_true rfl) dX3_reckonCost_44) (fun H locs hw => ?_)
      refine y_aload_n C dX3_reckonCost_47 (lv_at hl 2 rfl) ?_
      obtain ⟨hg48, h⟩ := gd_some h
      refine g3 C hw ho0 0 (by decide) wd_228 rfl dX3_reckonCost_48 ?_
      rw [rv_ref (kX_in _ (by rw [hg48]; decide)).1]
      refine g6 C hw hg48 6 (by decide) wd_203 rfl dX3_reckonCost_51 ?_
      refine y_sipush C dX3_reckonCost_54 (by decide) ?_
      refine y_imul C dX3_reckonCost_57 ?_
      refine y_iadd C dX3_reckonCost_58 ?_
      refine y_istore (lv' := [(5, .int (zI (x44.1 + ((x44.2 (x44.2 o0 0) 6) * 1000)))), (4, .int (zI 0)), (3, .int (zI x10.1)), (0, .ref (ad o0)), (1, .int (zI v1)), (2, .int (zI v2))]) C dX3_reckonCost_59 hl (by decide) rfl (fun ls hl => ?_)
      refine y_iload C dX3_reckonCost_61 (lv_at hl 0 rfl) ?_
      refine y_iload_n C dX3_reckonCost_63 (lv_at hl 2 rfl) ?_
      refine y_icmp_ge (tgt := 71) C (a' := zm (x44.1 + ((x44.2 (x44.2 o0 0) 6) * 1000))) (b' := zm x10.1) rfl rfl dX3_reckonCost_64 (by decide) (fun hc => ?_) (fun hc => ?_)
      · rw [if_pos hc] at h
        refine y_iconst C dX3_reckonCost_71 ?_
        exact k_X3_reckonCost_72 C  ho0 hw (lv_sub hl [3, 4, 5, 2, 0] rfl) h
      · rw [if_neg hc] at h
        refine y_iconst C dX3_reckonCost_67 ?_
        refine y_goto (tgt := 72) C dX3_reckonCost_68 (by decide) ?_
        exact k_X3_reckonCost_72 C  ho0 hw (lv_sub hl [3, 4, 5, 2, 0] rfl) h
    · rw [if_neg hc] at h
      exact k_X3_reckonCost_86 C  ho0 hw (lv_sub hl [2, 3, 4, 1, 0] rfl) h
theorem c_X3_reckonCost {l : Launch} {D : va_G} {cA : Nat → ClassId} {adK adV : Nat → Nat} {A : Nat → Prop} {ad : Int → Nat} {R : va_W} {σ : St} {res : Int × St} {o0 : Int} {v1 : Int} {v2 : Int} (ho0 : kX o0 = (3, 0)) (h : p_X3_reckonCost o0 v1 v2 σ = some res) : Met l yX3_reckonCost (wsU yX3_reckonCost cX3_reckonCost 6 none) (rmU 3 75) (va_Pc [.ref (ad o0), .int (zI v1), .int (zI v2)] (Pr D cA adK adV ad kX 151 R A σ)) (QV D cA ad kX 151 R A res) 0 0 A :=
  y_met (own := RX3) (by decide) rfl _ (Nat.le_of_ble_eq_true rfl) (fun p e s m args below meth c ls C hl hw => k_X3_reckonCost_0 C ho0 hw hl h)
/-! RungHouse$Plan.know -/
set_option maxRecDepth 100000 in
set_option maxHeartbeats 4000000 in
theorem k_X3_know_20b {K7 : Int → Int → Int → St → Option (Int × St)} {K20 : Int → Int → Int → Int → St → Option (Int × St)} {o0 : Int} {v1 : Int} {v2 : Int} {v3 : Int} (C : Cx cX3_know RX3 4 none D cA adK adV A p s m args meth c) (hK7 : ∀ (o0 : Int) (v1 : Int) (v2 : Int) (σ : St) (H : Heap) (locs : List Loc) (ls : Array Slot) (ho0 : kX o0 = (3, 0)), At D cA ad kX 151 R A s σ H locs → lv_has ls 4 [(0, .ref (ad o0)), (1, .int (zI v1)), (2, .int (zI v2))] → K7 o0 v1 v2 σ = some res → W p l e (rmU 4 100) s m args below meth c H locs 0 0 (MQ below (QV D cA ad kX 151 R A res) args s 0 0 A) (F0 m 7 ls [])) (hK20 : ∀ (o0 : Int) (v1 : Int) (v2 : Int) (v3 : Int) (σ : St) (H : Heap) (locs : List Loc) (ls : Array Slot) (ho0 : kX o0 = (3, 0)), At D cA ad kX 151 R A s σ H locs → lv_has ls 4 [(0, .ref (ad o0)), (1, .int (zI v1)), (2, .int (zI v2)), (3, .int (zI v3))] → K20 o0 v1 v2 v3 σ = some res → W p l e (rmU 4 100) s m args below meth c H locs 0 0 (MQ below (QV D cA ad kX 151 R A res) args s 0 0 A) (F0 m 20 ls [])) {σ : St} {H : Heap} {locs : List Loc} {ls : Array Slot} (ho0 : kX o0 = (3, 0)) (hw : At D cA ad kX 151 R A s σ H locs) (hl : lv_has ls 4 [(0, .ref (ad o0)), (1, .int (zI v1)), (2, .int (zI v2)), (3, .int (zI v3))]) (h : p_X3_know_20b K7 K20 o0 v1 v2 v3 σ = some res) : W p l e (rmU 4 100) s m args below meth c H locs 0 0 (MQ below (QV D cA ad kX 151 R A res) args s 0 0 A) (F0 m 20 ls []) := by
  have h := h
  unfold p_X3_know_20b at h
  refine y_iload_n C dX3_know_20 (lv_at hl 3 rfl) ?_
  refine y_aload_n C dX3_know_21 (lv_at hl 0 rfl) ?_
  obtain ⟨hg22, h⟩ := gd_some h
  refine g3 C hw ho0 1 (by decide) wd_229 rfl dX3_know_22 ?_
  rw [rv_ref (kX_in _ (by rw [hg22]; decide)).1]
  refine g0 C hw hg22 1 (by decide) wd_86 rfl dX3_know_25 ?_
  refine y_icmp_ge (tgt := 43) C (a' := zm v3) (b' := zm (σ (σ o0 1) 1)) rfl rfl dX3_know_28 (by decide) (fun hc => ?_) (fun hc => ?_)
  · rw [if_pos hc] at h
    refine y_aload_n C dX3_know_43 (lv_at hl 0 rfl) ?_
    refine y_iload_n C dX3_know_44 (lv_at hl 2 rfl) ?_
    obtain ⟨σ45, eσ45, h⟩ := nx_some h
    refine q3 C hw ho0 5 (by decide) wd_235 rfl rfl rfl (by decide) v2 5 rfl rfl dX3_know_45 (fun H locs hw => ?_)
    rw [← eσ45] at hw
    refine y_iinc (lv' := [(2, .int (zI (v2 + 1))), (0, .ref (ad o0)), (1, .int (zI v1)), (3, .int (zI v3))]) C dX3_know_48 hl (k := 2) rfl (by decide) rfl (fun ls hl => ?_)
    refine y_goto (tgt := 7) C dX3_know_51 (by decide) ?_
    exact hK7 _ _ _ _ _ _ _ ho0 hw (lv_sub hl [1, 2, 0] rfl) h
  · rw [if_neg hc] at h
    refine y_aload_n C dX3_know_31 (lv_at hl 0 rfl) ?_
    refine y_iload_n C dX3_know_32 (lv_at hl 2 rfl) ?_
    refine y_iload_n C dX3_know_33 (lv_at hl 3 rfl) ?_
    obtain ⟨x34, hc34, h⟩ := bd_some h
    refine y_cv (rest := []) hw (y_rV C hw ho0 (by decide) rfl rfl (c_X3_reckonCost ho0 hc34) mi_X3_reckonCost wd_596 wd_598 ws_14 rfl ⟨by decide, by decide⟩ hl rfl (Nat.le_of_ble_eq_true rfl) dX3_know_34) (fun H locs hw => ?_)
    refine y_iinc (lv' := [(3, .int (zI (v3 + 1))), (0, .ref (ad o0)), (1, .int (zI v1)), (2, .int (zI v2))]) C dX3_know_37 hl (k := 3) rfl (by decide) rfl (fun ls hl => ?_)
    refine y_goto (tgt := 20) C dX3_know_40 (by decide) ?_
    exact hK20 _ _ _ _ _ _ _ _ ho0 hw (lv_sub hl [1, 2, 3, 0] rfl) h
set_option maxRecDepth 100000 in
theorem k_X3_know_20 {K7 : Int → Int → Int → St → Option (Int × St)} (C : Cx cX3_know RX3 4 none D cA adK adV A p s m args meth c) (hK7 : ∀ (o0 : Int) (v1 : Int) (v2 : Int) (σ : St) (H : Heap) (locs : List Loc) (ls : Array Slot) (ho0 : kX o0 = (3, 0)), At D cA ad kX 151 R A s σ H locs → lv_has ls 4 [(0, .ref (ad o0)), (1, .int (zI v1)), (2, .int (zI v2))] → K7 o0 v1 v2 σ = some res → W p l e (rmU 4 100) s m args below meth c H locs 0 0 (MQ below (QV D cA ad kX 151 R A res) args s 0 0 A) (F0 m 7 ls [])) : ∀ (n : Nat) (o0 : Int) (v1 : Int) (v2 : Int) (v3 : Int) (σ : St) (H : Heap) (locs : List Loc) (ls : Array Slot) (ho0 : kX o0 = (3, 0)), At D cA ad kX 151 R A s σ H locs → lv_has ls 4 [(0, .ref (ad o0)), (1, .int (zI v1)), (2, .int (zI v2)), (3, .int (zI v3))] → p_X3_know_20 K7 n o0 v1 v2 v3 σ = some res → W p l e (rmU 4 100) s m args below meth c H locs 0 0 (MQ below (QV D cA ad kX 151 R A res) args s 0 0 A) (F0 m 20 ls []) := by
  intro n
  induction n with
  | zero =>
    intro o0 v1 v2 v3 σ H locs ls ho0 hw hl h
    have h : none = some res := h
    cases h
  | succ n ih =>
    intro o0 v1 v2 v3 σ H locs ls ho0 hw hl h
    exact k_X3_know_20b C hK7 ih ho0 hw hl h
set_option maxRecDepth 100000 in
set_option maxHeartbeats 4000000 in
theorem k_X3_know_7b {K7 : Int → Int → Int → St → Option (Int × St)} {o0 : Int} {v1 : Int} {v2 : Int} (C : Cx cX3_know RX3 4 none D cA adK adV A p s m args meth c)  (hK7 : ∀ (o0 : Int) (v1 : Int) (v2 : Int) (σ : St) (H : Heap) (locs : List Loc) (ls : Array Slot) (ho0 : kX o0 = (3, 0)), At D cA ad kX 151 R A s σ H locs → lv_has ls 4 [(0, .ref (ad o0)), (1, .int (zI v1)), (2, .int (zI v2))] → K7 o0 v1 v2 σ = some res → W p l e (rmU 4 100) s m args below meth c H locs 0 0 (MQ below (QV D cA ad kX 151 R A res) args s 0 0 A) (F0 m 7 ls [])) {σ : St} {H : Heap} {locs : List Loc} {ls : Array Slot} (ho0 : kX o0 = (3, 0)) (hw : At D cA ad kX 151 R A s σ H locs) (hl : lv_has ls 4 [(0, .ref (ad o0)), (1, .int (zI v1)), (2, .int (zI v2))]) (h : p_X3_know_7b K7 o0 v1 v2 σ = some res) : W p l e (rmU 4 100) s m args below meth c H locs 0 0 (MQ below (QV D cA ad kX 151 R A res) args s 0 0 A) (F0 m 7 ls []) := by
  have h := h
  unfold p_X3_know_7b at h
  refine y_iload_n C dX3_know_7 (lv_at hl 2 rfl) ?_
  refine y_iload_n C dX3_know_8 (lv_at hl 1 rfl) ?_
  refine y_icmp_gt (tgt := 54) C (a' := zm v2) (b' := zm v1) rfl rfl dX3_know_9 (by decide) (fun hc => ?_) (fun hc => ?_)
  · rw [if_pos hc] at h
    exact y_vret C hw h dX3_know_54
  · rw [if_neg hc] at h
    refine y_iload_n C dX3_know_12 (lv_at hl 2 rfl) ?_
    refine y_bipush C dX3_know_13 (by decide) ?_
    refine y_icmp_gt (tgt := 54) C (a' := zm v2) (b' := 30) rfl (by decide) dX3_know_15 (by decide) (fun hc => ?_) (fun hc => ?_)
    · rw [if_pos hc] at h
      exact y_vret C hw h dX3_know_54
    · rw [if_neg hc] at h
      refine y_iconst C dX3_know_18 ?_
      refine y_istore_n (lv' := [(3, .int (zI 0)), (0, .ref (ad o0)), (1, .int (zI v1)), (2, .int (zI v2))]) C dX3_know_19 hl (by decide) rfl (fun ls hl => ?_)
      exact k_X3_know_20 C hK7 FU _ _ _ _ _ _ _ _ ho0 hw (lv_sub hl [1, 2, 3, 0] rfl) h
set_option maxRecDepth 100000 in
theorem k_X3_know_7  (C : Cx cX3_know RX3 4 none D cA adK adV A p s m args meth c)  : ∀ (n : Nat) (o0 : Int) (v1 : Int) (v2 : Int) (σ : St) (H : Heap) (locs : List Loc) (ls : Array Slot) (ho0 : kX o0 = (3, 0)), At D cA ad kX 151 R A s σ H locs → lv_has ls 4 [(0, .ref (ad o0)), (1, .int (zI v1)), (2, .int (zI v2))] → p_X3_know_7  n o0 v1 v2 σ = some res → W p l e (rmU 4 100) s m args below meth c H locs 0 0 (MQ below (QV D cA ad kX 151 R A res) args s 0 0 A) (F0 m 7 ls []) := by
  intro n
  induction n with
  | zero =>
    intro o0 v1 v2 σ H locs ls ho0 hw hl h
    have h : none = some res := h
    cases h
  | succ n ih =>
    intro o0 v1 v2 σ H locs ls ho0 hw hl h
    exact k_X3_know_7b C  ih ho0 hw hl h
set_option maxRecDepth 100000 in
set_option maxHeartbeats 4000000 in
theorem k_X3_know_0  {o0 : Int} {v1 : Int} (C : Cx cX3_know RX3 4 none D cA adK adV A p s m args meth c)  {σ : St} {H : Heap} {locs : List Loc} {ls : Array Slot} (ho0 : kX o0 = (3, 0)) (hw : At D cA ad kX 151 R A s σ H locs) (hl : lv_has ls 4 [(0, .ref (ad o0)), (1, .int (zI v1))]) (h : p_X3_know  o0 v1 σ = some res) : W p l e (rmU 4 100) s m args below meth c H locs 0 0 (MQ below (QV D cA ad kX 151 R A res) args s 0 0 A) (F0 m 0 ls []) := by
  have h := h
  unfold p_X3_know at h
  refine y_aload_n C dX3_know_0 (lv_at hl 0 rfl) ?_
  refine g3 C hw ho0 5 (by decide) wd_235 rfl dX3_know_1 ?_
  refine y_iconst C dX3_know_4 ?_
  refine y_iadd C dX3_know_5 ?_
  refine y_istore_n (lv' := [(2, .int (zI ((σ o0 5) + 1))), (0, .ref (ad o0)), (1, .int (zI v1))]) C dX3_know_6 hl (by decide) rfl (fun ls hl => ?_)
  exact k_X3_know_7 C  FU _ _ _ _ _ _ _ ho0 hw (lv_sub hl [1, 2, 0] rfl) h
theorem c_X3_know {l : Launch} {D : va_G} {cA : Nat → ClassId} {adK adV : Nat → Nat} {A : Nat → Prop} {ad : Int → Nat} {R : va_W} {σ : St} {res : Int × St} {o0 : Int} {v1 : Int} (ho0 : kX o0 = (3, 0)) (h : p_X3_know o0 v1 σ = some res) : Met l yX3_know (wsU yX3_know cX3_know 4 none) (rmU 4 100) (va_Pc [.ref (ad o0), .int (zI v1)] (Pr D cA adK adV ad kX 151 R A σ)) (QV D cA ad kX 151 R A res) 0 0 A :=
  y_met (own := RX3) (by decide) rfl _ (Nat.le_of_ble_eq_true rfl) (fun p e s m args below meth c ls C hl hw => k_X3_know_0 C ho0 hw hl h)
/-! RungHouse$Plan.costWith -/
set_option maxRecDepth 100000 in
set_option maxHeartbeats 4000000 in
theorem k_X3_costWith_0  {o0 : Int} {v1 : Int} {v2 : Int} (C : Cx cX3_costWith RX3 3 (some .int) D cA adK adV A p s m args meth c)  {σ : St} {H : Heap} {locs : List Loc} {ls : Array Slot} (ho0 : kX o0 = (3, 0)) (hw : At D cA ad kX 151 R A s σ H locs) (hl : lv_has ls 3 [(0, .ref (ad o0)), (1, .int (zI v1)), (2, .int (zI v2))]) (h : p_X3_costWith  o0 v1 v2 σ = some res) : W p l e (rmU 0 0) s m args below meth c H locs 0 0 (MQ below (QI D cA ad kX 151 R A res) args s 0 0 A) (F0 m 0 ls []) := by
  have h := h
  unfold p_X3_costWith at h
  refine y_aload_n C dX3_costWith_0 (lv_at hl 0 rfl) ?_
  refine g3 C hw ho0 3 (by decide) wd_233 rfl dX3_costWith_1 ?_
  refine y_iload_n C dX3_costWith_4 (lv_at hl 1 rfl) ?_
  refine y_bipush C dX3_costWith_5 (by decide) ?_
  refine y_imul C dX3_costWith_7 ?_
  refine y_iload_n C dX3_costWith_8 (lv_at hl 2 rfl) ?_
  refine y_iadd C dX3_costWith_9 ?_
  obtain ⟨hg10, h⟩ := gd_some h
  refine y_iald C hw (ka3_costs ho0) (i' := zm ((v1 * 10) + v2)) rfl hg10 dX3_costWith_10 ?_
  exact y_iret C hw h dX3_costWith_11
theorem c_X3_costWith {l : Launch} {D : va_G} {cA : Nat → ClassId} {adK adV : Nat → Nat} {A : Nat → Prop} {ad : Int → Nat} {R : va_W} {σ : St} {res : Int × St} {o0 : Int} {v1 : Int} {v2 : Int} (ho0 : kX o0 = (3, 0)) (h : p_X3_costWith o0 v1 v2 σ = some res) : Met l yX3_costWith (wsU yX3_costWith cX3_costWith 3 (some .int)) (rmU 0 0) (va_Pc [.ref (ad o0), .int (zI v1), .int (zI v2)] (Pr D cA adK adV ad kX 151 R A σ)) (QI D cA ad kX 151 R A res) 0 0 A :=
  y_met (own := RX3) (by decide) rfl _ (Nat.le_of_ble_eq_true rfl) (fun p e s m args below meth c ls C hl hw => k_X3_costWith_0 C ho0 hw hl h)
/-! RungHouse$Plan.isAsked -/
set_option maxRecDepth 100000 in
set_option maxHeartbeats 4000000 in
theorem k_X3_isAsked_0  {o0 : Int} {v1 : Int} {v2 : Int} {v3 : Int} (C : Cx cX3_isAsked RX3 4 (some .boolean) D cA adK adV A p s m args meth c)  {σ : St} {H : Heap} {locs : List Loc} {ls : Array Slot} (ho0 : kX o0 = (3, 0)) (hw : At D cA ad kX 151 R A s σ H locs) (hl : lv_has ls 4 [(0, .ref (ad o0)), (1, .int (zI v1)), (2, .int (zI v2)), (3, .int (zI v3))]) (h : p_X3_isAsked  o0 v1 v2 v3 σ = some res) : W p l e (rmU 1 22) s m args below meth c H locs 0 0 (MQ below (QI D cA ad kX 151 R A res) args s 0 0 A) (F0 m 0 ls []) := by
  have h := h
  unfold p_X3_isAsked at h
  refine y_iload_n C dX3_isAsked_0 (lv_at hl 3 rfl) ?_
  refine y_aload_n C dX3_isAsked_1 (lv_at hl 0 rfl) ?_
  obtain ⟨hg2, h⟩ := gd_some h
  refine g3 C hw ho0 1 (by decide) wd_229 rfl dX3_isAsked_2 ?_
  rw [rv_ref (kX_in _ (by rw [hg2]; decide)).1]
  refine y_iload_n C dX3_isAsked_5 (lv_at hl 3 rfl) ?_
  obtain ⟨x6, hc6, h⟩ := bd_some h
  refine y_ci (rest := [.int (zI v3)]) hw (y_rV C hw hg2 (by decide) rfl rfl (c_X0_bears hg2 hc6) mi_X0_bears wd_612 wd_613 wd_614 rfl ⟨by decide, by decide⟩ hl rfl (Nat.le_of_ble_eq_true rfl) dX3_isAsked_6) (fun H locs hw => ?_)
  refine y_isub C dX3_isAsked_9 ?_
  refine y_sipush C dX3_isAsked_10 (by decide) ?_
  refine y_imul C dX3_isAsked_13 ?_
  refine y_aload_n C dX3_isAsked_14 (lv_at hl 0 rfl) ?_
  refine y_iload_n C dX3_isAsked_15 (lv_at hl 1 rfl) ?_
  refine y_iload_n C dX3_isAsked_16 (lv_at hl 2 rfl) ?_
  obtain ⟨x17, hc17, h⟩ := bd_some h
  refine y_ci (rest := [.int (zI ((v3 - x6.1) * 1000))]) hw (y_rV C hw ho0 (by decide) rfl rfl (c_X3_costsLater ho0 hc17) mi_X3_costsLater wd_621 wd_623 ws_17 rfl ⟨by decide, by decide⟩ hl rfl (Nat.le_of_ble_eq_true rfl) dX3_isAsked_17) (fun H locs hw => ?_)
  refine y_icmp_le (tgt := 27) C (a' := zm ((v3 - x6.1) * 1000)) (b' := zm x17.1) rfl rfl dX3_isAsked_20 (by decide) (fun hc => ?_) (fun hc => ?_)
  · rw [if_pos hc] at h
    refine y_iconst C dX3_isAsked_27 ?_
    exact y_zret C hw (by decide) h dX3_isAsked_28
  · rw [if_neg hc] at h
    refine y_iconst C dX3_isAsked_23 ?_
    refine y_goto (tgt := 28) C dX3_isAsked_24 (by decide) ?_
    exact y_zret C hw (by decide) h dX3_isAsked_28
theorem c_X3_isAsked {l : Launch} {D : va_G} {cA : Nat → ClassId} {adK adV : Nat → Nat} {A : Nat → Prop} {ad : Int → Nat} {R : va_W} {σ : St} {res : Int × St} {o0 : Int} {v1 : Int} {v2 : Int} {v3 : Int} (ho0 : kX o0 = (3, 0)) (h : p_X3_isAsked o0 v1 v2 v3 σ = some res) : Met l yX3_isAsked (wsU yX3_isAsked cX3_isAsked 4 (some .boolean)) (rmU 1 22) (va_Pc [.ref (ad o0), .int (zI v1), .int (zI v2), .int (zI v3)] (Pr D cA adK adV ad kX 151 R A σ)) (QI D cA ad kX 151 R A res) 0 0 A :=
  y_met (own := RX3) (by decide) rfl _ (Nat.le_of_ble_eq_true rfl) (fun p e s m args below meth c ls C hl hw => k_X3_isAsked_0 C ho0 hw hl h)
/-! RungHouse$Plan.leastAsked -/
set_option maxRecDepth 100000 in
set_option maxHeartbeats 4000000 in
theorem k_X3_leastAsked_0  {o0 : Int} {v1 : Int} {v2 : Int} (C : Cx cX3_leastAsked RX3 4 (some .int) D cA adK adV A p s m args meth c)  {σ : St} {H : Heap} {locs : List Loc} {ls : Array Slot} (ho0 : kX o0 = (3, 0)) (hw : At D cA ad kX 151 R A s σ H locs) (hl : lv_has ls 4 [(0, .ref (ad o0)), (1, .int (zI v1)), (2, .int (zI v2))]) (h : p_X3_leastAsked  o0 v1 v2 σ = some res) : W p l e (rmU 0 0) s m args below meth c H locs 0 0 (MQ below (QI D cA ad kX 151 R A res) args s 0 0 A) (F0 m 0 ls []) := by
  have h := h
  unfold p_X3_leastAsked at h
  refine y_aload_n C dX3_leastAsked_0 (lv_at hl 0 rfl) ?_
  refine g3 C hw ho0 7 (by decide) wd_237 rfl dX3_leastAsked_1 ?_
  refine y_iload_n C dX3_leastAsked_4 (lv_at hl 1 rfl) ?_
  refine y_iconst C dX3_leastAsked_5 ?_
  refine y_imul C dX3_leastAsked_6 ?_
  refine y_iload_n C dX3_leastAsked_7 (lv_at hl 2 rfl) ?_
  refine y_iadd C dX3_leastAsked_8 ?_
  obtain ⟨hg9, h⟩ := gd_some h
  refine y_iald C hw (ka3_firstAsked ho0) (i' := zm ((v1 * 4) + v2)) rfl hg9 dX3_leastAsked_9 ?_
  refine y_istore_n (lv' := [(3, .int (zI (σ (o0 + 4) (zm ((v1 * 4) + v2))))), (0, .ref (ad o0)), (1, .int (zI v1)), (2, .int (zI v2))]) C dX3_leastAsked_10 hl (by decide) rfl (fun ls hl => ?_)
  refine y_iload_n C dX3_leastAsked_11 (lv_at hl 0 rfl) ?_
  refine y_aload_n C dX3_leastAsked_12 (lv_at hl 1 rfl) ?_
  obtain ⟨hg13, h⟩ := gd_some h
  refine g3 C hw ho0 0 (by decide) wd_228 rfl dX3_leastAsked_13 ?_
  rw [rv_ref (kX_in _ (by rw [hg13]; decide)).1]
  refine g6 C hw hg13 3 (by decide) wd_194 rfl dX3_leastAsked_16 ?_
  refine y_icmp_ge (tgt := 34) C (a' := zm (σ (o0 + 4) (zm ((v1 * 4) + v2)))) (b' := zm (σ (σ o0 0) 3)) rfl rfl dX3_leastAsked_19 (by decide) (fun hc => ?_) (fun hc => ?_)
  · rw [if_pos hc] at h
    refine y_iconst C dX3_leastAsked_34 ?_
    exact y_iret C hw h dX3_leastAsked_35
  · rw [if_neg hc] at h
    refine y_aload_n C dX3_leastAsked_22 (lv_at hl 1 rfl) ?_
    refine g3 C hw ho0 0 (by decide) wd_228 rfl dX3_leastAsked_23 ?_
    rw [rv_ref (kX_in _ (by rw [hg13]; decide)).1]
    refine g6 C hw hg13 0 (by decide) wd_188 rfl dX3_leastAsked_26 ?_
    refine y_iload_n C dX3_leastAsked_29 (lv_at hl 0 rfl) ?_
    obtain ⟨hg30, h⟩ := gd_some h
    refine y_iald C hw (ka6_sums hg13) (i' := zm (σ (o0 + 4) (zm ((v1 * 4) + v2)))) rfl hg30 dX3_leastAsked_30 ?_
    refine y_goto (tgt := 35) C dX3_leastAsked_31 (by decide) ?_
    exact y_iret C hw h dX3_leastAsked_35
theorem c_X3_leastAsked {l : Launch} {D : va_G} {cA : Nat → ClassId} {adK adV : Nat → Nat} {A : Nat → Prop} {ad : Int → Nat} {R : va_W} {σ : St} {res : Int × St} {o0 : Int} {v1 : Int} {v2 : Int} (ho0 : kX o0 = (3, 0)) (h : p_X3_leastAsked o0 v1 v2 σ = some res) : Met l yX3_leastAsked (wsU yX3_leastAsked cX3_leastAsked 4 (some .int)) (rmU 0 0) (va_Pc [.ref (ad o0), .int (zI v1), .int (zI v2)] (Pr D cA adK adV ad kX 151 R A σ)) (QI D cA ad kX 151 R A res) 0 0 A :=
  y_met (own := RX3) (by decide) rfl _ (Nat.le_of_ble_eq_true rfl) (fun p e s m args below meth c ls C hl hw => k_X3_leastAsked_0 C ho0 hw hl h)
/-! RungHouse$Reader.add -/
set_option maxRecDepth 100000 in
set_option maxHeartbeats 4000000 in
theorem k_X4_add_0  {o0 : Int} {v1 : Int} (C : Cx cX4_add RX4 2 none D cA adK adV A p s m args meth c)  {σ : St} {H : Heap} {locs : List Loc} {ls : Array Slot} (ho0 : kX o0 = (4, 0)) (hw : At D cA ad kX 151 R A s σ H locs) (hl : lv_has ls 2 [(0, .ref (ad o0)), (1, .int (zI v1))]) (h : p_X4_add  o0 v1 σ = some res) : W p l e (rmU 0 0) s m args below meth c H locs 0 0 (MQ below (QV D cA ad kX 151 R A res) args s 0 0 A) (F0 m 0 ls []) := by
  have h := h
  unfold p_X4_add at h
  refine y_aload_n C dX4_add_0 (lv_at hl 0 rfl) ?_
  refine g4 C hw ho0 1 (by decide) wd_30 rfl dX4_add_1 ?_
  refine y_sipush C dX4_add_4 (by decide) ?_
  refine y_icmp_ge (tgt := 30) C (a' := zm (σ o0 1)) (b' := 300) rfl (by decide) dX4_add_7 (by decide) (fun hc => ?_) (fun hc => ?_)
  · rw [if_pos hc] at h
    exact y_vret C hw h dX4_add_30
  · rw [if_neg hc] at h
    refine y_aload_n C dX4_add_10 (lv_at hl 0 rfl) ?_
    refine g4 C hw ho0 0 (by decide) wd_29 rfl dX4_add_11 ?_
    refine y_aload_n C dX4_add_14 (lv_at hl 0 rfl) ?_
    refine g4 C hw ho0 1 (by decide) wd_30 rfl dX4_add_15 ?_
    refine y_iload_n C dX4_add_18 (lv_at hl 1 rfl) ?_
    obtain ⟨hg19, h⟩ := gd_some h
    obtain ⟨σ19, eσ19, h⟩ := nx_some h
    refine y_iast C hw (ka4_bytes ho0) (i' := zm (σ o0 1)) rfl hg19 dX4_add_19 (fun H locs hw => ?_)
    rw [← eσ19] at hw
    refine y_aload_n C dX4_add_20 (lv_at hl 0 rfl) ?_
    refine y_dup C dX4_add_21 rfl ?_
    refine g4 C hw ho0 1 (by decide) wd_30 rfl dX4_add_22 ?_
    refine y_iconst C dX4_add_25 ?_
    refine y_iadd C dX4_add_26 ?_
    obtain ⟨σ27, eσ27, h⟩ := nx_some h
    refine q4 C hw ho0 1 (by decide) wd_30 rfl rfl rfl (by decide) ((σ19 o0 1) + 1) 1 rfl rfl dX4_add_27 (fun H locs hw => ?_)
    rw [← eσ27] at hw
    exact y_vret C hw h dX4_add_30
theorem c_X4_add {l : Launch} {D : va_G} {cA : Nat → ClassId} {adK adV : Nat → Nat} {A : Nat → Prop} {ad : Int → Nat} {R : va_W} {σ : St} {res : Int × St} {o0 : Int} {v1 : Int} (ho0 : kX o0 = (4, 0)) (h : p_X4_add o0 v1 σ = some res) : Met l yX4_add (wsU yX4_add cX4_add 2 none) (rmU 0 0) (va_Pc [.ref (ad o0), .int (zI v1)] (Pr D cA adK adV ad kX 151 R A σ)) (QV D cA ad kX 151 R A res) 0 0 A :=
  y_met (own := RX4) (by decide) rfl _ (Nat.le_of_ble_eq_true rfl) (fun p e s m args below meth c ls C hl hw => k_X4_add_0 C ho0 hw hl h)
/-! RungHouse$Rule.readBar -/
set_option maxRecDepth 100000 in
set_option maxHeartbeats 4000000 in
theorem k_X5_readBar_169  {o0 : Int} {o1 : Int} (C : Cx cX5_readBar RX5 2 none D cA adK adV A p s m args meth c)  {σ : St} {H : Heap} {locs : List Loc} {ls : Array Slot} (ho0 : kX o0 = (5, 0)) (ho1 : kX o1 = (4, 0)) (hw : At D cA ad kX 151 R A s σ H locs) (hl : lv_has ls 2 [(0, .ref (ad o0)), (1, .ref (ad o1))]) (h : p_X5_readBar_169  o0 o1 σ = some res) : W p l e (rmU 5 112) s m args below meth c H locs 0 0 (MQ below (QV D cA ad kX 151 R A res) args s 0 0 A) (F0 m 169 ls []) := by
  have h := h
  unfold p_X5_readBar_169 at h
  refine y_aload_n C dX5_readBar_169 (lv_at hl 1 rfl) ?_
  obtain ⟨x170, hc170, h⟩ := bd_some h
  refine y_cv (rest := []) hw (y_rV C hw ho1 (by decide) rfl rfl (c_X4_closeClause ho1 hc170) mi_X4_closeClause wd_537 wd_455 wd_456 rfl ⟨by decide, by decide⟩ hl rfl (Nat.le_of_ble_eq_true rfl) dX5_readBar_170) (fun H locs hw => ?_)
  refine y_aload_n C dX5_readBar_173 (lv_at hl 0 rfl) ?_
  refine y_dup C dX5_readBar_174 rfl ?_
  refine g5 C hw ho0 5 (by decide) wd_280 rfl dX5_readBar_175 ?_
  refine y_iconst C dX5_readBar_178 ?_
  refine y_iadd C dX5_readBar_179 ?_
  obtain ⟨σ180, eσ180, h⟩ := nx_some h
  refine q5 C hw ho0 5 (by decide) wd_280 rfl rfl rfl (by decide) ((x170.2 o0 5) + 1) 5 rfl rfl dX5_readBar_180 (fun H locs hw => ?_)
  rw [← eσ180] at hw
  exact y_vret C hw h dX5_readBar_183
set_option maxRecDepth 100000 in
set_option maxHeartbeats 4000000 in
theorem k_X5_readBar_116  {o0 : Int} {o1 : Int} (C : Cx cX5_readBar RX5 2 none D cA adK adV A p s m args meth c)  {σ : St} {H : Heap} {locs : List Loc} {ls : Array Slot} (ho0 : kX o0 = (5, 0)) (ho1 : kX o1 = (4, 0)) (hw : At D cA ad kX 151 R A s σ H locs) (hl : lv_has ls 2 [(0, .ref (ad o0)), (1, .ref (ad o1))]) (h : p_X5_readBar_116  o0 o1 σ = some res) : W p l e (rmU 5 112) s m args below meth c H locs 0 0 (MQ below (QV D cA ad kX 151 R A res) args s 0 0 A) (F0 m 116 ls []) := by
  have h := h
  unfold p_X5_readBar_116 at h
  refine y_aload_n C dX5_readBar_116 (lv_at hl 1 rfl) ?_
  refine y_ldcS C (i := 10) (by decide) rfl rfl dX5_readBar_117 ?_
  obtain ⟨x119, hc119, h⟩ := bd_some h
  refine y_ci (rest := []) hw (y_rV C hw ho1 (by decide) rfl rfl (c_X4_isWord ho1 (by decide) hc119) mi_X4_isWord wd_527 wd_387 wd_388 rfl ⟨by decide, by decide⟩ hl rfl (Nat.le_of_ble_eq_true rfl) dX5_readBar_119) (fun H locs hw => ?_)
  refine y_if_eq (tgt := 169) C (a' := zm x119.1) rfl dX5_readBar_122 (by decide) (fun hc => ?_) (fun hc => ?_)
  · rw [if_pos hc] at h
    exact k_X5_readBar_169 C  ho0 ho1 hw hl h
  · rw [if_neg hc] at h
    refine y_aload_n C dX5_readBar_125 (lv_at hl 1 rfl) ?_
    obtain ⟨x126, hc126, h⟩ := bd_some h
    refine y_cv (rest := []) hw (y_rV C hw ho1 (by decide) rfl rfl (c_X4_step ho1 hc126) mi_X4_step wd_533 wd_364 wd_365 rfl ⟨by decide, by decide⟩ hl rfl (Nat.le_of_ble_eq_true rfl) dX5_readBar_126) (fun H locs hw => ?_)
    refine y_aload_n C dX5_readBar_129 (lv_at hl 0 rfl) ?_
    refine g5 C hw ho0 3 (by decide) wd_278 rfl dX5_readBar_130 ?_
    refine y_aload_n C dX5_readBar_133 (lv_at hl 0 rfl) ?_
    refine g5 C hw ho0 5 (by decide) wd_280 rfl dX5_readBar_134 ?_
    refine y_aload_n C dX5_readBar_137 (lv_at hl 1 rfl) ?_
    refine y_iconst C dX5_readBar_138 ?_
    refine y_bipush C dX5_readBar_139 (by decide) ?_
    obtain ⟨x141, hc141, h⟩ := bd_some h
    refine y_ci (rest := [.int (zI (x126.2 o0 5)), .ref (ad (o0 + 4))]) hw (y_rV C hw ho1 (by decide) rfl rfl (c_X4_number ho1 hc141) mi_X4_number wd_534 wd_448 wd_449 rfl ⟨by decide, by decide⟩ hl rfl (Nat.le_of_ble_eq_true rfl) dX5_readBar_141) (fun H locs hw => ?_)
    obtain ⟨hg144, h⟩ := gd_some h
    obtain ⟨σ144, eσ144, h⟩ := nx_some h
    refine y_iast C hw (ka5_firstMonths ho0) (i' := zm (x126.2 o0 5)) rfl hg144 dX5_readBar_144 (fun H locs hw => ?_)
    rw [← eσ144] at hw
    refine y_aload_n C dX5_readBar_145 (lv_at hl 0 rfl) ?_
    refine g5 C hw ho0 4 (by decide) wd_279 rfl dX5_readBar_146 ?_
    refine y_aload_n C dX5_readBar_149 (lv_at hl 0 rfl) ?_
    refine g5 C hw ho0 5 (by decide) wd_280 rfl dX5_readBar_150 ?_
    refine y_aload_n C dX5_readBar_153 (lv_at hl 1 rfl) ?_
    refine y_aload_n C dX5_readBar_154 (lv_at hl 0 rfl) ?_
    refine g5 C hw ho0 3 (by decide) wd_278 rfl dX5_readBar_155 ?_
    refine y_aload_n C dX5_readBar_158 (lv_at hl 0 rfl) ?_
    refine g5 C hw ho0 5 (by decide) wd_280 rfl dX5_readBar_159 ?_
    obtain ⟨hg162, h⟩ := gd_some h
    refine y_iald C hw (ka5_firstMonths ho0) (i' := zm (σ144 o0 5)) rfl hg162 dX5_readBar_162 ?_
    refine y_bipush C dX5_readBar_163 (by decide) ?_
    obtain ⟨x165, hc165, h⟩ := bd_some h
    refine y_ci (rest := [.int (zI (σ144 o0 5)), .ref (ad (o0 + 5))]) hw (y_rV C hw ho1 (by decide) rfl rfl (c_X4_number ho1 hc165) mi_X4_number wd_534 wd_448 wd_449 rfl ⟨by decide, by decide⟩ hl rfl (Nat.le_of_ble_eq_true rfl) dX5_readBar_165) (fun H locs hw => ?_)
    obtain ⟨σ168, eσ168, h⟩ := nx_some h
    refine y_iast C hw (ka5_lastMonths ho0) (i' := zm (σ144 o0 5)) rfl hg162 dX5_readBar_168 (fun H locs hw => ?_)
    rw [← eσ168] at hw
    exact k_X5_readBar_169 C  ho0 ho1 hw hl h
set_option maxRecDepth 100000 in
set_option maxHeartbeats 4000000 in
theorem k_X5_readBar_0  {o0 : Int} {o1 : Int} (C : Cx cX5_readBar RX5 2 none D cA adK adV A p s m args meth c)  {σ : St} {H : Heap} {locs : List Loc} {ls : Array Slot} (ho0 : kX o0 = (5, 0)) (ho1 : kX o1 = (4, 0)) (hw : At D cA ad kX 151 R A s σ H locs) (hl : lv_has ls 2 [(0, .ref (ad o0)), (1, .ref (ad o1))]) (h : p_X5_readBar  o0 o1 σ = some res) : W p l e (rmU 5 112) s m args below meth c H locs 0 0 (MQ below (QV D cA ad kX 151 R A res) args s 0 0 A) (F0 m 0 ls []) := by
  have h := h
  unfold p_X5_readBar at h
  refine y_aload_n C dX5_readBar_0 (lv_at hl 1 rfl) ?_
  obtain ⟨x1, hc1, h⟩ := bd_some h
  refine y_cv (rest := []) hw (y_rV C hw ho1 (by decide) rfl rfl (c_X4_step ho1 hc1) mi_X4_step wd_533 wd_364 wd_365 rfl ⟨by decide, by decide⟩ hl rfl (Nat.le_of_ble_eq_true rfl) dX5_readBar_1) (fun H locs hw => ?_)
  refine y_aload_n C dX5_readBar_4 (lv_at hl 0 rfl) ?_
  refine g5 C hw ho0 0 (by decide) wd_275 rfl dX5_readBar_5 ?_
  refine y_aload_n C dX5_readBar_8 (lv_at hl 0 rfl) ?_
  refine g5 C hw ho0 5 (by decide) wd_280 rfl dX5_readBar_9 ?_
  refine y_aload_n C dX5_readBar_12 (lv_at hl 1 rfl) ?_
  refine y_iconst C dX5_readBar_13 ?_
  refine y_sipush C dX5_readBar_14 (by decide) ?_
  obtain ⟨x17, hc17, h⟩ := bd_some h
  refine y_ci (rest := [.int (zI (x1.2 o0 5)), .ref (ad (o0 + 1))]) hw (y_rV C hw ho1 (by decide) rfl rfl (c_X4_number ho1 hc17) mi_X4_number wd_534 wd_448 wd_449 rfl ⟨by decide, by decide⟩ hl rfl (Nat.le_of_ble_eq_true rfl) dX5_readBar_17) (fun H locs hw => ?_)
  obtain ⟨hg20, h⟩ := gd_some h
  obtain ⟨σ20, eσ20, h⟩ := nx_some h
  refine y_iast C hw (ka5_bars ho0) (i' := zm (x1.2 o0 5)) rfl hg20 dX5_readBar_20 (fun H locs hw => ?_)
  rw [← eσ20] at hw
  refine y_aload_n C dX5_readBar_21 (lv_at hl 0 rfl) ?_
  refine g5 C hw ho0 1 (by decide) wd_276 rfl dX5_readBar_22 ?_
  refine y_aload_n C dX5_readBar_25 (lv_at hl 0 rfl) ?_
  refine g5 C hw ho0 5 (by decide) wd_280 rfl dX5_readBar_26 ?_
  refine y_iconst C dX5_readBar_29 ?_
  obtain ⟨hg30, h⟩ := gd_some h
  obtain ⟨σ30, eσ30, h⟩ := nx_some h
  refine y_iast C hw (ka5_firstRungs ho0) (i' := zm (σ20 o0 5)) rfl hg30 dX5_readBar_30 (fun H locs hw => ?_)
  rw [← eσ30] at hw
  refine y_aload_n C dX5_readBar_31 (lv_at hl 0 rfl) ?_
  refine g5 C hw ho0 2 (by decide) wd_277 rfl dX5_readBar_32 ?_
  refine y_aload_n C dX5_readBar_35 (lv_at hl 0 rfl) ?_
  refine g5 C hw ho0 5 (by decide) wd_280 rfl dX5_readBar_36 ?_
  refine y_bipush C dX5_readBar_39 (by decide) ?_
  obtain ⟨hg41, h⟩ := gd_some h
  obtain ⟨σ41, eσ41, h⟩ := nx_some h
  refine y_iast C hw (ka5_lastRungs ho0) (i' := zm (σ30 o0 5)) rfl hg41 dX5_readBar_41 (fun H locs hw => ?_)
  rw [← eσ41] at hw
  refine y_aload_n C dX5_readBar_42 (lv_at hl 0 rfl) ?_
  refine g5 C hw ho0 3 (by decide) wd_278 rfl dX5_readBar_43 ?_
  refine y_aload_n C dX5_readBar_46 (lv_at hl 0 rfl) ?_
  refine g5 C hw ho0 5 (by decide) wd_280 rfl dX5_readBar_47 ?_
  refine y_iconst C dX5_readBar_50 ?_
  obtain ⟨hg51, h⟩ := gd_some h
  obtain ⟨σ51, eσ51, h⟩ := nx_some h
  refine y_iast C hw (ka5_firstMonths ho0) (i' := zm (σ41 o0 5)) rfl hg51 dX5_readBar_51 (fun H locs hw => ?_)
  rw [← eσ51] at hw
  refine y_aload_n C dX5_readBar_52 (lv_at hl 0 rfl) ?_
  refine g5 C hw ho0 4 (by decide) wd_279 rfl dX5_readBar_53 ?_
  refine y_aload_n C dX5_readBar_56 (lv_at hl 0 rfl) ?_
  refine g5 C hw ho0 5 (by decide) wd_280 rfl dX5_readBar_57 ?_
  refine y_bipush C dX5_readBar_60 (by decide) ?_
  obtain ⟨hg62, h⟩ := gd_some h
  obtain ⟨σ62, eσ62, h⟩ := nx_some h
  refine y_iast C hw (ka5_lastMonths ho0) (i' := zm (σ51 o0 5)) rfl hg62 dX5_readBar_62 (fun H locs hw => ?_)
  rw [← eσ62] at hw
  refine y_aload_n C dX5_readBar_63 (lv_at hl 1 rfl) ?_
  refine y_ldcS C (i := 9) (by decide) rfl rfl dX5_readBar_64 ?_
  obtain ⟨x66, hc66, h⟩ := bd_some h
  refine y_ci (rest := []) hw (y_rV C hw ho1 (by decide) rfl rfl (c_X4_isWord ho1 (by decide) hc66) mi_X4_isWord wd_527 wd_387 wd_388 rfl ⟨by decide, by decide⟩ hl rfl (Nat.le_of_ble_eq_true rfl) dX5_readBar_66) (fun H locs hw => ?_)
  refine y_if_eq (tgt := 116) C (a' := zm x66.1) rfl dX5_readBar_69 (by decide) (fun hc => ?_) (fun hc => ?_)
  · rw [if_pos hc] at h
    exact k_X5_readBar_116 C  ho0 ho1 hw hl h
  · rw [if_neg hc] at h
    refine y_aload_n C dX5_readBar_72 (lv_at hl 1 rfl) ?_
    obtain ⟨x73, hc73, h⟩ := bd_some h
    refine y_cv (rest := []) hw (y_rV C hw ho1 (by decide) rfl rfl (c_X4_step ho1 hc73) mi_X4_step wd_533 wd_364 wd_365 rfl ⟨by decide, by decide⟩ hl rfl (Nat.le_of_ble_eq_true rfl) dX5_readBar_73) (fun H locs hw => ?_)
    refine y_aload_n C dX5_readBar_76 (lv_at hl 0 rfl) ?_
    refine g5 C hw ho0 1 (by decide) wd_276 rfl dX5_readBar_77 ?_
    refine y_aload_n C dX5_readBar_80 (lv_at hl 0 rfl) ?_
    refine g5 C hw ho0 5 (by decide) wd_280 rfl dX5_readBar_81 ?_
    refine y_aload_n C dX5_readBar_84 (lv_at hl 1 rfl) ?_
    refine y_iconst C dX5_readBar_85 ?_
    refine y_bipush C dX5_readBar_86 (by decide) ?_
    obtain ⟨x88, hc88, h⟩ := bd_some h
    refine y_ci (rest := [.int (zI (x73.2 o0 5)), .ref (ad (o0 + 2))]) hw (y_rV C hw ho1 (by decide) rfl rfl (c_X4_number ho1 hc88) mi_X4_number wd_534 wd_448 wd_449 rfl ⟨by decide, by decide⟩ hl rfl (Nat.le_of_ble_eq_true rfl) dX5_readBar_88) (fun H locs hw => ?_)
    obtain ⟨hg91, h⟩ := gd_some h
    obtain ⟨σ91, eσ91, h⟩ := nx_some h
    refine y_iast C hw (ka5_firstRungs ho0) (i' := zm (x73.2 o0 5)) rfl hg91 dX5_readBar_91 (fun H locs hw => ?_)
    rw [← eσ91] at hw
    refine y_aload_n C dX5_readBar_92 (lv_at hl 0 rfl) ?_
    refine g5 C hw ho0 2 (by decide) wd_277 rfl dX5_readBar_93 ?_
    refine y_aload_n C dX5_readBar_96 (lv_at hl 0 rfl) ?_
    refine g5 C hw ho0 5 (by decide) wd_280 rfl dX5_readBar_97 ?_
    refine y_aload_n C dX5_readBar_100 (lv_at hl 1 rfl) ?_
    refine y_aload_n C dX5_readBar_101 (lv_at hl 0 rfl) ?_
    refine g5 C hw ho0 1 (by decide) wd_276 rfl dX5_readBar_102 ?_
    refine y_aload_n C dX5_readBar_105 (lv_at hl 0 rfl) ?_
    refine g5 C hw ho0 5 (by decide) wd_280 rfl dX5_readBar_106 ?_
    obtain ⟨hg109, h⟩ := gd_some h
    refine y_iald C hw (ka5_firstRungs ho0) (i' := zm (σ91 o0 5)) rfl hg109 dX5_readBar_109 ?_
    refine y_bipush C dX5_readBar_110 (by decide) ?_
    obtain ⟨x112, hc112, h⟩ := bd_some h
    refine y_ci (rest := [.int (zI (σ91 o0 5)), .ref (ad (o0 + 3))]) hw (y_rV C hw ho1 (by decide) rfl rfl (c_X4_number ho1 hc112) mi_X4_number wd_534 wd_448 wd_449 rfl ⟨by decide, by decide⟩ hl rfl (Nat.le_of_ble_eq_true rfl) dX5_readBar_112) (fun H locs hw => ?_)
    obtain ⟨σ115, eσ115, h⟩ := nx_some h
    refine y_iast C hw (ka5_lastRungs ho0) (i' := zm (σ91 o0 5)) rfl hg109 dX5_readBar_115 (fun H locs hw => ?_)
    rw [← eσ115] at hw
    exact k_X5_readBar_116 C  ho0 ho1 hw hl h
theorem c_X5_readBar {l : Launch} {D : va_G} {cA : Nat → ClassId} {adK adV : Nat → Nat} {A : Nat → Prop} {ad : Int → Nat} {R : va_W} {σ : St} {res : Int × St} {o0 : Int} {o1 : Int} (ho0 : kX o0 = (5, 0)) (ho1 : kX o1 = (4, 0)) (h : p_X5_readBar o0 o1 σ = some res) : Met l yX5_readBar (wsU yX5_readBar cX5_readBar 2 none) (rmU 5 112) (va_Pc [.ref (ad o0), .ref (ad o1)] (Pr D cA adK adV ad kX 151 R A σ)) (QV D cA ad kX 151 R A res) 0 0 A :=
  y_met (own := RX5) (by decide) rfl _ (Nat.le_of_ble_eq_true rfl) (fun p e s m args below meth c ls C hl hw => k_X5_readBar_0 C ho0 ho1 hw hl h)
/-! RungHouse$Rule.readFrom -/
set_option maxRecDepth 100000 in
set_option maxHeartbeats 4000000 in
theorem k_X5_readFrom_72 {K11 : Int → Int → Int → St → Option (Int × St)} {o0 : Int} {o1 : Int} {v2 : Int} (C : Cx cX5_readFrom RX5 3 none D cA adK adV A p s m args meth c) (hK11 : ∀ (o0 : Int) (o1 : Int) (v2 : Int) (σ : St) (H : Heap) (locs : List Loc) (ls : Array Slot) (ho0 : kX o0 = (5, 0)) (ho1 : kX o1 = (4, 0)), At D cA ad kX 151 R A s σ H locs → lv_has ls 3 [(0, .ref (ad o0)), (1, .ref (ad o1)), (2, .int (zI v2))] → K11 o0 o1 v2 σ = some res → W p l e (rmU 6 133) s m args below meth c H locs 0 0 (MQ below (QV D cA ad kX 151 R A res) args s 0 0 A) (F0 m 11 ls [])) {σ : St} {H : Heap} {locs : List Loc} {ls : Array Slot} (ho0 : kX o0 = (5, 0)) (ho1 : kX o1 = (4, 0)) (hw : At D cA ad kX 151 R A s σ H locs) (hl : lv_has ls 3 [(0, .ref (ad o0)), (1, .ref (ad o1)), (2, .int (zI v2))]) (h : p_X5_readFrom_72 K11 o0 o1 v2 σ = some res) : W p l e (rmU 6 133) s m args below meth c H locs 0 0 (MQ below (QV D cA ad kX 151 R A res) args s 0 0 A) (F0 m 72 ls []) := by
  have h := h
  unfold p_X5_readFrom_72 at h
  refine y_iinc (lv' := [(2, .int (zI (v2 + 1))), (0, .ref (ad o0)), (1, .ref (ad o1))]) C dX5_readFrom_72 hl (k := 2) rfl (by decide) rfl (fun ls hl => ?_)
  refine y_goto (tgt := 11) C dX5_readFrom_75 (by decide) ?_
  exact hK11 _ _ _ _ _ _ _ ho0 ho1 hw (lv_sub hl [1, 2, 0] rfl) h
set_option maxRecDepth 100000 in
set_option maxHeartbeats 4000000 in
theorem k_X5_readFrom_11b {K11 : Int → Int → Int → St → Option (Int × St)} {o0 : Int} {o1 : Int} {v2 : Int} (C : Cx cX5_readFrom RX5 3 none D cA adK adV A p s m args meth c)  (hK11 : ∀ (o0 : Int) (o1 : Int) (v2 : Int) (σ : St) (H : Heap) (locs : List Loc) (ls : Array Slot) (ho0 : kX o0 = (5, 0)) (ho1 : kX o1 = (4, 0)), At D cA ad kX 151 R A s σ H locs → lv_has ls 3 [(0, .ref (ad o0)), (1, .ref (ad o1)), (2, .int (zI v2))] → K11 o0 o1 v2 σ = some res → W p l e (rmU 6 133) s m args below meth c H locs 0 0 (MQ below (QV D cA ad kX 151 R A res) args s 0 0 A) (F0 m 11 ls [])) {σ : St} {H : Heap} {locs : List Loc} {ls : Array Slot} (ho0 : kX o0 = (5, 0)) (ho1 : kX o1 = (4, 0)) (hw : At D cA ad kX 151 R A s σ H locs) (hl : lv_has ls 3 [(0, .ref (ad o0)), (1, .ref (ad o1)), (2, .int (zI v2))]) (h : p_X5_readFrom_11b K11 o0 o1 v2 σ = some res) : W p l e (rmU 6 133) s m args below meth c H locs 0 0 (MQ below (QV D cA ad kX 151 R A res) args s 0 0 A) (F0 m 11 ls []) := by
  have h := h
  unfold p_X5_readFrom_11b at h
  refine y_iload_n C dX5_readFrom_11 (lv_at hl 2 rfl) ?_
  refine y_sipush C dX5_readFrom_12 (by decide) ?_
  refine y_icmp_ge (tgt := 78) C (a' := zm v2) (b' := 300) rfl (by decide) dX5_readFrom_15 (by decide) (fun hc => ?_) (fun hc => ?_)
  · rw [if_pos hc] at h
    exact y_vret C hw h dX5_readFrom_78
  · rw [if_neg hc] at h
    refine y_aload_n C dX5_readFrom_18 (lv_at hl 1 rfl) ?_
    obtain ⟨x19, hc19, h⟩ := bd_some h
    refine y_ci (rest := []) hw (y_rV C hw ho1 (by decide) rfl rfl (c_X4_goesOn ho1 hc19) mi_X4_goesOn wd_525 wd_382 wd_383 rfl ⟨by decide, by decide⟩ hl rfl (Nat.le_of_ble_eq_true rfl) dX5_readFrom_19) (fun H locs hw => ?_)
    refine y_if_eq (tgt := 78) C (a' := zm x19.1) rfl dX5_readFrom_22 (by decide) (fun hc => ?_) (fun hc => ?_)
    · rw [if_pos hc] at h
      exact y_vret C hw h dX5_readFrom_78
    · rw [if_neg hc] at h
      refine y_aload_n C dX5_readFrom_25 (lv_at hl 1 rfl) ?_
      refine y_ldcS C (i := 8) (by decide) rfl rfl dX5_readFrom_26 ?_
      obtain ⟨x28, hc28, h⟩ := bd_some h
      refine y_ci (rest := []) hw (y_rV C hw ho1 (by decide) rfl rfl (c_X4_isWord ho1 (by decide) hc28) mi_X4_isWord wd_527 wd_387 wd_388 rfl ⟨by decide, by decide⟩ hl rfl (Nat.le_of_ble_eq_true rfl) dX5_readFrom_28) (fun H locs hw => ?_)
      refine y_if_ne (tgt := 46) C (a' := zm x28.1) rfl dX5_readFrom_31 (by decide) (fun hc => ?_) (fun hc => ?_)
      · rw [if_pos hc] at h
        refine y_aload_n C dX5_readFrom_34 (lv_at hl 1 rfl) ?_
        refine y_iconst C dX5_readFrom_35 ?_
        refine y_aload_n C dX5_readFrom_36 (lv_at hl 1 rfl) ?_
        refine g4 C hw ho1 5 (by decide) wd_40 rfl dX5_readFrom_37 ?_
        obtain ⟨x40, hc40, h⟩ := bd_some h
        refine y_cv (rest := []) hw (y_rV C hw ho1 (by decide) rfl rfl (c_X4_fail ho1 hc40) mi_X4_fail wd_528 wd_443 wd_444 rfl ⟨by decide, by decide⟩ hl rfl (Nat.le_of_ble_eq_true rfl) dX5_readFrom_40) (fun H locs hw => ?_)
        refine y_goto (tgt := 72) C dX5_readFrom_43 (by decide) ?_
        exact k_X5_readFrom_72 C hK11 ho0 ho1 hw hl h
      · rw [if_neg hc] at h
        refine y_aload_n C dX5_readFrom_46 (lv_at hl 0 rfl) ?_
        refine g5 C hw ho0 5 (by decide) wd_280 rfl dX5_readFrom_47 ?_
        refine y_bipush C dX5_readFrom_50 (by decide) ?_
        refine y_icmp_lt (tgt := 67) C (a' := zm (x28.2 o0 5)) (b' := 6) rfl (by decide) dX5_readFrom_52 (by decide) (fun hc => ?_) (fun hc => ?_)
        · rw [if_pos hc] at h
          refine y_aload_n C dX5_readFrom_67 (lv_at hl 0 rfl) ?_
          refine y_aload_n C dX5_readFrom_68 (lv_at hl 1 rfl) ?_
          obtain ⟨x69, hc69, h⟩ := bd_some h
          refine y_cv (rest := []) hw (y_rV C hw ho0 (by decide) rfl rfl (c_X5_readBar ho0 ho1 hc69) mi_X5_readBar wd_529 wd_531 ws_9 rfl ⟨by decide, by decide⟩ hl rfl (Nat.le_of_ble_eq_true rfl) dX5_readFrom_69) (fun H locs hw => ?_)
          exact k_X5_readFrom_72 C hK11 ho0 ho1 hw hl h
        · rw [if_neg hc] at h
          refine y_aload_n C dX5_readFrom_55 (lv_at hl 1 rfl) ?_
          refine y_iconst C dX5_readFrom_56 ?_
          refine y_aload_n C dX5_readFrom_57 (lv_at hl 1 rfl) ?_
          refine g4 C hw ho1 5 (by decide) wd_40 rfl dX5_readFrom_58 ?_
          obtain ⟨x61, hc61, h⟩ := bd_some h
          refine y_cv (rest := []) hw (y_rV C hw ho1 (by decide) rfl rfl (c_X4_fail ho1 hc61) mi_X4_fail wd_528 wd_443 wd_444 rfl ⟨by decide, by decide⟩ hl rfl (Nat.le_of_ble_eq_true rfl) dX5_readFrom_61) (fun H locs hw => ?_)
          refine y_goto (tgt := 72) C dX5_readFrom_64 (by decide) ?_
          exact k_X5_readFrom_72 C hK11 ho0 ho1 hw hl h
set_option maxRecDepth 100000 in
theorem k_X5_readFrom_11  (C : Cx cX5_readFrom RX5 3 none D cA adK adV A p s m args meth c)  : ∀ (n : Nat) (o0 : Int) (o1 : Int) (v2 : Int) (σ : St) (H : Heap) (locs : List Loc) (ls : Array Slot) (ho0 : kX o0 = (5, 0)) (ho1 : kX o1 = (4, 0)), At D cA ad kX 151 R A s σ H locs → lv_has ls 3 [(0, .ref (ad o0)), (1, .ref (ad o1)), (2, .int (zI v2))] → p_X5_readFrom_11  n o0 o1 v2 σ = some res → W p l e (rmU 6 133) s m args below meth c H locs 0 0 (MQ below (QV D cA ad kX 151 R A res) args s 0 0 A) (F0 m 11 ls []) := by
  intro n
  induction n with
  | zero =>
    intro o0 o1 v2 σ H locs ls ho0 ho1 hw hl h
    have h : none = some res := h
    cases h
  | succ n ih =>
    intro o0 o1 v2 σ H locs ls ho0 ho1 hw hl h
    exact k_X5_readFrom_11b C  ih ho0 ho1 hw hl h
set_option maxRecDepth 100000 in
set_option maxHeartbeats 4000000 in
theorem k_X5_readFrom_0  {o0 : Int} {o1 : Int} (C : Cx cX5_readFrom RX5 3 none D cA adK adV A p s m args meth c)  {σ : St} {H : Heap} {locs : List Loc} {ls : Array Slot} (ho0 : kX o0 = (5, 0)) (ho1 : kX o1 = (4, 0)) (hw : At D cA ad kX 151 R A s σ H locs) (hl : lv_has ls 3 [(0, .ref (ad o0)), (1, .ref (ad o1))]) (h : p_X5_readFrom  o0 o1 σ = some res) : W p l e (rmU 6 133) s m args below meth c H locs 0 0 (MQ below (QV D cA ad kX 151 R A res) args s 0 0 A) (F0 m 0 ls []) := by
  have h := h
  unfold p_X5_readFrom at h
  refine y_aload_n C dX5_readFrom_0 (lv_at hl 0 rfl) ?_
  refine y_iconst C dX5_readFrom_1 ?_
  obtain ⟨σ2, eσ2, h⟩ := nx_some h
  refine q5 C hw ho0 5 (by decide) wd_280 rfl rfl rfl (by decide) 0 5 rfl rfl dX5_readFrom_2 (fun H locs hw => ?_)
  rw [← eσ2] at hw
  refine y_aload_n C dX5_readFrom_5 (lv_at hl 1 rfl) ?_
  obtain ⟨x6, hc6, h⟩ := bd_some h
  refine y_cv (rest := []) hw (y_rV C hw ho1 (by decide) rfl rfl (c_X4_open ho1 hc6) mi_X4_open wd_524 wd_360 wd_361 rfl ⟨by decide, by decide⟩ hl rfl (Nat.le_of_ble_eq_true rfl) dX5_readFrom_6) (fun H locs hw => ?_)
  refine y_iconst C dX5_readFrom_9 ?_
  refine y_istore_n (lv' := [(2, .int (zI 0)), (0, .ref (ad o0)), (1, .ref (ad o1))]) C dX5_readFrom_10 hl (by decide) rfl (fun ls hl => ?_)
  exact k_X5_readFrom_11 C  FU _ _ _ _ _ _ _ ho0 ho1 hw (lv_sub hl [1, 2, 0] rfl) h
theorem c_X5_readFrom {l : Launch} {D : va_G} {cA : Nat → ClassId} {adK adV : Nat → Nat} {A : Nat → Prop} {ad : Int → Nat} {R : va_W} {σ : St} {res : Int × St} {o0 : Int} {o1 : Int} (ho0 : kX o0 = (5, 0)) (ho1 : kX o1 = (4, 0)) (h : p_X5_readFrom o0 o1 σ = some res) : Met l yX5_readFrom (wsU yX5_readFrom cX5_readFrom 3 none) (rmU 6 133) (va_Pc [.ref (ad o0), .ref (ad o1)] (Pr D cA adK adV ad kX 151 R A σ)) (QV D cA ad kX 151 R A res) 0 0 A :=
  y_met (own := RX5) (by decide) rfl _ (Nat.le_of_ble_eq_true rfl) (fun p e s m args below meth c ls C hl hw => k_X5_readFrom_0 C ho0 ho1 hw hl h)
/-! RungHouse$Sort.sumDrawn -/
set_option maxRecDepth 100000 in
set_option maxHeartbeats 4000000 in
theorem k_X6_sumDrawn_4b {K4 : Int → Int → Int → Int → St → Option (Int × St)} {o0 : Int} {v1 : Int} {v2 : Int} {v3 : Int} (C : Cx cX6_sumDrawn RX6 4 (some .int) D cA adK adV A p s m args meth c)  (hK4 : ∀ (o0 : Int) (v1 : Int) (v2 : Int) (v3 : Int) (σ : St) (H : Heap) (locs : List Loc) (ls : Array Slot) (ho0 : kX o0 = (6, 0)), At D cA ad kX 151 R A s σ H locs → lv_has ls 4 [(0, .ref (ad o0)), (1, .int (zI v1)), (2, .int (zI v2)), (3, .int (zI v3))] → K4 o0 v1 v2 v3 σ = some res → W p l e (rmU 0 0) s m args below meth c H locs 0 0 (MQ below (QI D cA ad kX 151 R A res) args s 0 0 A) (F0 m 4 ls [])) {σ : St} {H : Heap} {locs : List Loc} {ls : Array Slot} (ho0 : kX o0 = (6, 0)) (hw : At D cA ad kX 151 R A s σ H locs) (hl : lv_has ls 4 [(0, .ref (ad o0)), (1, .int (zI v1)), (2, .int (zI v2)), (3, .int (zI v3))]) (h : p_X6_sumDrawn_4b K4 o0 v1 v2 v3 σ = some res) : W p l e (rmU 0 0) s m args below meth c H locs 0 0 (MQ below (QI D cA ad kX 151 R A res) args s 0 0 A) (F0 m 4 ls []) := by
  have h := h
  unfold p_X6_sumDrawn_4b at h
  refine y_iload_n C dX6_sumDrawn_4 (lv_at hl 3 rfl) ?_
  refine y_aload_n C dX6_sumDrawn_5 (lv_at hl 0 rfl) ?_
  refine g6 C hw ho0 3 (by decide) wd_193 rfl dX6_sumDrawn_6 ?_
  refine y_icmp_ge (tgt := 39) C (a' := zm v3) (b' := zm (σ o0 3)) rfl rfl dX6_sumDrawn_9 (by decide) (fun hc => ?_) (fun hc => ?_)
  · rw [if_pos hc] at h
    refine y_iconst C dX6_sumDrawn_39 ?_
    exact y_iret C hw h dX6_sumDrawn_40
  · rw [if_neg hc] at h
    refine y_iload_n C dX6_sumDrawn_12 (lv_at hl 2 rfl) ?_
    refine y_aload_n C dX6_sumDrawn_13 (lv_at hl 0 rfl) ?_
    refine g6 C hw ho0 1 (by decide) wd_190 rfl dX6_sumDrawn_14 ?_
    refine y_iload_n C dX6_sumDrawn_17 (lv_at hl 3 rfl) ?_
    obtain ⟨hg18, h⟩ := gd_some h
    refine y_iald C hw (ka6_chances ho0) (i' := zm v3) rfl hg18 dX6_sumDrawn_18 ?_
    refine y_iadd C dX6_sumDrawn_19 ?_
    refine y_istore_n (lv' := [(2, .int (zI (v2 + (σ (o0 + 2) (zm v3))))), (0, .ref (ad o0)), (1, .int (zI v1)), (3, .int (zI v3))]) C dX6_sumDrawn_20 hl (by decide) rfl (fun ls hl => ?_)
    refine y_iload_n C dX6_sumDrawn_21 (lv_at hl 0 rfl) ?_
    refine y_iload_n C dX6_sumDrawn_22 (lv_at hl 2 rfl) ?_
    refine y_icmp_le (tgt := 33) C (a' := zm (v2 + (σ (o0 + 2) (zm v3)))) (b' := zm v1) rfl rfl dX6_sumDrawn_23 (by decide) (fun hc => ?_) (fun hc => ?_)
    · rw [if_pos hc] at h
      refine y_iinc (lv' := [(3, .int (zI (v3 + 1))), (2, .int (zI (v2 + (σ (o0 + 2) (zm v3))))), (0, .ref (ad o0)), (1, .int (zI v1))]) C dX6_sumDrawn_33 hl (k := 3) rfl (by decide) rfl (fun ls hl => ?_)
      refine y_goto (tgt := 4) C dX6_sumDrawn_36 (by decide) ?_
      exact hK4 _ _ _ _ _ _ _ _ ho0 hw (lv_sub hl [2, 3, 1, 0] rfl) h
    · rw [if_neg hc] at h
      refine y_aload_n C dX6_sumDrawn_26 (lv_at hl 1 rfl) ?_
      refine g6 C hw ho0 0 (by decide) wd_187 rfl dX6_sumDrawn_27 ?_
      refine y_iload_n C dX6_sumDrawn_30 (lv_at hl 3 rfl) ?_
      refine y_iald C hw (ka6_sums ho0) (i' := zm v3) rfl hg18 dX6_sumDrawn_31 ?_
      exact y_iret C hw h dX6_sumDrawn_32
set_option maxRecDepth 100000 in
theorem k_X6_sumDrawn_4  (C : Cx cX6_sumDrawn RX6 4 (some .int) D cA adK adV A p s m args meth c)  : ∀ (n : Nat) (o0 : Int) (v1 : Int) (v2 : Int) (v3 : Int) (σ : St) (H : Heap) (locs : List Loc) (ls : Array Slot) (ho0 : kX o0 = (6, 0)), At D cA ad kX 151 R A s σ H locs → lv_has ls 4 [(0, .ref (ad o0)), (1, .int (zI v1)), (2, .int (zI v2)), (3, .int (zI v3))] → p_X6_sumDrawn_4  n o0 v1 v2 v3 σ = some res → W p l e (rmU 0 0) s m args below meth c H locs 0 0 (MQ below (QI D cA ad kX 151 R A res) args s 0 0 A) (F0 m 4 ls []) := by
  intro n
  induction n with
  | zero =>
    intro o0 v1 v2 v3 σ H locs ls ho0 hw hl h
    have h : none = some res := h
    cases h
  | succ n ih =>
    intro o0 v1 v2 v3 σ H locs ls ho0 hw hl h
    exact k_X6_sumDrawn_4b C  ih ho0 hw hl h
set_option maxRecDepth 100000 in
set_option maxHeartbeats 4000000 in
theorem k_X6_sumDrawn_0  {o0 : Int} {v1 : Int} (C : Cx cX6_sumDrawn RX6 4 (some .int) D cA adK adV A p s m args meth c)  {σ : St} {H : Heap} {locs : List Loc} {ls : Array Slot} (ho0 : kX o0 = (6, 0)) (hw : At D cA ad kX 151 R A s σ H locs) (hl : lv_has ls 4 [(0, .ref (ad o0)), (1, .int (zI v1))]) (h : p_X6_sumDrawn  o0 v1 σ = some res) : W p l e (rmU 0 0) s m args below meth c H locs 0 0 (MQ below (QI D cA ad kX 151 R A res) args s 0 0 A) (F0 m 0 ls []) := by
  have h := h
  unfold p_X6_sumDrawn at h
  refine y_iconst C dX6_sumDrawn_0 ?_
  refine y_istore_n (lv' := [(2, .int (zI 0)), (0, .ref (ad o0)), (1, .int (zI v1))]) C dX6_sumDrawn_1 hl (by decide) rfl (fun ls hl => ?_)
  refine y_iconst C dX6_sumDrawn_2 ?_
  refine y_istore_n (lv' := [(3, .int (zI 0)), (2, .int (zI 0)), (0, .ref (ad o0)), (1, .int (zI v1))]) C dX6_sumDrawn_3 hl (by decide) rfl (fun ls hl => ?_)
  exact k_X6_sumDrawn_4 C  FU _ _ _ _ _ _ _ _ ho0 hw (lv_sub hl [2, 3, 1, 0] rfl) h
theorem c_X6_sumDrawn {l : Launch} {D : va_G} {cA : Nat → ClassId} {adK adV : Nat → Nat} {A : Nat → Prop} {ad : Int → Nat} {R : va_W} {σ : St} {res : Int × St} {o0 : Int} {v1 : Int} (ho0 : kX o0 = (6, 0)) (h : p_X6_sumDrawn o0 v1 σ = some res) : Met l yX6_sumDrawn (wsU yX6_sumDrawn cX6_sumDrawn 4 (some .int)) (rmU 0 0) (va_Pc [.ref (ad o0), .int (zI v1)] (Pr D cA adK adV ad kX 151 R A σ)) (QI D cA ad kX 151 R A res) 0 0 A :=
  y_met (own := RX6) (by decide) rfl _ (Nat.le_of_ble_eq_true rfl) (fun p e s m args below meth c ls C hl hw => k_X6_sumDrawn_0 C ho0 hw hl h)
/-! RungHouse$Sort.readScrape -/
set_option maxRecDepth 100000 in
set_option maxHeartbeats 4000000 in
theorem k_X6_readScrape_119  {o0 : Int} {o1 : Int} (C : Cx cX6_readScrape RX6 3 none D cA adK adV A p s m args meth c)  {σ : St} {H : Heap} {locs : List Loc} {ls : Array Slot} (ho0 : kX o0 = (6, 0)) (ho1 : kX o1 = (4, 0)) (hw : At D cA ad kX 151 R A s σ H locs) (hl : lv_has ls 3 [(0, .ref (ad o0)), (1, .ref (ad o1))]) (h : p_X6_readScrape_119  o0 o1 σ = some res) : W p l e (rmU 4 83) s m args below meth c H locs 0 0 (MQ below (QV D cA ad kX 151 R A res) args s 0 0 A) (F0 m 119 ls []) := by
  have h := h
  unfold p_X6_readScrape_119 at h
  refine y_aload_n C dX6_readScrape_119 (lv_at hl 1 rfl) ?_
  obtain ⟨x120, hc120, h⟩ := bd_some h
  refine y_cv (rest := []) hw (y_rV C hw ho1 (by decide) rfl rfl (c_X4_closeClause ho1 hc120) mi_X4_closeClause wd_506 wd_455 wd_456 rfl ⟨by decide, by decide⟩ hl rfl (Nat.le_of_ble_eq_true rfl) dX6_readScrape_120) (fun H locs hw => ?_)
  refine y_aload_n C dX6_readScrape_123 (lv_at hl 0 rfl) ?_
  refine y_dup C dX6_readScrape_124 rfl ?_
  refine g6 C hw ho0 3 (by decide) wd_193 rfl dX6_readScrape_125 ?_
  refine y_iconst C dX6_readScrape_128 ?_
  refine y_iadd C dX6_readScrape_129 ?_
  obtain ⟨σ130, eσ130, h⟩ := nx_some h
  refine q6 C hw ho0 3 (by decide) wd_193 rfl rfl rfl (by decide) ((x120.2 o0 3) + 1) 3 rfl rfl dX6_readScrape_130 (fun H locs hw => ?_)
  rw [← eσ130] at hw
  exact y_vret C hw h dX6_readScrape_133
set_option maxRecDepth 100000 in
set_option maxHeartbeats 4000000 in
theorem k_X6_readScrape_56  {o0 : Int} {o1 : Int} {os0 : Int} {vs1 : Int} {os2 : Int} {vs3 : Int} (C : Cx cX6_readScrape RX6 3 none D cA adK adV A p s m args meth c)  {σ : St} {H : Heap} {locs : List Loc} {ls : Array Slot} (ho0 : kX o0 = (6, 0)) (ho1 : kX o1 = (4, 0)) (hos0 : kX os0 = (20, 8)) (hos2 : kX os2 = (4, 0)) (hw : At D cA ad kX 151 R A s σ H locs) (hl : lv_has ls 3 [(0, .ref (ad o0)), (1, .ref (ad o1))]) (h : p_X6_readScrape_56  o0 o1 os0 vs1 os2 vs3 σ = some res) : W p l e (rmU 4 83) s m args below meth c H locs 0 0 (MQ below (QV D cA ad kX 151 R A res) args s 0 0 A) (F0 m 56 ls [.int (zI vs3), .ref (ad os2), .int (zI vs1), .ref (ad os0)]) := by
  have h := h
  unfold p_X6_readScrape_56 at h
  refine y_sipush C dX6_readScrape_56 (by decide) ?_
  obtain ⟨x59, hc59, h⟩ := bd_some h
  refine y_ci (rest := [.int (zI vs1), .ref (ad os0)]) hw (y_rV C hw hos2 (by decide) rfl rfl (c_X4_number hos2 hc59) mi_X4_number wd_505 wd_448 wd_449 rfl ⟨by decide, by decide⟩ hl rfl (Nat.le_of_ble_eq_true rfl) dX6_readScrape_59) (fun H locs hw => ?_)
  obtain ⟨hg62, h⟩ := gd_some h
  obtain ⟨σ62, eσ62, h⟩ := nx_some h
  refine y_iast C hw hos0 (i' := zm vs1) rfl hg62 dX6_readScrape_62 (fun H locs hw => ?_)
  rw [← eσ62] at hw
  refine y_aload_n C dX6_readScrape_63 (lv_at hl 1 rfl) ?_
  refine g4 C hw ho1 5 (by decide) wd_41 rfl dX6_readScrape_64 ?_
  refine y_istore_n (lv' := [(2, .int (zI (σ62 o1 5))), (0, .ref (ad o0)), (1, .ref (ad o1))]) C dX6_readScrape_67 hl (by decide) rfl (fun ls hl => ?_)
  refine y_aload_n C dX6_readScrape_68 (lv_at hl 1 rfl) ?_
  refine g6 C hw ho0 1 (by decide) wd_190 rfl dX6_readScrape_69 ?_
  refine y_aload_n C dX6_readScrape_72 (lv_at hl 1 rfl) ?_
  refine g6 C hw ho0 3 (by decide) wd_193 rfl dX6_readScrape_73 ?_
  refine y_aload_n C dX6_readScrape_76 (lv_at hl 2 rfl) ?_
  refine y_iconst C dX6_readScrape_77 ?_
  refine y_sipush C dX6_readScrape_78 (by decide) ?_
  obtain ⟨x81, hc81, h⟩ := bd_some h
  refine y_ci (rest := [.int (zI (σ62 o0 3)), .ref (ad (o0 + 2))]) hw (y_rV C hw ho1 (by decide) rfl rfl (c_X4_number ho1 hc81) mi_X4_number wd_505 wd_448 wd_449 rfl ⟨by decide, by decide⟩ hl rfl (Nat.le_of_ble_eq_true rfl) dX6_readScrape_81) (fun H locs hw => ?_)
  obtain ⟨hg84, h⟩ := gd_some h
  obtain ⟨σ84, eσ84, h⟩ := nx_some h
  refine y_iast C hw (ka6_chances ho0) (i' := zm (σ62 o0 3)) rfl hg84 dX6_readScrape_84 (fun H locs hw => ?_)
  rw [← eσ84] at hw
  refine y_aload_n C dX6_readScrape_85 (lv_at hl 1 rfl) ?_
  refine y_dup C dX6_readScrape_86 rfl ?_
  refine g6 C hw ho0 4 (by decide) wd_196 rfl dX6_readScrape_87 ?_
  refine y_aload_n C dX6_readScrape_90 (lv_at hl 1 rfl) ?_
  refine g6 C hw ho0 1 (by decide) wd_190 rfl dX6_readScrape_91 ?_
  refine y_aload_n C dX6_readScrape_94 (lv_at hl 1 rfl) ?_
  refine g6 C hw ho0 3 (by decide) wd_193 rfl dX6_readScrape_95 ?_
  obtain ⟨hg98, h⟩ := gd_some h
  refine y_iald C hw (ka6_chances ho0) (i' := zm (σ84 o0 3)) rfl hg98 dX6_readScrape_98 ?_
  refine y_iadd C dX6_readScrape_99 ?_
  obtain ⟨σ100, eσ100, h⟩ := nx_some h
  refine q6 C hw ho0 4 (by decide) wd_196 rfl rfl rfl (by decide) ((σ84 o0 4) + (σ84 (o0 + 2) (zm (σ84 o0 3)))) 4 rfl rfl dX6_readScrape_100 (fun H locs hw => ?_)
  rw [← eσ100] at hw
  refine y_aload_n C dX6_readScrape_103 (lv_at hl 1 rfl) ?_
  refine g6 C hw ho0 4 (by decide) wd_196 rfl dX6_readScrape_104 ?_
  refine y_sipush C dX6_readScrape_107 (by decide) ?_
  refine y_icmp_le (tgt := 119) C (a' := zm (σ100 o0 4)) (b' := 1000) rfl (by decide) dX6_readScrape_110 (by decide) (fun hc => ?_) (fun hc => ?_)
  · rw [if_pos hc] at h
    exact k_X6_readScrape_119 C  ho0 ho1 hw (lv_sub hl [1, 2] rfl) h
  · rw [if_neg hc] at h
    refine y_aload_n C dX6_readScrape_113 (lv_at hl 2 rfl) ?_
    refine y_iconst C dX6_readScrape_114 ?_
    refine y_iload_n C dX6_readScrape_115 (lv_at hl 0 rfl) ?_
    obtain ⟨x116, hc116, h⟩ := bd_some h
    refine y_cv (rest := []) hw (y_rV C hw ho1 (by decide) rfl rfl (c_X4_fail ho1 hc116) mi_X4_fail wd_503 wd_443 wd_444 rfl ⟨by decide, by decide⟩ hl rfl (Nat.le_of_ble_eq_true rfl) dX6_readScrape_116) (fun H locs hw => ?_)
    exact k_X6_readScrape_119 C  ho0 ho1 hw (lv_sub hl [1, 2] rfl) h
set_option maxRecDepth 100000 in
set_option maxHeartbeats 4000000 in
theorem k_X6_readScrape_0  {o0 : Int} {o1 : Int} (C : Cx cX6_readScrape RX6 3 none D cA adK adV A p s m args meth c)  {σ : St} {H : Heap} {locs : List Loc} {ls : Array Slot} (ho0 : kX o0 = (6, 0)) (ho1 : kX o1 = (4, 0)) (hw : At D cA ad kX 151 R A s σ H locs) (hl : lv_has ls 3 [(0, .ref (ad o0)), (1, .ref (ad o1))]) (h : p_X6_readScrape  o0 o1 σ = some res) : W p l e (rmU 4 83) s m args below meth c H locs 0 0 (MQ below (QV D cA ad kX 151 R A res) args s 0 0 A) (F0 m 0 ls []) := by
  have h := h
  unfold p_X6_readScrape at h
  refine y_aload_n C dX6_readScrape_0 (lv_at hl 0 rfl) ?_
  refine g6 C hw ho0 3 (by decide) wd_193 rfl dX6_readScrape_1 ?_
  refine y_bipush C dX6_readScrape_4 (by decide) ?_
  refine y_icmp_lt (tgt := 19) C (a' := zm (σ o0 3)) (b' := 8) rfl (by decide) dX6_readScrape_6 (by decide) (fun hc => ?_) (fun hc => ?_)
  · rw [if_pos hc] at h
    refine y_aload_n C dX6_readScrape_19 (lv_at hl 1 rfl) ?_
    obtain ⟨x20, hc20, h⟩ := bd_some h
    refine y_cv (rest := []) hw (y_rV C hw ho1 (by decide) rfl rfl (c_X4_step ho1 hc20) mi_X4_step wd_504 wd_364 wd_365 rfl ⟨by decide, by decide⟩ hl rfl (Nat.le_of_ble_eq_true rfl) dX6_readScrape_20) (fun H locs hw => ?_)
    refine y_aload_n C dX6_readScrape_23 (lv_at hl 0 rfl) ?_
    refine g6 C hw ho0 0 (by decide) wd_187 rfl dX6_readScrape_24 ?_
    refine y_aload_n C dX6_readScrape_27 (lv_at hl 0 rfl) ?_
    refine g6 C hw ho0 3 (by decide) wd_193 rfl dX6_readScrape_28 ?_
    refine y_aload_n C dX6_readScrape_31 (lv_at hl 1 rfl) ?_
    refine y_aload_n C dX6_readScrape_32 (lv_at hl 0 rfl) ?_
    refine g6 C hw ho0 3 (by decide) wd_193 rfl dX6_readScrape_33 ?_
    refine y_if_le (tgt := 55) C (a' := zm (x20.2 o0 3)) rfl dX6_readScrape_36 (by decide) (fun hc => ?_) (fun hc => ?_)
    · rw [if_pos hc] at h
      refine y_iconst C dX6_readScrape_55 ?_
      exact k_X6_readScrape_56 C  ho0 ho1 (ka6_sums ho0) ho1 hw hl h
    · rw [if_neg hc] at h
      refine y_aload_n C dX6_readScrape_39 (lv_at hl 0 rfl) ?_
      refine g6 C hw ho0 0 (by decide) wd_187 rfl dX6_readScrape_40 ?_
      refine y_aload_n C dX6_readScrape_43 (lv_at hl 0 rfl) ?_
      refine g6 C hw ho0 3 (by decide) wd_193 rfl dX6_readScrape_44 ?_
      refine y_iconst C dX6_readScrape_47 ?_
      refine y_isub C dX6_readScrape_48 ?_
      obtain ⟨hg49, h⟩ := gd_some h
      refine y_iald C hw (ka6_sums ho0) (i' := zm ((x20.2 o0 3) - 1)) rfl hg49 dX6_readScrape_49 ?_
      refine y_iconst C dX6_readScrape_50 ?_
      refine y_iadd C dX6_readScrape_51 ?_
      refine y_goto (tgt := 56) C dX6_readScrape_52 (by decide) ?_
      exact k_X6_readScrape_56 C  ho0 ho1 (ka6_sums ho0) ho1 hw hl h
  · rw [if_neg hc] at h
    refine y_aload_n C dX6_readScrape_9 (lv_at hl 1 rfl) ?_
    refine y_iconst C dX6_readScrape_10 ?_
    refine y_aload_n C dX6_readScrape_11 (lv_at hl 1 rfl) ?_
    refine g4 C hw ho1 5 (by decide) wd_41 rfl dX6_readScrape_12 ?_
    obtain ⟨x15, hc15, h⟩ := bd_some h
    refine y_cv (rest := []) hw (y_rV C hw ho1 (by decide) rfl rfl (c_X4_fail ho1 hc15) mi_X4_fail wd_503 wd_443 wd_444 rfl ⟨by decide, by decide⟩ hl rfl (Nat.le_of_ble_eq_true rfl) dX6_readScrape_15) (fun H locs hw => ?_)
    exact y_vret C hw h dX6_readScrape_18
theorem c_X6_readScrape {l : Launch} {D : va_G} {cA : Nat → ClassId} {adK adV : Nat → Nat} {A : Nat → Prop} {ad : Int → Nat} {R : va_W} {σ : St} {res : Int × St} {o0 : Int} {o1 : Int} (ho0 : kX o0 = (6, 0)) (ho1 : kX o1 = (4, 0)) (h : p_X6_readScrape o0 o1 σ = some res) : Met l yX6_readScrape (wsU yX6_readScrape cX6_readScrape 3 none) (rmU 4 83) (va_Pc [.ref (ad o0), .ref (ad o1)] (Pr D cA adK adV ad kX 151 R A σ)) (QV D cA ad kX 151 R A res) 0 0 A :=
  y_met (own := RX6) (by decide) rfl _ (Nat.le_of_ble_eq_true rfl) (fun p e s m args below meth c ls C hl hw => k_X6_readScrape_0 C ho0 ho1 hw hl h)
/-! RungHouse$Sort.readPains -/
set_option maxRecDepth 100000 in
set_option maxHeartbeats 4000000 in
theorem k_X6_readPains_0  {o0 : Int} {o1 : Int} (C : Cx cX6_readPains RX6 2 none D cA adK adV A p s m args meth c)  {σ : St} {H : Heap} {locs : List Loc} {ls : Array Slot} (ho0 : kX o0 = (6, 0)) (ho1 : kX o1 = (4, 0)) (hw : At D cA ad kX 151 R A s σ H locs) (hl : lv_has ls 2 [(0, .ref (ad o0)), (1, .ref (ad o1))]) (h : p_X6_readPains  o0 o1 σ = some res) : W p l e (rmU 4 83) s m args below meth c H locs 0 0 (MQ below (QV D cA ad kX 151 R A res) args s 0 0 A) (F0 m 0 ls []) := by
  have h := h
  unfold p_X6_readPains at h
  refine y_aload_n C dX6_readPains_0 (lv_at hl 0 rfl) ?_
  refine g6 C hw ho0 5 (by decide) wd_198 rfl dX6_readPains_1 ?_
  refine y_if_eq (tgt := 17) C (a' := zm (σ o0 5)) rfl dX6_readPains_4 (by decide) (fun hc => ?_) (fun hc => ?_)
  · rw [if_pos hc] at h
    refine y_aload_n C dX6_readPains_17 (lv_at hl 1 rfl) ?_
    obtain ⟨x18, hc18, h⟩ := bd_some h
    refine y_cv (rest := []) hw (y_rV C hw ho1 (by decide) rfl rfl (c_X4_step ho1 hc18) mi_X4_step wd_504 wd_364 wd_365 rfl ⟨by decide, by decide⟩ hl rfl (Nat.le_of_ble_eq_true rfl) dX6_readPains_18) (fun H locs hw => ?_)
    refine y_aload_n C dX6_readPains_21 (lv_at hl 0 rfl) ?_
    refine y_aload_n C dX6_readPains_22 (lv_at hl 1 rfl) ?_
    refine y_iconst C dX6_readPains_23 ?_
    refine y_sipush C dX6_readPains_24 (by decide) ?_
    obtain ⟨x27, hc27, h⟩ := bd_some h
    refine y_ci (rest := [.ref (ad o0)]) hw (y_rV C hw ho1 (by decide) rfl rfl (c_X4_number ho1 hc27) mi_X4_number wd_505 wd_448 wd_449 rfl ⟨by decide, by decide⟩ hl rfl (Nat.le_of_ble_eq_true rfl) dX6_readPains_27) (fun H locs hw => ?_)
    obtain ⟨σ30, eσ30, h⟩ := nx_some h
    refine q6 C hw ho0 6 (by decide) wd_201 rfl rfl rfl (by decide) x27.1 6 rfl rfl dX6_readPains_30 (fun H locs hw => ?_)
    rw [← eσ30] at hw
    refine y_aload_n C dX6_readPains_33 (lv_at hl 0 rfl) ?_
    refine y_aload_n C dX6_readPains_34 (lv_at hl 1 rfl) ?_
    refine y_iconst C dX6_readPains_35 ?_
    refine y_bipush C dX6_readPains_36 (by decide) ?_
    obtain ⟨x38, hc38, h⟩ := bd_some h
    refine y_ci (rest := [.ref (ad o0)]) hw (y_rV C hw ho1 (by decide) rfl rfl (c_X4_number ho1 hc38) mi_X4_number wd_505 wd_448 wd_449 rfl ⟨by decide, by decide⟩ hl rfl (Nat.le_of_ble_eq_true rfl) dX6_readPains_38) (fun H locs hw => ?_)
    obtain ⟨σ41, eσ41, h⟩ := nx_some h
    refine q6 C hw ho0 7 (by decide) wd_204 rfl rfl rfl (by decide) x38.1 7 rfl rfl dX6_readPains_41 (fun H locs hw => ?_)
    rw [← eσ41] at hw
    refine y_aload_n C dX6_readPains_44 (lv_at hl 1 rfl) ?_
    obtain ⟨x45, hc45, h⟩ := bd_some h
    refine y_cv (rest := []) hw (y_rV C hw ho1 (by decide) rfl rfl (c_X4_closeClause ho1 hc45) mi_X4_closeClause wd_506 wd_455 wd_456 rfl ⟨by decide, by decide⟩ hl rfl (Nat.le_of_ble_eq_true rfl) dX6_readPains_45) (fun H locs hw => ?_)
    refine y_aload_n C dX6_readPains_48 (lv_at hl 0 rfl) ?_
    refine y_iconst C dX6_readPains_49 ?_
    obtain ⟨σ50, eσ50, h⟩ := nx_some h
    refine q6 C hw ho0 5 (by decide) wd_198 rfl (zb_nar (by decide)) rfl (by decide) 1 5 rfl rfl dX6_readPains_50 (fun H locs hw => ?_)
    rw [← eσ50] at hw
    exact y_vret C hw h dX6_readPains_53
  · rw [if_neg hc] at h
    refine y_aload_n C dX6_readPains_7 (lv_at hl 1 rfl) ?_
    refine y_iconst C dX6_readPains_8 ?_
    refine y_aload_n C dX6_readPains_9 (lv_at hl 1 rfl) ?_
    refine g4 C hw ho1 5 (by decide) wd_41 rfl dX6_readPains_10 ?_
    obtain ⟨x13, hc13, h⟩ := bd_some h
    refine y_cv (rest := []) hw (y_rV C hw ho1 (by decide) rfl rfl (c_X4_fail ho1 hc13) mi_X4_fail wd_503 wd_443 wd_444 rfl ⟨by decide, by decide⟩ hl rfl (Nat.le_of_ble_eq_true rfl) dX6_readPains_13) (fun H locs hw => ?_)
    exact y_vret C hw h dX6_readPains_16
theorem c_X6_readPains {l : Launch} {D : va_G} {cA : Nat → ClassId} {adK adV : Nat → Nat} {A : Nat → Prop} {ad : Int → Nat} {R : va_W} {σ : St} {res : Int × St} {o0 : Int} {o1 : Int} (ho0 : kX o0 = (6, 0)) (ho1 : kX o1 = (4, 0)) (h : p_X6_readPains o0 o1 σ = some res) : Met l yX6_readPains (wsU yX6_readPains cX6_readPains 2 none) (rmU 4 83) (va_Pc [.ref (ad o0), .ref (ad o1)] (Pr D cA adK adV ad kX 151 R A σ)) (QV D cA ad kX 151 R A res) 0 0 A :=
  y_met (own := RX6) (by decide) rfl _ (Nat.le_of_ble_eq_true rfl) (fun p e s m args below meth c ls C hl hw => k_X6_readPains_0 C ho0 ho1 hw hl h)
/-! RungHouse$Sort.spare -/
set_option maxRecDepth 100000 in
set_option maxHeartbeats 4000000 in
theorem k_X6_spare_2b {K2 : Int → Int → St → Option (Int × St)} {o0 : Int} {v1 : Int} (C : Cx cX6_spare RX6 2 none D cA adK adV A p s m args meth c)  (hK2 : ∀ (o0 : Int) (v1 : Int) (σ : St) (H : Heap) (locs : List Loc) (ls : Array Slot) (ho0 : kX o0 = (6, 0)), At D cA ad kX 151 R A s σ H locs → lv_has ls 2 [(0, .ref (ad o0)), (1, .int (zI v1))] → K2 o0 v1 σ = some res → W p l e (rmU 0 0) s m args below meth c H locs 0 0 (MQ below (QV D cA ad kX 151 R A res) args s 0 0 A) (F0 m 2 ls [])) {σ : St} {H : Heap} {locs : List Loc} {ls : Array Slot} (ho0 : kX o0 = (6, 0)) (hw : At D cA ad kX 151 R A s σ H locs) (hl : lv_has ls 2 [(0, .ref (ad o0)), (1, .int (zI v1))]) (h : p_X6_spare_2b K2 o0 v1 σ = some res) : W p l e (rmU 0 0) s m args below meth c H locs 0 0 (MQ below (QV D cA ad kX 151 R A res) args s 0 0 A) (F0 m 2 ls []) := by
  have h := h
  unfold p_X6_spare_2b at h
  refine y_iload_n C dX6_spare_2 (lv_at hl 1 rfl) ?_
  refine y_aload_n C dX6_spare_3 (lv_at hl 0 rfl) ?_
  refine g6 C hw ho0 3 (by decide) wd_193 rfl dX6_spare_4 ?_
  refine y_icmp_ge (tgt := 39) C (a' := zm v1) (b' := zm (σ o0 3)) rfl rfl dX6_spare_7 (by decide) (fun hc => ?_) (fun hc => ?_)
  · rw [if_pos hc] at h
    exact y_vret C hw h dX6_spare_39
  · rw [if_neg hc] at h
    refine y_aload_n C dX6_spare_10 (lv_at hl 0 rfl) ?_
    refine g6 C hw ho0 2 (by decide) wd_192 rfl dX6_spare_11 ?_
    refine y_iload_n C dX6_spare_14 (lv_at hl 1 rfl) ?_
    refine y_aload_n C dX6_spare_15 (lv_at hl 0 rfl) ?_
    refine g6 C hw ho0 1 (by decide) wd_190 rfl dX6_spare_16 ?_
    refine y_iload_n C dX6_spare_19 (lv_at hl 1 rfl) ?_
    obtain ⟨hg20, h⟩ := gd_some h
    refine y_iald C hw (ka6_chances ho0) (i' := zm v1) rfl hg20 dX6_spare_20 ?_
    refine y_bipush C dX6_spare_21 (by decide) ?_
    refine y_aload_n C dX6_spare_23 (lv_at hl 0 rfl) ?_
    refine g6 C hw ho0 7 (by decide) wd_204 rfl dX6_spare_24 ?_
    refine y_isub C dX6_spare_27 ?_
    refine y_imul C dX6_spare_28 ?_
    refine y_bipush C dX6_spare_29 (by decide) ?_
    refine y_idiv C (b' := 100) (by decide) (by decide) dX6_spare_31 ?_
    obtain ⟨σ32, eσ32, h⟩ := nx_some h
    refine y_iast C hw (ka6_sparedChances ho0) (i' := zm v1) rfl hg20 dX6_spare_32 (fun H locs hw => ?_)
    rw [← eσ32] at hw
    refine y_iinc (lv' := [(1, .int (zI (v1 + 1))), (0, .ref (ad o0))]) C dX6_spare_33 hl (k := 1) rfl (by decide) rfl (fun ls hl => ?_)
    refine y_goto (tgt := 2) C dX6_spare_36 (by decide) ?_
    exact hK2 _ _ _ _ _ _ ho0 hw (lv_sub hl [1, 0] rfl) h
set_option maxRecDepth 100000 in
theorem k_X6_spare_2  (C : Cx cX6_spare RX6 2 none D cA adK adV A p s m args meth c)  : ∀ (n : Nat) (o0 : Int) (v1 : Int) (σ : St) (H : Heap) (locs : List Loc) (ls : Array Slot) (ho0 : kX o0 = (6, 0)), At D cA ad kX 151 R A s σ H locs → lv_has ls 2 [(0, .ref (ad o0)), (1, .int (zI v1))] → p_X6_spare_2  n o0 v1 σ = some res → W p l e (rmU 0 0) s m args below meth c H locs 0 0 (MQ below (QV D cA ad kX 151 R A res) args s 0 0 A) (F0 m 2 ls []) := by
  intro n
  induction n with
  | zero =>
    intro o0 v1 σ H locs ls ho0 hw hl h
    have h : none = some res := h
    cases h
  | succ n ih =>
    intro o0 v1 σ H locs ls ho0 hw hl h
    exact k_X6_spare_2b C  ih ho0 hw hl h
set_option maxRecDepth 100000 in
set_option maxHeartbeats 4000000 in
theorem k_X6_spare_0  {o0 : Int} (C : Cx cX6_spare RX6 2 none D cA adK adV A p s m args meth c)  {σ : St} {H : Heap} {locs : List Loc} {ls : Array Slot} (ho0 : kX o0 = (6, 0)) (hw : At D cA ad kX 151 R A s σ H locs) (hl : lv_has ls 2 [(0, .ref (ad o0))]) (h : p_X6_spare  o0 σ = some res) : W p l e (rmU 0 0) s m args below meth c H locs 0 0 (MQ below (QV D cA ad kX 151 R A res) args s 0 0 A) (F0 m 0 ls []) := by
  have h := h
  unfold p_X6_spare at h
  refine y_iconst C dX6_spare_0 ?_
  refine y_istore_n (lv' := [(1, .int (zI 0)), (0, .ref (ad o0))]) C dX6_spare_1 hl (by decide) rfl (fun ls hl => ?_)
  exact k_X6_spare_2 C  FU _ _ _ _ _ _ ho0 hw (lv_sub hl [1, 0] rfl) h
theorem c_X6_spare {l : Launch} {D : va_G} {cA : Nat → ClassId} {adK adV : Nat → Nat} {A : Nat → Prop} {ad : Int → Nat} {R : va_W} {σ : St} {res : Int × St} {o0 : Int} (ho0 : kX o0 = (6, 0)) (h : p_X6_spare o0 σ = some res) : Met l yX6_spare (wsU yX6_spare cX6_spare 2 none) (rmU 0 0) (va_Pc [.ref (ad o0)] (Pr D cA adK adV ad kX 151 R A σ)) (QV D cA ad kX 151 R A res) 0 0 A :=
  y_met (own := RX6) (by decide) rfl _ (Nat.le_of_ble_eq_true rfl) (fun p e s m args below meth c ls C hl hw => k_X6_spare_0 C ho0 hw hl h)
/-! RungHouse$Sort.readFrom -/
set_option maxRecDepth 100000 in
set_option maxHeartbeats 4000000 in
theorem k_X6_readFrom_110  {o0 : Int} (C : Cx cX6_readFrom RX6 3 none D cA adK adV A p s m args meth c)  {σ : St} {H : Heap} {locs : List Loc} {ls : Array Slot} (ho0 : kX o0 = (6, 0)) (hw : At D cA ad kX 151 R A s σ H locs) (hl : lv_has ls 3 [(0, .ref (ad o0))]) (h : p_X6_readFrom_110  o0 σ = some res) : W p l e (rmU 5 112) s m args below meth c H locs 0 0 (MQ below (QV D cA ad kX 151 R A res) args s 0 0 A) (F0 m 110 ls []) := by
  have h := h
  unfold p_X6_readFrom_110 at h
  refine y_aload_n C dX6_readFrom_110 (lv_at hl 0 rfl) ?_
  obtain ⟨x111, hc111, h⟩ := bd_some h
  refine y_cv (rest := []) hw (y_rV C hw ho0 (by decide) rfl rfl (c_X6_spare ho0 hc111) mi_X6_spare wd_512 wd_514 ws_8 rfl ⟨by decide, by decide⟩ hl rfl (Nat.le_of_ble_eq_true rfl) dX6_readFrom_111) (fun H locs hw => ?_)
  exact y_vret C hw h dX6_readFrom_114
set_option maxRecDepth 100000 in
set_option maxHeartbeats 4000000 in
theorem k_X6_readFrom_94  {o0 : Int} {o1 : Int} (C : Cx cX6_readFrom RX6 3 none D cA adK adV A p s m args meth c)  {σ : St} {H : Heap} {locs : List Loc} {ls : Array Slot} (ho0 : kX o0 = (6, 0)) (ho1 : kX o1 = (4, 0)) (hw : At D cA ad kX 151 R A s σ H locs) (hl : lv_has ls 3 [(0, .ref (ad o0)), (1, .ref (ad o1))]) (h : p_X6_readFrom_94  o0 o1 σ = some res) : W p l e (rmU 5 112) s m args below meth c H locs 0 0 (MQ below (QV D cA ad kX 151 R A res) args s 0 0 A) (F0 m 94 ls []) := by
  have h := h
  unfold p_X6_readFrom_94 at h
  refine y_aload_n C dX6_readFrom_94 (lv_at hl 0 rfl) ?_
  refine g6 C hw ho0 3 (by decide) wd_193 rfl dX6_readFrom_95 ?_
  refine y_if_ne (tgt := 110) C (a' := zm (σ o0 3)) rfl dX6_readFrom_98 (by decide) (fun hc => ?_) (fun hc => ?_)
  · rw [if_pos hc] at h
    refine y_aload_n C dX6_readFrom_101 (lv_at hl 1 rfl) ?_
    refine y_iconst C dX6_readFrom_102 ?_
    refine y_aload_n C dX6_readFrom_103 (lv_at hl 1 rfl) ?_
    refine g4 C hw ho1 1 (by decide) wd_32 rfl dX6_readFrom_104 ?_
    obtain ⟨x107, hc107, h⟩ := bd_some h
    refine y_cv (rest := []) hw (y_rV C hw ho1 (by decide) rfl rfl (c_X4_fail ho1 hc107) mi_X4_fail wd_503 wd_443 wd_444 rfl ⟨by decide, by decide⟩ hl rfl (Nat.le_of_ble_eq_true rfl) dX6_readFrom_107) (fun H locs hw => ?_)
    exact k_X6_readFrom_110 C  ho0 hw (lv_sub hl [0] rfl) h
  · rw [if_neg hc] at h
    exact k_X6_readFrom_110 C  ho0 hw (lv_sub hl [0] rfl) h
set_option maxRecDepth 100000 in
set_option maxHeartbeats 4000000 in
theorem k_X6_readFrom_88 {K31 : Int → Int → Int → St → Option (Int × St)} {o0 : Int} {o1 : Int} {v2 : Int} (C : Cx cX6_readFrom RX6 3 none D cA adK adV A p s m args meth c) (hK31 : ∀ (o0 : Int) (o1 : Int) (v2 : Int) (σ : St) (H : Heap) (locs : List Loc) (ls : Array Slot) (ho0 : kX o0 = (6, 0)) (ho1 : kX o1 = (4, 0)), At D cA ad kX 151 R A s σ H locs → lv_has ls 3 [(0, .ref (ad o0)), (1, .ref (ad o1)), (2, .int (zI v2))] → K31 o0 o1 v2 σ = some res → W p l e (rmU 5 112) s m args below meth c H locs 0 0 (MQ below (QV D cA ad kX 151 R A res) args s 0 0 A) (F0 m 31 ls [])) {σ : St} {H : Heap} {locs : List Loc} {ls : Array Slot} (ho0 : kX o0 = (6, 0)) (ho1 : kX o1 = (4, 0)) (hw : At D cA ad kX 151 R A s σ H locs) (hl : lv_has ls 3 [(0, .ref (ad o0)), (1, .ref (ad o1)), (2, .int (zI v2))]) (h : p_X6_readFrom_88 K31 o0 o1 v2 σ = some res) : W p l e (rmU 5 112) s m args below meth c H locs 0 0 (MQ below (QV D cA ad kX 151 R A res) args s 0 0 A) (F0 m 88 ls []) := by
  have h := h
  unfold p_X6_readFrom_88 at h
  refine y_iinc (lv' := [(2, .int (zI (v2 + 1))), (0, .ref (ad o0)), (1, .ref (ad o1))]) C dX6_readFrom_88 hl (k := 2) rfl (by decide) rfl (fun ls hl => ?_)
  refine y_goto (tgt := 31) C dX6_readFrom_91 (by decide) ?_
  exact hK31 _ _ _ _ _ _ _ ho0 ho1 hw (lv_sub hl [1, 2, 0] rfl) h
set_option maxRecDepth 100000 in
set_option maxHeartbeats 4000000 in
theorem k_X6_readFrom_31b {K31 : Int → Int → Int → St → Option (Int × St)} {o0 : Int} {o1 : Int} {v2 : Int} (C : Cx cX6_readFrom RX6 3 none D cA adK adV A p s m args meth c)  (hK31 : ∀ (o0 : Int) (o1 : Int) (v2 : Int) (σ : St) (H : Heap) (locs : List Loc) (ls : Array Slot) (ho0 : kX o0 = (6, 0)) (ho1 : kX o1 = (4, 0)), At D cA ad kX 151 R A s σ H locs → lv_has ls 3 [(0, .ref (ad o0)), (1, .ref (ad o1)), (2, .int (zI v2))] → K31 o0 o1 v2 σ = some res → W p l e (rmU 5 112) s m args below meth c H locs 0 0 (MQ below (QV D cA ad kX 151 R A res) args s 0 0 A) (F0 m 31 ls [])) {σ : St} {H : Heap} {locs : List Loc} {ls : Array Slot} (ho0 : kX o0 = (6, 0)) (ho1 : kX o1 = (4, 0)) (hw : At D cA ad kX 151 R A s σ H locs) (hl : lv_has ls 3 [(0, .ref (ad o0)), (1, .ref (ad o1)), (2, .int (zI v2))]) (h : p_X6_readFrom_31b K31 o0 o1 v2 σ = some res) : W p l e (rmU 5 112) s m args below meth c H locs 0 0 (MQ below (QV D cA ad kX 151 R A res) args s 0 0 A) (F0 m 31 ls []) := by
  have h := h
  unfold p_X6_readFrom_31b at h
  refine y_iload_n C dX6_readFrom_31 (lv_at hl 2 rfl) ?_
  refine y_sipush C dX6_readFrom_32 (by decide) ?_
  refine y_icmp_ge (tgt := 94) C (a' := zm v2) (b' := 300) rfl (by decide) dX6_readFrom_35 (by decide) (fun hc => ?_) (fun hc => ?_)
  · rw [if_pos hc] at h
    exact k_X6_readFrom_94 C  ho0 ho1 hw (lv_sub hl [0, 1] rfl) h
  · rw [if_neg hc] at h
    refine y_aload_n C dX6_readFrom_38 (lv_at hl 1 rfl) ?_
    obtain ⟨x39, hc39, h⟩ := bd_some h
    refine y_ci (rest := []) hw (y_rV C hw ho1 (by decide) rfl rfl (c_X4_goesOn ho1 hc39) mi_X4_goesOn wd_496 wd_382 wd_383 rfl ⟨by decide, by decide⟩ hl rfl (Nat.le_of_ble_eq_true rfl) dX6_readFrom_39) (fun H locs hw => ?_)
    refine y_if_eq (tgt := 94) C (a' := zm x39.1) rfl dX6_readFrom_42 (by decide) (fun hc => ?_) (fun hc => ?_)
    · rw [if_pos hc] at h
      exact k_X6_readFrom_94 C  ho0 ho1 hw (lv_sub hl [0, 1] rfl) h
    · rw [if_neg hc] at h
      refine y_aload_n C dX6_readFrom_45 (lv_at hl 1 rfl) ?_
      refine y_ldcS C (i := 6) (by decide) rfl rfl dX6_readFrom_46 ?_
      obtain ⟨x48, hc48, h⟩ := bd_some h
      refine y_ci (rest := []) hw (y_rV C hw ho1 (by decide) rfl rfl (c_X4_isWord ho1 (by decide) hc48) mi_X4_isWord wd_498 wd_387 wd_388 rfl ⟨by decide, by decide⟩ hl rfl (Nat.le_of_ble_eq_true rfl) dX6_readFrom_48) (fun H locs hw => ?_)
      refine y_if_eq (tgt := 62) C (a' := zm x48.1) rfl dX6_readFrom_51 (by decide) (fun hc => ?_) (fun hc => ?_)
      · rw [if_pos hc] at h
        refine y_aload_n C dX6_readFrom_62 (lv_at hl 1 rfl) ?_
        refine y_ldcS C (i := 7) (by decide) rfl rfl dX6_readFrom_63 ?_
        obtain ⟨x65, hc65, h⟩ := bd_some h
        refine y_ci (rest := []) hw (y_rV C hw ho1 (by decide) rfl rfl (c_X4_isWord ho1 (by decide) hc65) mi_X4_isWord wd_498 wd_387 wd_388 rfl ⟨by decide, by decide⟩ hl rfl (Nat.le_of_ble_eq_true rfl) dX6_readFrom_65) (fun H locs hw => ?_)
        refine y_if_eq (tgt := 79) C (a' := zm x65.1) rfl dX6_readFrom_68 (by decide) (fun hc => ?_) (fun hc => ?_)
        · rw [if_pos hc] at h
          refine y_aload_n C dX6_readFrom_79 (lv_at hl 1 rfl) ?_
          refine y_iconst C dX6_readFrom_80 ?_
          refine y_aload_n C dX6_readFrom_81 (lv_at hl 1 rfl) ?_
          refine g4 C hw ho1 5 (by decide) wd_41 rfl dX6_readFrom_82 ?_
          obtain ⟨x85, hc85, h⟩ := bd_some h
          refine y_cv (rest := []) hw (y_rV C hw ho1 (by decide) rfl rfl (c_X4_fail ho1 hc85) mi_X4_fail wd_503 wd_443 wd_444 rfl ⟨by decide, by decide⟩ hl rfl (Nat.le_of_ble_eq_true rfl) dX6_readFrom_85) (fun H locs hw => ?_)
          exact k_X6_readFrom_88 C hK31 ho0 ho1 hw hl h
        · rw [if_neg hc] at h
          refine y_aload_n C dX6_readFrom_71 (lv_at hl 0 rfl) ?_
          refine y_aload_n C dX6_readFrom_72 (lv_at hl 1 rfl) ?_
          obtain ⟨x73, hc73, h⟩ := bd_some h
          refine y_cv (rest := []) hw (y_rV C hw ho0 (by decide) rfl rfl (c_X6_readPains ho0 ho1 hc73) mi_X6_readPains wd_508 wd_510 ws_7 rfl ⟨by decide, by decide⟩ hl rfl (Nat.le_of_ble_eq_true rfl) dX6_readFrom_73) (fun H locs hw => ?_)
          refine y_goto (tgt := 88) C dX6_readFrom_76 (by decide) ?_
          exact k_X6_readFrom_88 C hK31 ho0 ho1 hw hl h
      · rw [if_neg hc] at h
        refine y_aload_n C dX6_readFrom_54 (lv_at hl 0 rfl) ?_
        refine y_aload_n C dX6_readFrom_55 (lv_at hl 1 rfl) ?_
        obtain ⟨x56, hc56, h⟩ := bd_some h
        refine y_cv (rest := []) hw (y_rV C hw ho0 (by decide) rfl rfl (c_X6_readScrape ho0 ho1 hc56) mi_X6_readScrape wd_499 wd_501 ws_6 rfl ⟨by decide, by decide⟩ hl rfl (Nat.le_of_ble_eq_true rfl) dX6_readFrom_56) (fun H locs hw => ?_)
        refine y_goto (tgt := 88) C dX6_readFrom_59 (by decide) ?_
        exact k_X6_readFrom_88 C hK31 ho0 ho1 hw hl h
set_option maxRecDepth 100000 in
theorem k_X6_readFrom_31  (C : Cx cX6_readFrom RX6 3 none D cA adK adV A p s m args meth c)  : ∀ (n : Nat) (o0 : Int) (o1 : Int) (v2 : Int) (σ : St) (H : Heap) (locs : List Loc) (ls : Array Slot) (ho0 : kX o0 = (6, 0)) (ho1 : kX o1 = (4, 0)), At D cA ad kX 151 R A s σ H locs → lv_has ls 3 [(0, .ref (ad o0)), (1, .ref (ad o1)), (2, .int (zI v2))] → p_X6_readFrom_31  n o0 o1 v2 σ = some res → W p l e (rmU 5 112) s m args below meth c H locs 0 0 (MQ below (QV D cA ad kX 151 R A res) args s 0 0 A) (F0 m 31 ls []) := by
  intro n
  induction n with
  | zero =>
    intro o0 o1 v2 σ H locs ls ho0 ho1 hw hl h
    have h : none = some res := h
    cases h
  | succ n ih =>
    intro o0 o1 v2 σ H locs ls ho0 ho1 hw hl h
    exact k_X6_readFrom_31b C  ih ho0 ho1 hw hl h
set_option maxRecDepth 100000 in
set_option maxHeartbeats 4000000 in
theorem k_X6_readFrom_0  {o0 : Int} {o1 : Int} (C : Cx cX6_readFrom RX6 3 none D cA adK adV A p s m args meth c)  {σ : St} {H : Heap} {locs : List Loc} {ls : Array Slot} (ho0 : kX o0 = (6, 0)) (ho1 : kX o1 = (4, 0)) (hw : At D cA ad kX 151 R A s σ H locs) (hl : lv_has ls 3 [(0, .ref (ad o0)), (1, .ref (ad o1))]) (h : p_X6_readFrom  o0 o1 σ = some res) : W p l e (rmU 5 112) s m args below meth c H locs 0 0 (MQ below (QV D cA ad kX 151 R A res) args s 0 0 A) (F0 m 0 ls []) := by
  have h := h
  unfold p_X6_readFrom at h
  refine y_aload_n C dX6_readFrom_0 (lv_at hl 0 rfl) ?_
  refine y_iconst C dX6_readFrom_1 ?_
  obtain ⟨σ2, eσ2, h⟩ := nx_some h
  refine q6 C hw ho0 3 (by decide) wd_193 rfl rfl rfl (by decide) 0 3 rfl rfl dX6_readFrom_2 (fun H locs hw => ?_)
  rw [← eσ2] at hw
  refine y_aload_n C dX6_readFrom_5 (lv_at hl 0 rfl) ?_
  refine y_iconst C dX6_readFrom_6 ?_
  obtain ⟨σ7, eσ7, h⟩ := nx_some h
  refine q6 C hw ho0 4 (by decide) wd_196 rfl rfl rfl (by decide) 0 4 rfl rfl dX6_readFrom_7 (fun H locs hw => ?_)
  rw [← eσ7] at hw
  refine y_aload_n C dX6_readFrom_10 (lv_at hl 0 rfl) ?_
  refine y_iconst C dX6_readFrom_11 ?_
  obtain ⟨σ12, eσ12, h⟩ := nx_some h
  refine q6 C hw ho0 5 (by decide) wd_198 rfl (zb_nar (by decide)) rfl (by decide) 0 5 rfl rfl dX6_readFrom_12 (fun H locs hw => ?_)
  rw [← eσ12] at hw
  refine y_aload_n C dX6_readFrom_15 (lv_at hl 0 rfl) ?_
  refine y_iconst C dX6_readFrom_16 ?_
  obtain ⟨σ17, eσ17, h⟩ := nx_some h
  refine q6 C hw ho0 6 (by decide) wd_201 rfl rfl rfl (by decide) 0 6 rfl rfl dX6_readFrom_17 (fun H locs hw => ?_)
  rw [← eσ17] at hw
  refine y_aload_n C dX6_readFrom_20 (lv_at hl 0 rfl) ?_
  refine y_iconst C dX6_readFrom_21 ?_
  obtain ⟨σ22, eσ22, h⟩ := nx_some h
  refine q6 C hw ho0 7 (by decide) wd_204 rfl rfl rfl (by decide) 0 7 rfl rfl dX6_readFrom_22 (fun H locs hw => ?_)
  rw [← eσ22] at hw
  refine y_aload_n C dX6_readFrom_25 (lv_at hl 1 rfl) ?_
  obtain ⟨x26, hc26, h⟩ := bd_some h
  refine y_cv (rest := []) hw (y_rV C hw ho1 (by decide) rfl rfl (c_X4_open ho1 hc26) mi_X4_open wd_495 wd_360 wd_361 rfl ⟨by decide, by decide⟩ hl rfl (Nat.le_of_ble_eq_true rfl) dX6_readFrom_26) (fun H locs hw => ?_)
  refine y_iconst C dX6_readFrom_29 ?_
  refine y_istore_n (lv' := [(2, .int (zI 0)), (0, .ref (ad o0)), (1, .ref (ad o1))]) C dX6_readFrom_30 hl (by decide) rfl (fun ls hl => ?_)
  exact k_X6_readFrom_31 C  FU _ _ _ _ _ _ _ ho0 ho1 hw (lv_sub hl [1, 2, 0] rfl) h
theorem c_X6_readFrom {l : Launch} {D : va_G} {cA : Nat → ClassId} {adK adV : Nat → Nat} {A : Nat → Prop} {ad : Int → Nat} {R : va_W} {σ : St} {res : Int × St} {o0 : Int} {o1 : Int} (ho0 : kX o0 = (6, 0)) (ho1 : kX o1 = (4, 0)) (h : p_X6_readFrom o0 o1 σ = some res) : Met l yX6_readFrom (wsU yX6_readFrom cX6_readFrom 3 none) (rmU 5 112) (va_Pc [.ref (ad o0), .ref (ad o1)] (Pr D cA adK adV ad kX 151 R A σ)) (QV D cA ad kX 151 R A res) 0 0 A :=
  y_met (own := RX6) (by decide) rfl _ (Nat.le_of_ble_eq_true rfl) (fun p e s m args below meth c ls C hl hw => k_X6_readFrom_0 C ho0 ho1 hw hl h)
end K
