section K
variable {p : Program} {l : Launch} {e : Env} {s : State} {m : MethodId} {args : Array Value} {below : List Frame} {meth : Method} {c : Code} {D : va_G} {cA : Nat → ClassId} {adK adV : Nat → Nat} {A : Nat → Prop} {ad : Int → Nat} {R : va_W} {res : Int × St}
/-! RungHouseModel.within -/
set_option maxRecDepth 100000 in
set_option maxHeartbeats 4000000 in
theorem k_X8_within_0  {v0 : Int} {v2 : Int} {v4 : Int} (C : Cx cX8_within RX8 6 (some .boolean) D cA adK adV A p s m args meth c)  {σ : St} {H : Heap} {locs : List Loc} {ls : Array Slot}  (hw : At D cA ad kM 31 R A s σ H locs) (hl : lv_has ls 6 [(0, .long (zJ v0)), (2, .long (zJ v2)), (4, .long (zJ v4))]) (h : p_X8_within  v0 v2 v4 σ = some res) : W p l e (rmU 0 0) s m args below meth c H locs 0 0 (MQ below (QI D cA ad kM 31 R A res) args s 0 0 A) (F0 m 0 ls []) := by
  have h := h
  unfold p_X8_within at h
  refine y_lload_n C dX8_within_0 (lv_at hl 0 rfl) ?_
  refine y_lload_n C dX8_within_1 (lv_at hl 1 rfl) ?_
  refine y_lcmp C dX8_within_2 ?_
  refine y_if_lt (tgt := 17) C (a' := zm (zcmp v0 v2)) rfl dX8_within_3 (by decide) (fun hc => ?_) (fun hc => ?_)
  · rw [if_pos hc] at h
    refine y_iconst C dX8_within_17 ?_
    exact y_zret C hw (by decide) h dX8_within_18
  · rw [if_neg hc] at h
    refine y_lload_n C dX8_within_6 (lv_at hl 0 rfl) ?_
    refine y_lload C dX8_within_7 (lv_at hl 2 rfl) ?_
    refine y_lcmp C dX8_within_9 ?_
    refine y_if_gt (tgt := 17) C (a' := zm (zcmp v0 v4)) rfl dX8_within_10 (by decide) (fun hc => ?_) (fun hc => ?_)
    · rw [if_pos hc] at h
      refine y_iconst C dX8_within_17 ?_
      exact y_zret C hw (by decide) h dX8_within_18
    · rw [if_neg hc] at h
      refine y_iconst C dX8_within_13 ?_
      refine y_goto (tgt := 18) C dX8_within_14 (by decide) ?_
      exact y_zret C hw (by decide) h dX8_within_18
theorem c_X8_within {l : Launch} {D : va_G} {cA : Nat → ClassId} {adK adV : Nat → Nat} {A : Nat → Prop} {ad : Int → Nat} {R : va_W} {σ : St} {res : Int × St} {v0 : Int} {v2 : Int} {v4 : Int}  (h : p_X8_within v0 v2 v4 σ = some res) : Met l yX8_within (wsU yX8_within cX8_within 6 (some .boolean)) (rmU 0 0) (va_Pc [.long (zJ v0), .long (zJ v2), .long (zJ v4)] (Pr D cA adK adV ad kM 31 R A σ)) (QI D cA ad kM 31 R A res) 0 0 A :=
  y_met (own := RX8) (by decide) rfl _ (Nat.le_of_ble_eq_true rfl) (fun p e s m args below meth c ls C hl hw => k_X8_within_0 C  hw hl h)
/-! RungHouseModel.has -/
set_option maxRecDepth 100000 in
set_option maxHeartbeats 4000000 in
theorem k_X8_has_0  {v0 : Int} {v1 : Int} (C : Cx cX8_has RX8 2 (some .boolean) D cA adK adV A p s m args meth c)  {σ : St} {H : Heap} {locs : List Loc} {ls : Array Slot}  (hw : At D cA ad kM 31 R A s σ H locs) (hl : lv_has ls 2 [(0, .int (zI v0)), (1, .int (zI v1))]) (h : p_X8_has  v0 v1 σ = some res) : W p l e (rmU 0 0) s m args below meth c H locs 0 0 (MQ below (QI D cA ad kM 31 R A res) args s 0 0 A) (F0 m 0 ls []) := by
  have h := h
  unfold p_X8_has at h
  refine y_iload_n C dX8_has_0 (lv_at hl 0 rfl) ?_
  refine y_iload_n C dX8_has_1 (lv_at hl 1 rfl) ?_
  refine y_ishr C dX8_has_2 ?_
  refine y_iconst C dX8_has_3 ?_
  refine y_iand C dX8_has_4 ?_
  refine y_iconst C dX8_has_5 ?_
  refine y_icmp_ne (tgt := 13) C (a' := zm (zand (zshr v0 v1) 1)) (b' := 1) rfl (by decide) dX8_has_6 (by decide) (fun hc => ?_) (fun hc => ?_)
  · rw [if_pos hc] at h
    refine y_iconst C dX8_has_9 ?_
    refine y_goto (tgt := 14) C dX8_has_10 (by decide) ?_
    exact y_zret C hw (by decide) h dX8_has_14
  · rw [if_neg hc] at h
    refine y_iconst C dX8_has_13 ?_
    exact y_zret C hw (by decide) h dX8_has_14
theorem c_X8_has {l : Launch} {D : va_G} {cA : Nat → ClassId} {adK adV : Nat → Nat} {A : Nat → Prop} {ad : Int → Nat} {R : va_W} {σ : St} {res : Int × St} {v0 : Int} {v1 : Int}  (h : p_X8_has v0 v1 σ = some res) : Met l yX8_has (wsU yX8_has cX8_has 2 (some .boolean)) (rmU 0 0) (va_Pc [.int (zI v0), .int (zI v1)] (Pr D cA adK adV ad kM 31 R A σ)) (QI D cA ad kM 31 R A res) 0 0 A :=
  y_met (own := RX8) (by decide) rfl _ (Nat.le_of_ble_eq_true rfl) (fun p e s m args below meth c ls C hl hw => k_X8_has_0 C  hw hl h)
/-! RungHouseModel.isHouse -/
set_option maxRecDepth 100000 in
set_option maxHeartbeats 4000000 in
theorem k_X8_isHouse_0  {v1 : Int} (C : Cx cX8_isHouse RX8 2 (some .boolean) D cA adK adV A p s m args meth c)  {σ : St} {H : Heap} {locs : List Loc} {ls : Array Slot}  (hw : At D cA ad kM 31 R A s σ H locs) (hl : lv_has ls 2 [(0, .ref (ad 0)), (1, .int (zI v1))]) (h : p_X8_isHouse  v1 σ = some res) : W p l e (rmU 1 25) s m args below meth c H locs 0 0 (MQ below (QI D cA ad kM 31 R A res) args s 0 0 A) (F0 m 0 ls []) := by
  have h := h
  unfold p_X8_isHouse at h
  refine y_iload_n C dX8_isHouse_0 (lv_at hl 1 rfl) ?_
  refine y_i2l C rfl dX8_isHouse_1 ?_
  refine y_lconst C (z' := 0) dX8_isHouse_2 (by decide) ?_
  refine y_lconst C (z' := 1) dX8_isHouse_3 (by decide) ?_
  obtain ⟨x4, hc4, h⟩ := bd_some h
  refine y_ci (rest := []) hw (y_rS C hw (c_X8_within  hc4) mi_X8_within wd_1027 wd_1028 rfl ⟨by decide, by decide⟩ hl rfl (Nat.le_of_ble_eq_true rfl) dX8_isHouse_4) (fun H locs hw => ?_)
  refine y_if_eq (tgt := 23) C (a' := zm x4.1) rfl dX8_isHouse_7 (by decide) (fun hc => ?_) (fun hc => ?_)
  · rw [if_pos hc] at h
    refine y_iconst C dX8_isHouse_23 ?_
    exact y_zret C hw (by decide) h dX8_isHouse_24
  · rw [if_neg hc] at h
    refine y_aload_n C dX8_isHouse_10 (lv_at hl 0 rfl) ?_
    refine g8 C hw km_0 0 (by decide) wd_871 rfl dX8_isHouse_11 ?_
    refine y_iload_n C dX8_isHouse_14 (lv_at hl 1 rfl) ?_
    obtain ⟨hg15, h⟩ := gd_some h
    refine y_iald C hw km_1 (i' := zm v1) rfl hg15 dX8_isHouse_15 ?_
    refine y_if_le (tgt := 23) C (a' := zm (x4.2 1 (zm v1))) rfl dX8_isHouse_16 (by decide) (fun hc => ?_) (fun hc => ?_)
    · rw [if_pos hc] at h
      refine y_iconst C dX8_isHouse_23 ?_
      exact y_zret C hw (by decide) h dX8_isHouse_24
    · rw [if_neg hc] at h
      refine y_iconst C dX8_isHouse_19 ?_
      refine y_goto (tgt := 24) C dX8_isHouse_20 (by decide) ?_
      exact y_zret C hw (by decide) h dX8_isHouse_24
theorem c_X8_isHouse {l : Launch} {D : va_G} {cA : Nat → ClassId} {adK adV : Nat → Nat} {A : Nat → Prop} {ad : Int → Nat} {R : va_W} {σ : St} {res : Int × St} {v1 : Int}  (h : p_X8_isHouse v1 σ = some res) : Met l yX8_isHouse (wsU yX8_isHouse cX8_isHouse 2 (some .boolean)) (rmU 1 25) (va_Pc [.ref (ad 0), .int (zI v1)] (Pr D cA adK adV ad kM 31 R A σ)) (QI D cA ad kM 31 R A res) 0 0 A :=
  y_met (own := RX8) (by decide) rfl _ (Nat.le_of_ble_eq_true rfl) (fun p e s m args below meth c ls C hl hw => k_X8_isHouse_0 C  hw hl h)
/-! RungHouseModel.isRung -/
set_option maxRecDepth 100000 in
set_option maxHeartbeats 4000000 in
theorem k_X8_isRung_0  {v1 : Int} {v2 : Int} (C : Cx cX8_isRung RX8 3 (some .boolean) D cA adK adV A p s m args meth c)  {σ : St} {H : Heap} {locs : List Loc} {ls : Array Slot}  (hw : At D cA ad kM 31 R A s σ H locs) (hl : lv_has ls 3 [(0, .ref (ad 0)), (1, .int (zI v1)), (2, .int (zI v2))]) (h : p_X8_isRung  v1 v2 σ = some res) : W p l e (rmU 2 46) s m args below meth c H locs 0 0 (MQ below (QI D cA ad kM 31 R A res) args s 0 0 A) (F0 m 0 ls []) := by
  have h := h
  unfold p_X8_isRung at h
  refine y_aload_n C dX8_isRung_0 (lv_at hl 0 rfl) ?_
  refine y_iload_n C dX8_isRung_1 (lv_at hl 1 rfl) ?_
  obtain ⟨x2, hc2, h⟩ := bd_some h
  refine y_ci (rest := []) hw (y_rV C hw km_0 (by decide) rfl rfl (c_X8_isHouse  hc2) mi_X8_isHouse wd_1096 wd_1098 ws_33 rfl ⟨by decide, by decide⟩ hl rfl (Nat.le_of_ble_eq_true rfl) dX8_isRung_2) (fun H locs hw => ?_)
  refine y_if_eq (tgt := 30) C (a' := zm x2.1) rfl dX8_isRung_5 (by decide) (fun hc => ?_) (fun hc => ?_)
  · rw [if_pos hc] at h
    refine y_iconst C dX8_isRung_30 ?_
    exact y_zret C hw (by decide) h dX8_isRung_31
  · rw [if_neg hc] at h
    refine y_iload_n C dX8_isRung_8 (lv_at hl 2 rfl) ?_
    refine y_i2l C rfl dX8_isRung_9 ?_
    refine y_lconst C (z' := 0) dX8_isRung_10 (by decide) ?_
    refine y_aload_n C dX8_isRung_11 (lv_at hl 0 rfl) ?_
    refine g8 C hw km_0 0 (by decide) wd_871 rfl dX8_isRung_12 ?_
    refine y_iload_n C dX8_isRung_15 (lv_at hl 1 rfl) ?_
    obtain ⟨hg16, h⟩ := gd_some h
    refine y_iald C hw km_1 (i' := zm v1) rfl hg16 dX8_isRung_16 ?_
    refine y_iconst C dX8_isRung_17 ?_
    refine y_isub C dX8_isRung_18 ?_
    refine y_i2l C rfl dX8_isRung_19 ?_
    obtain ⟨x20, hc20, h⟩ := bd_some h
    refine y_ci (rest := []) hw (y_rS C hw (c_X8_within  hc20) mi_X8_within wd_1027 wd_1028 rfl ⟨by decide, by decide⟩ hl rfl (Nat.le_of_ble_eq_true rfl) dX8_isRung_20) (fun H locs hw => ?_)
    refine y_if_eq (tgt := 30) C (a' := zm x20.1) rfl dX8_isRung_23 (by decide) (fun hc => ?_) (fun hc => ?_)
    · rw [if_pos hc] at h
      refine y_iconst C dX8_isRung_30 ?_
      exact y_zret C hw (by decide) h dX8_isRung_31
    · rw [if_neg hc] at h
      refine y_iconst C dX8_isRung_26 ?_
      refine y_goto (tgt := 31) C dX8_isRung_27 (by decide) ?_
      exact y_zret C hw (by decide) h dX8_isRung_31
theorem c_X8_isRung {l : Launch} {D : va_G} {cA : Nat → ClassId} {adK adV : Nat → Nat} {A : Nat → Prop} {ad : Int → Nat} {R : va_W} {σ : St} {res : Int × St} {v1 : Int} {v2 : Int}  (h : p_X8_isRung v1 v2 σ = some res) : Met l yX8_isRung (wsU yX8_isRung cX8_isRung 3 (some .boolean)) (rmU 2 46) (va_Pc [.ref (ad 0), .int (zI v1), .int (zI v2)] (Pr D cA adK adV ad kM 31 R A σ)) (QI D cA ad kM 31 R A res) 0 0 A :=
  y_met (own := RX8) (by decide) rfl _ (Nat.le_of_ble_eq_true rfl) (fun p e s m args below meth c ls C hl hw => k_X8_isRung_0 C  hw hl h)
/-! RungHouseModel.isSort -/
set_option maxRecDepth 100000 in
set_option maxHeartbeats 4000000 in
theorem k_X8_isSort_0  {v1 : Int} (C : Cx cX8_isSort RX8 2 (some .boolean) D cA adK adV A p s m args meth c)  {σ : St} {H : Heap} {locs : List Loc} {ls : Array Slot}  (hw : At D cA ad kM 31 R A s σ H locs) (hl : lv_has ls 2 [(0, .ref (ad 0)), (1, .int (zI v1))]) (h : p_X8_isSort  v1 σ = some res) : W p l e (rmU 1 25) s m args below meth c H locs 0 0 (MQ below (QI D cA ad kM 31 R A res) args s 0 0 A) (F0 m 0 ls []) := by
  have h := h
  unfold p_X8_isSort at h
  refine y_iload_n C dX8_isSort_0 (lv_at hl 1 rfl) ?_
  refine y_i2l C rfl dX8_isSort_1 ?_
  refine y_lconst C (z' := 0) dX8_isSort_2 (by decide) ?_
  refine y_aload_n C dX8_isSort_3 (lv_at hl 0 rfl) ?_
  refine g8 C hw km_0 7 (by decide) wd_878 rfl dX8_isSort_4 ?_
  refine y_iconst C dX8_isSort_7 ?_
  refine y_isub C dX8_isSort_8 ?_
  refine y_i2l C rfl dX8_isSort_9 ?_
  obtain ⟨x10, hc10, h⟩ := bd_some h
  refine y_ci (rest := []) hw (y_rS C hw (c_X8_within  hc10) mi_X8_within wd_1027 wd_1028 rfl ⟨by decide, by decide⟩ hl rfl (Nat.le_of_ble_eq_true rfl) dX8_isSort_10) (fun H locs hw => ?_)
  obtain ⟨hb, h⟩ := gd_some h
  exact y_zret C hw hb h dX8_isSort_13
theorem c_X8_isSort {l : Launch} {D : va_G} {cA : Nat → ClassId} {adK adV : Nat → Nat} {A : Nat → Prop} {ad : Int → Nat} {R : va_W} {σ : St} {res : Int × St} {v1 : Int}  (h : p_X8_isSort v1 σ = some res) : Met l yX8_isSort (wsU yX8_isSort cX8_isSort 2 (some .boolean)) (rmU 1 25) (va_Pc [.ref (ad 0), .int (zI v1)] (Pr D cA adK adV ad kM 31 R A σ)) (QI D cA ad kM 31 R A res) 0 0 A :=
  y_met (own := RX8) (by decide) rfl _ (Nat.le_of_ble_eq_true rfl) (fun p e s m args below meth c ls C hl hw => k_X8_isSort_0 C  hw hl h)
/-! RungHouseModel.isTime -/
set_option maxRecDepth 100000 in
set_option maxHeartbeats 4000000 in
theorem k_X8_isTime_0  {v0 : Int} (C : Cx cX8_isTime RX8 1 (some .boolean) D cA adK adV A p s m args meth c)  {σ : St} {H : Heap} {locs : List Loc} {ls : Array Slot}  (hw : At D cA ad kM 31 R A s σ H locs) (hl : lv_has ls 1 [(0, .int (zI v0))]) (h : p_X8_isTime  v0 σ = some res) : W p l e (rmU 1 25) s m args below meth c H locs 0 0 (MQ below (QI D cA ad kM 31 R A res) args s 0 0 A) (F0 m 0 ls []) := by
  have h := h
  unfold p_X8_isTime at h
  refine y_iload_n C dX8_isTime_0 (lv_at hl 0 rfl) ?_
  refine y_i2l C rfl dX8_isTime_1 ?_
  refine y_lconst C (z' := 1) dX8_isTime_2 (by decide) ?_
  refine y_ldc2 C (z := 30) wd_1171 (by decide) dX8_isTime_3 ?_
  obtain ⟨x6, hc6, h⟩ := bd_some h
  refine y_ci (rest := []) hw (y_rS C hw (c_X8_within  hc6) mi_X8_within wd_1027 wd_1028 rfl ⟨by decide, by decide⟩ hl rfl (Nat.le_of_ble_eq_true rfl) dX8_isTime_6) (fun H locs hw => ?_)
  obtain ⟨hb, h⟩ := gd_some h
  exact y_zret C hw hb h dX8_isTime_9
theorem c_X8_isTime {l : Launch} {D : va_G} {cA : Nat → ClassId} {adK adV : Nat → Nat} {A : Nat → Prop} {ad : Int → Nat} {R : va_W} {σ : St} {res : Int × St} {v0 : Int}  (h : p_X8_isTime v0 σ = some res) : Met l yX8_isTime (wsU yX8_isTime cX8_isTime 1 (some .boolean)) (rmU 1 25) (va_Pc [.int (zI v0)] (Pr D cA adK adV ad kM 31 R A σ)) (QI D cA ad kM 31 R A res) 0 0 A :=
  y_met (own := RX8) (by decide) rfl _ (Nat.le_of_ble_eq_true rfl) (fun p e s m args below meth c ls C hl hw => k_X8_isTime_0 C  hw hl h)
/-! RungHouseModel.feed -/
set_option maxRecDepth 100000 in
set_option maxHeartbeats 4000000 in
theorem k_X8_feed_35b {K35 : Int → Int → St → Option (Int × St)} {v2 : Int} {v4 : Int} (C : Cx cX8_feed RX8 5 (some .int) D cA adK adV A p s m args meth c)  (hK35 : ∀ (v2 : Int) (v4 : Int) (σ : St) (H : Heap) (locs : List Loc) (ls : Array Slot) , At D cA ad kM 31 R A s σ H locs → lv_has ls 5 [(0, .ref (ad 0)), (2, .long (zJ v2)), (4, .int (zI v4))] → K35 v2 v4 σ = some res → W p l e (rmU 1 25) s m args below meth c H locs 0 0 (MQ below (QI D cA ad kM 31 R A res) args s 0 0 A) (F0 m 35 ls [])) {σ : St} {H : Heap} {locs : List Loc} {ls : Array Slot}  (hw : At D cA ad kM 31 R A s σ H locs) (hl : lv_has ls 5 [(0, .ref (ad 0)), (2, .long (zJ v2)), (4, .int (zI v4))]) (h : p_X8_feed_35b K35 v2 v4 σ = some res) : W p l e (rmU 1 25) s m args below meth c H locs 0 0 (MQ below (QI D cA ad kM 31 R A res) args s 0 0 A) (F0 m 35 ls []) := by
  have h := h
  unfold p_X8_feed_35b at h
  refine y_iload C dX8_feed_35 (lv_at hl 2 rfl) ?_
  refine y_if_lt (tgt := 77) C (a' := zm v4) rfl dX8_feed_37 (by decide) (fun hc => ?_) (fun hc => ?_)
  · rw [if_pos hc] at h
    refine y_aload_n C dX8_feed_77 (lv_at hl 0 rfl) ?_
    refine g8 C hw km_0 14 (by decide) wd_885 rfl dX8_feed_78 ?_
    exact y_iret C hw h dX8_feed_81
  · rw [if_neg hc] at h
    refine y_aload_n C dX8_feed_40 (lv_at hl 0 rfl) ?_
    refine g8 C hw km_0 13 (by decide) wd_884 rfl dX8_feed_41 ?_
    refine y_aload_n C dX8_feed_44 (lv_at hl 0 rfl) ?_
    refine g8 C hw km_0 14 (by decide) wd_885 rfl dX8_feed_45 ?_
    refine y_lload_n C dX8_feed_48 (lv_at hl 1 rfl) ?_
    refine y_bipush C dX8_feed_49 (by decide) ?_
    refine y_iload C dX8_feed_51 (lv_at hl 2 rfl) ?_
    refine y_imul C dX8_feed_53 ?_
    refine y_lshr C dX8_feed_54 ?_
    refine y_ldc2 C (z := 255) wd_1032 (by decide) dX8_feed_55 ?_
    refine y_land C dX8_feed_58 ?_
    refine y_l2i C dX8_feed_59 ?_
    obtain ⟨hg60, h⟩ := gd_some h
    obtain ⟨σ60, eσ60, h⟩ := nx_some h
    refine y_iast C hw km_13 (i' := zm (σ 0 14)) rfl hg60 dX8_feed_60 (fun H locs hw => ?_)
    rw [← eσ60] at hw
    refine y_aload_n C dX8_feed_61 (lv_at hl 0 rfl) ?_
    refine y_dup C dX8_feed_62 rfl ?_
    refine g8 C hw km_0 14 (by decide) wd_885 rfl dX8_feed_63 ?_
    refine y_iconst C dX8_feed_66 ?_
    refine y_iadd C dX8_feed_67 ?_
    obtain ⟨σ68, eσ68, h⟩ := nx_some h
    refine q8 C hw km_0 14 (by decide) wd_885 rfl rfl rfl (by decide) ((σ60 0 14) + 1) 14 rfl rfl dX8_feed_68 (fun H locs hw => ?_)
    rw [← eσ68] at hw
    refine y_iinc (lv' := [(4, .int (zI (v4 + (-1)))), (0, .ref (ad 0)), (2, .long (zJ v2))]) C dX8_feed_71 hl (k := 2) rfl (by decide) rfl (fun ls hl => ?_)
    refine y_goto (tgt := 35) C dX8_feed_74 (by decide) ?_
    exact hK35 _ _ _ _ _ _  hw (lv_sub hl [1, 2, 0] rfl) h
set_option maxRecDepth 100000 in
theorem k_X8_feed_35  (C : Cx cX8_feed RX8 5 (some .int) D cA adK adV A p s m args meth c)  : ∀ (n : Nat) (v2 : Int) (v4 : Int) (σ : St) (H : Heap) (locs : List Loc) (ls : Array Slot) , At D cA ad kM 31 R A s σ H locs → lv_has ls 5 [(0, .ref (ad 0)), (2, .long (zJ v2)), (4, .int (zI v4))] → p_X8_feed_35  n v2 v4 σ = some res → W p l e (rmU 1 25) s m args below meth c H locs 0 0 (MQ below (QI D cA ad kM 31 R A res) args s 0 0 A) (F0 m 35 ls []) := by
  intro n
  induction n with
  | zero =>
    intro v2 v4 σ H locs ls  hw hl h
    have h : none = some res := h
    cases h
  | succ n ih =>
    intro v2 v4 σ H locs ls  hw hl h
    exact k_X8_feed_35b C  ih  hw hl h
set_option maxRecDepth 100000 in
set_option maxHeartbeats 4000000 in
theorem k_X8_feed_0  {v1 : Int} {v2 : Int} (C : Cx cX8_feed RX8 5 (some .int) D cA adK adV A p s m args meth c)  {σ : St} {H : Heap} {locs : List Loc} {ls : Array Slot}  (hw : At D cA ad kM 31 R A s σ H locs) (hl : lv_has ls 5 [(0, .ref (ad 0)), (1, .int (zI v1)), (2, .long (zJ v2))]) (h : p_X8_feed  v1 v2 σ = some res) : W p l e (rmU 1 25) s m args below meth c H locs 0 0 (MQ below (QI D cA ad kM 31 R A res) args s 0 0 A) (F0 m 0 ls []) := by
  have h := h
  unfold p_X8_feed at h
  refine y_iload_n C dX8_feed_0 (lv_at hl 1 rfl) ?_
  refine y_i2l C rfl dX8_feed_1 ?_
  refine y_lconst C (z' := 1) dX8_feed_2 (by decide) ?_
  refine y_ldc2 C (z := 8) wd_1026 (by decide) dX8_feed_3 ?_
  obtain ⟨x6, hc6, h⟩ := bd_some h
  refine y_ci (rest := []) hw (y_rS C hw (c_X8_within  hc6) mi_X8_within wd_1027 wd_1028 rfl ⟨by decide, by decide⟩ hl rfl (Nat.le_of_ble_eq_true rfl) dX8_feed_6) (fun H locs hw => ?_)
  refine y_if_ne (tgt := 15) C (a' := zm x6.1) rfl dX8_feed_9 (by decide) (fun hc => ?_) (fun hc => ?_)
  · rw [if_pos hc] at h
    refine y_ldc C (z := (-1000000002)) wd_1030 (by decide) dX8_feed_12 ?_
    exact y_iret C hw h dX8_feed_14
  · rw [if_neg hc] at h
    refine y_aload_n C dX8_feed_15 (lv_at hl 0 rfl) ?_
    refine g8 C hw km_0 14 (by decide) wd_885 rfl dX8_feed_16 ?_
    refine y_iload_n C dX8_feed_19 (lv_at hl 1 rfl) ?_
    refine y_iadd C dX8_feed_20 ?_
    refine y_sipush C dX8_feed_21 (by decide) ?_
    refine y_icmp_le (tgt := 30) C (a' := zm ((x6.2 0 14) + v1)) (b' := 300) rfl (by decide) dX8_feed_24 (by decide) (fun hc => ?_) (fun hc => ?_)
    · rw [if_pos hc] at h
      refine y_iload_n C dX8_feed_30 (lv_at hl 1 rfl) ?_
      refine y_iconst C dX8_feed_31 ?_
      refine y_isub C dX8_feed_32 ?_
      refine y_istore (lv' := [(4, .int (zI (v1 - 1))), (0, .ref (ad 0)), (1, .int (zI v1)), (2, .long (zJ v2))]) C dX8_feed_33 hl (by decide) rfl (fun ls hl => ?_)
      exact k_X8_feed_35 C  FU _ _ _ _ _ _  hw (lv_sub hl [1, 3, 0] rfl) h
    · rw [if_neg hc] at h
      refine y_ldc C (z := (-1000000004)) wd_1031 (by decide) dX8_feed_27 ?_
      exact y_iret C hw h dX8_feed_29
theorem c_X8_feed {l : Launch} {D : va_G} {cA : Nat → ClassId} {adK adV : Nat → Nat} {A : Nat → Prop} {ad : Int → Nat} {R : va_W} {σ : St} {res : Int × St} {v1 : Int} {v2 : Int}  (h : p_X8_feed v1 v2 σ = some res) : Met l yX8_feed (wsU yX8_feed cX8_feed 5 (some .int)) (rmU 1 25) (va_Pc [.ref (ad 0), .int (zI v1), .long (zJ v2)] (Pr D cA adK adV ad kM 31 R A σ)) (QI D cA ad kM 31 R A res) 0 0 A :=
  y_met (own := RX8) (by decide) rfl _ (Nat.le_of_ble_eq_true rfl) (fun p e s m args below meth c ls C hl hw => k_X8_feed_0 C  hw hl h)
/-! RungHouseModel.here -/
set_option maxRecDepth 100000 in
set_option maxHeartbeats 4000000 in
theorem k_X8_here_38   (C : Cx cX8_here RX8 1 (some .int) D cA adK adV A p s m args meth c)  {σ : St} {H : Heap} {locs : List Loc} {ls : Array Slot}  (hw : At D cA ad kM 31 R A s σ H locs) (hl : lv_has ls 1 [(0, .ref (ad 0))]) (h : p_X8_here_38   σ = some res) : W p l e (rmU 0 0) s m args below meth c H locs 0 0 (MQ below (QI D cA ad kM 31 R A res) args s 0 0 A) (F0 m 38 ls []) := by
  have h := h
  unfold p_X8_here_38 at h
  refine y_aload_n C dX8_here_38 (lv_at hl 0 rfl) ?_
  refine g8 C hw km_0 16 (by decide) wd_887 rfl dX8_here_39 ?_
  refine y_aload_n C dX8_here_42 (lv_at hl 0 rfl) ?_
  refine g8 C hw km_0 14 (by decide) wd_885 rfl dX8_here_43 ?_
  refine y_icmp_ge (tgt := 61) C (a' := zm (σ 0 16)) (b' := zm (σ 0 14)) rfl rfl dX8_here_46 (by decide) (fun hc => ?_) (fun hc => ?_)
  · rw [if_pos hc] at h
    refine y_iconst C dX8_here_61 ?_
    exact y_iret C hw h dX8_here_62
  · rw [if_neg hc] at h
    refine y_aload_n C dX8_here_49 (lv_at hl 0 rfl) ?_
    refine g8 C hw km_0 13 (by decide) wd_884 rfl dX8_here_50 ?_
    refine y_aload_n C dX8_here_53 (lv_at hl 0 rfl) ?_
    refine g8 C hw km_0 16 (by decide) wd_887 rfl dX8_here_54 ?_
    obtain ⟨hg57, h⟩ := gd_some h
    refine y_iald C hw km_13 (i' := zm (σ 0 16)) rfl hg57 dX8_here_57 ?_
    refine y_goto (tgt := 62) C dX8_here_58 (by decide) ?_
    exact y_iret C hw h dX8_here_62
set_option maxRecDepth 100000 in
set_option maxHeartbeats 4000000 in
theorem k_X8_here_0b {K0 : St → Option (Int × St)}  (C : Cx cX8_here RX8 1 (some .int) D cA adK adV A p s m args meth c)  (hK0 : ∀  (σ : St) (H : Heap) (locs : List Loc) (ls : Array Slot) , At D cA ad kM 31 R A s σ H locs → lv_has ls 1 [(0, .ref (ad 0))] → K0  σ = some res → W p l e (rmU 0 0) s m args below meth c H locs 0 0 (MQ below (QI D cA ad kM 31 R A res) args s 0 0 A) (F0 m 0 ls [])) {σ : St} {H : Heap} {locs : List Loc} {ls : Array Slot}  (hw : At D cA ad kM 31 R A s σ H locs) (hl : lv_has ls 1 [(0, .ref (ad 0))]) (h : p_X8_here_0b K0  σ = some res) : W p l e (rmU 0 0) s m args below meth c H locs 0 0 (MQ below (QI D cA ad kM 31 R A res) args s 0 0 A) (F0 m 0 ls []) := by
  have h := h
  unfold p_X8_here_0b at h
  refine y_aload_n C dX8_here_0 (lv_at hl 0 rfl) ?_
  refine g8 C hw km_0 16 (by decide) wd_887 rfl dX8_here_1 ?_
  refine y_aload_n C dX8_here_4 (lv_at hl 0 rfl) ?_
  refine g8 C hw km_0 14 (by decide) wd_885 rfl dX8_here_5 ?_
  refine y_icmp_ge (tgt := 38) C (a' := zm (σ 0 16)) (b' := zm (σ 0 14)) rfl rfl dX8_here_8 (by decide) (fun hc => ?_) (fun hc => ?_)
  · rw [if_pos hc] at h
    exact k_X8_here_38 C   hw hl h
  · rw [if_neg hc] at h
    refine y_aload_n C dX8_here_11 (lv_at hl 0 rfl) ?_
    refine g8 C hw km_0 13 (by decide) wd_884 rfl dX8_here_12 ?_
    refine y_aload_n C dX8_here_15 (lv_at hl 0 rfl) ?_
    refine g8 C hw km_0 16 (by decide) wd_887 rfl dX8_here_16 ?_
    obtain ⟨hg19, h⟩ := gd_some h
    refine y_iald C hw km_13 (i' := zm (σ 0 16)) rfl hg19 dX8_here_19 ?_
    refine y_bipush C dX8_here_20 (by decide) ?_
    refine y_icmp_ne (tgt := 38) C (a' := zm (σ 13 (zm (σ 0 16)))) (b' := 32) rfl (by decide) dX8_here_22 (by decide) (fun hc => ?_) (fun hc => ?_)
    · rw [if_pos hc] at h
      refine y_aload_n C dX8_here_25 (lv_at hl 0 rfl) ?_
      refine y_dup C dX8_here_26 rfl ?_
      refine g8 C hw km_0 16 (by decide) wd_887 rfl dX8_here_27 ?_
      refine y_iconst C dX8_here_30 ?_
      refine y_iadd C dX8_here_31 ?_
      obtain ⟨σ32, eσ32, h⟩ := nx_some h
      refine q8 C hw km_0 16 (by decide) wd_887 rfl rfl rfl (by decide) ((σ 0 16) + 1) 16 rfl rfl dX8_here_32 (fun H locs hw => ?_)
      rw [← eσ32] at hw
      refine y_goto (tgt := 0) C dX8_here_35 (by decide) ?_
      exact hK0 _ _ _ _  hw hl h
    · rw [if_neg hc] at h
      exact k_X8_here_38 C   hw hl h
set_option maxRecDepth 100000 in
theorem k_X8_here_0  (C : Cx cX8_here RX8 1 (some .int) D cA adK adV A p s m args meth c)  : ∀ (n : Nat)  (σ : St) (H : Heap) (locs : List Loc) (ls : Array Slot) , At D cA ad kM 31 R A s σ H locs → lv_has ls 1 [(0, .ref (ad 0))] → p_X8_here_0  n  σ = some res → W p l e (rmU 0 0) s m args below meth c H locs 0 0 (MQ below (QI D cA ad kM 31 R A res) args s 0 0 A) (F0 m 0 ls []) := by
  intro n
  induction n with
  | zero =>
    intro  σ H locs ls  hw hl h
    have h : none = some res := h
    cases h
  | succ n ih =>
    intro  σ H locs ls  hw hl h
    exact k_X8_here_0b C  ih  hw hl h
theorem c_X8_here {l : Launch} {D : va_G} {cA : Nat → ClassId} {adK adV : Nat → Nat} {A : Nat → Prop} {ad : Int → Nat} {R : va_W} {σ : St} {res : Int × St}   (h : p_X8_here  σ = some res) : Met l yX8_here (wsU yX8_here cX8_here 1 (some .int)) (rmU 0 0) (va_Pc [.ref (ad 0)] (Pr D cA adK adV ad kM 31 R A σ)) (QI D cA ad kM 31 R A res) 0 0 A :=
  y_met (own := RX8) (by decide) rfl _ (Nat.le_of_ble_eq_true rfl) (fun p e s m args below meth c ls C hl hw => k_X8_here_0 C FU _ _ _ _  hw hl h)
/-! RungHouseModel.fails -/
set_option maxRecDepth 100000 in
set_option maxHeartbeats 4000000 in
theorem k_X8_fails_0  {v1 : Int} {v2 : Int} (C : Cx cX8_fails RX8 3 (some .int) D cA adK adV A p s m args meth c)  {σ : St} {H : Heap} {locs : List Loc} {ls : Array Slot}  (hw : At D cA ad kM 31 R A s σ H locs) (hl : lv_has ls 3 [(0, .ref (ad 0)), (1, .int (zI v1)), (2, .int (zI v2))]) (h : p_X8_fails  v1 v2 σ = some res) : W p l e (rmU 0 0) s m args below meth c H locs 0 0 (MQ below (QI D cA ad kM 31 R A res) args s 0 0 A) (F0 m 0 ls []) := by
  have h := h
  unfold p_X8_fails at h
  refine y_aload_n C dX8_fails_0 (lv_at hl 0 rfl) ?_
  refine y_iload_n C dX8_fails_1 (lv_at hl 2 rfl) ?_
  obtain ⟨σ2, eσ2, h⟩ := nx_some h
  refine q8 C hw km_0 15 (by decide) wd_886 rfl rfl rfl (by decide) v2 15 rfl rfl dX8_fails_2 (fun H locs hw => ?_)
  rw [← eσ2] at hw
  refine y_iload_n C dX8_fails_5 (lv_at hl 1 rfl) ?_
  exact y_iret C hw h dX8_fails_6
theorem c_X8_fails {l : Launch} {D : va_G} {cA : Nat → ClassId} {adK adV : Nat → Nat} {A : Nat → Prop} {ad : Int → Nat} {R : va_W} {σ : St} {res : Int × St} {v1 : Int} {v2 : Int}  (h : p_X8_fails v1 v2 σ = some res) : Met l yX8_fails (wsU yX8_fails cX8_fails 3 (some .int)) (rmU 0 0) (va_Pc [.ref (ad 0), .int (zI v1), .int (zI v2)] (Pr D cA adK adV ad kM 31 R A σ)) (QI D cA ad kM 31 R A res) 0 0 A :=
  y_met (own := RX8) (by decide) rfl _ (Nat.le_of_ble_eq_true rfl) (fun p e s m args below meth c ls C hl hw => k_X8_fails_0 C  hw hl h)
/-! RungHouseModel.readWord -/
set_option maxRecDepth 100000 in
set_option maxHeartbeats 4000000 in
theorem k_X8_readWord_92 {K18 : St → Option (Int × St)} {vs1 : Int} (C : Cx cX8_readWord RX8 2 none D cA adK adV A p s m args meth c) (hK18 : ∀  (σ : St) (H : Heap) (locs : List Loc) (ls : Array Slot) , At D cA ad kM 31 R A s σ H locs → lv_has ls 2 [(0, .ref (ad 0))] → K18  σ = some res → W p l e (rmU 1 25) s m args below meth c H locs 0 0 (MQ below (QV D cA ad kM 31 R A res) args s 0 0 A) (F0 m 18 ls [])) {σ : St} {H : Heap} {locs : List Loc} {ls : Array Slot}  (hw : At D cA ad kM 31 R A s σ H locs) (hl : lv_has ls 2 [(0, .ref (ad 0))]) (h : p_X8_readWord_92 K18 vs1 σ = some res) : W p l e (rmU 1 25) s m args below meth c H locs 0 0 (MQ below (QV D cA ad kM 31 R A res) args s 0 0 A) (F0 m 92 ls [.long (zJ vs1), .ref (ad 0)]) := by
  have h := h
  unfold p_X8_readWord_92 at h
  obtain ⟨σ92, eσ92, h⟩ := nx_some h
  refine q8 C hw km_0 17 (by decide) wd_888 rfl rfl rfl (by decide) vs1 17 rfl rfl dX8_readWord_92 (fun H locs hw => ?_)
  rw [← eσ92] at hw
  refine y_aload_n C dX8_readWord_95 (lv_at hl 0 rfl) ?_
  refine y_dup C dX8_readWord_96 rfl ?_
  refine g8 C hw km_0 18 (by decide) wd_889 rfl dX8_readWord_97 ?_
  refine y_iconst C dX8_readWord_100 ?_
  refine y_iadd C dX8_readWord_101 ?_
  obtain ⟨σ102, eσ102, h⟩ := nx_some h
  refine q8 C hw km_0 18 (by decide) wd_889 rfl rfl rfl (by decide) ((σ92 0 18) + 1) 18 rfl rfl dX8_readWord_102 (fun H locs hw => ?_)
  rw [← eσ102] at hw
  refine y_goto (tgt := 18) C dX8_readWord_105 (by decide) ?_
  exact hK18 _ _ _ _  hw hl h
set_option maxRecDepth 100000 in
set_option maxHeartbeats 4000000 in
theorem k_X8_readWord_18b {K18 : St → Option (Int × St)}  (C : Cx cX8_readWord RX8 2 none D cA adK adV A p s m args meth c)  (hK18 : ∀  (σ : St) (H : Heap) (locs : List Loc) (ls : Array Slot) , At D cA ad kM 31 R A s σ H locs → lv_has ls 2 [(0, .ref (ad 0))] → K18  σ = some res → W p l e (rmU 1 25) s m args below meth c H locs 0 0 (MQ below (QV D cA ad kM 31 R A res) args s 0 0 A) (F0 m 18 ls [])) {σ : St} {H : Heap} {locs : List Loc} {ls : Array Slot}  (hw : At D cA ad kM 31 R A s σ H locs) (hl : lv_has ls 2 [(0, .ref (ad 0))]) (h : p_X8_readWord_18b K18  σ = some res) : W p l e (rmU 1 25) s m args below meth c H locs 0 0 (MQ below (QV D cA ad kM 31 R A res) args s 0 0 A) (F0 m 18 ls []) := by
  have h := h
  unfold p_X8_readWord_18b at h
  refine y_aload_n C dX8_readWord_18 (lv_at hl 0 rfl) ?_
  refine g8 C hw km_0 18 (by decide) wd_889 rfl dX8_readWord_19 ?_
  refine y_aload_n C dX8_readWord_22 (lv_at hl 0 rfl) ?_
  refine g8 C hw km_0 14 (by decide) wd_885 rfl dX8_readWord_23 ?_
  refine y_icmp_ge (tgt := 108) C (a' := zm (σ 0 18)) (b' := zm (σ 0 14)) rfl rfl dX8_readWord_26 (by decide) (fun hc => ?_) (fun hc => ?_)
  · rw [if_pos hc] at h
    exact y_vret C hw h dX8_readWord_108
  · rw [if_neg hc] at h
    refine y_aload_n C dX8_readWord_29 (lv_at hl 0 rfl) ?_
    refine g8 C hw km_0 13 (by decide) wd_884 rfl dX8_readWord_30 ?_
    refine y_aload_n C dX8_readWord_33 (lv_at hl 0 rfl) ?_
    refine g8 C hw km_0 18 (by decide) wd_889 rfl dX8_readWord_34 ?_
    obtain ⟨hg37, h⟩ := gd_some h
    refine y_iald C hw km_13 (i' := zm (σ 0 18)) rfl hg37 dX8_readWord_37 ?_
    refine y_i2l C rfl dX8_readWord_38 ?_
    refine y_ldc2 C (z := 97) wd_1050 (by decide) dX8_readWord_39 ?_
    refine y_ldc2 C (z := 122) wd_1051 (by decide) dX8_readWord_42 ?_
    obtain ⟨x45, hc45, h⟩ := bd_some h
    refine y_ci (rest := []) hw (y_rS C hw (c_X8_within  hc45) mi_X8_within wd_1027 wd_1028 rfl ⟨by decide, by decide⟩ hl rfl (Nat.le_of_ble_eq_true rfl) dX8_readWord_45) (fun H locs hw => ?_)
    refine y_if_eq (tgt := 108) C (a' := zm x45.1) rfl dX8_readWord_48 (by decide) (fun hc => ?_) (fun hc => ?_)
    · rw [if_pos hc] at h
      exact y_vret C hw h dX8_readWord_108
    · rw [if_neg hc] at h
      refine y_aload_n C dX8_readWord_51 (lv_at hl 0 rfl) ?_
      refine y_aload_n C dX8_readWord_52 (lv_at hl 0 rfl) ?_
      refine g8 C hw km_0 17 (by decide) wd_888 rfl dX8_readWord_53 ?_
      refine y_ldc2 C (z := 1000000000000) wd_1052 (by decide) dX8_readWord_56 ?_
      refine y_lcmp C dX8_readWord_59 ?_
      refine y_if_le (tgt := 69) C (a' := zm (zcmp (x45.2 0 17) 1000000000000)) rfl dX8_readWord_60 (by decide) (fun hc => ?_) (fun hc => ?_)
      · rw [if_pos hc] at h
        refine y_ldc2 C (z := 27) wd_1054 (by decide) dX8_readWord_69 ?_
        refine y_aload_n C dX8_readWord_72 (lv_at hl 0 rfl) ?_
        refine g8 C hw km_0 17 (by decide) wd_888 rfl dX8_readWord_73 ?_
        refine y_lmul C dX8_readWord_76 ?_
        refine y_aload_n C dX8_readWord_77 (lv_at hl 0 rfl) ?_
        refine g8 C hw km_0 13 (by decide) wd_884 rfl dX8_readWord_78 ?_
        refine y_aload_n C dX8_readWord_81 (lv_at hl 0 rfl) ?_
        refine g8 C hw km_0 18 (by decide) wd_889 rfl dX8_readWord_82 ?_
        obtain ⟨hg85, h⟩ := gd_some h
        refine y_iald C hw km_13 (i' := zm (x45.2 0 18)) rfl hg85 dX8_readWord_85 ?_
        refine y_i2l C rfl dX8_readWord_86 ?_
        refine y_ladd C dX8_readWord_87 ?_
        refine y_ldc2 C (z := 96) wd_1055 (by decide) dX8_readWord_88 ?_
        refine y_lsub C dX8_readWord_91 ?_
        exact k_X8_readWord_92 C hK18  hw hl h
      · rw [if_neg hc] at h
        refine y_ldc2 C (z := 2000000000000) wd_1053 (by decide) dX8_readWord_63 ?_
        refine y_goto (tgt := 92) C dX8_readWord_66 (by decide) ?_
        exact k_X8_readWord_92 C hK18  hw hl h
set_option maxRecDepth 100000 in
theorem k_X8_readWord_18  (C : Cx cX8_readWord RX8 2 none D cA adK adV A p s m args meth c)  : ∀ (n : Nat)  (σ : St) (H : Heap) (locs : List Loc) (ls : Array Slot) , At D cA ad kM 31 R A s σ H locs → lv_has ls 2 [(0, .ref (ad 0))] → p_X8_readWord_18  n  σ = some res → W p l e (rmU 1 25) s m args below meth c H locs 0 0 (MQ below (QV D cA ad kM 31 R A res) args s 0 0 A) (F0 m 18 ls []) := by
  intro n
  induction n with
  | zero =>
    intro  σ H locs ls  hw hl h
    have h : none = some res := h
    cases h
  | succ n ih =>
    intro  σ H locs ls  hw hl h
    exact k_X8_readWord_18b C  ih  hw hl h
set_option maxRecDepth 100000 in
set_option maxHeartbeats 4000000 in
theorem k_X8_readWord_0   (C : Cx cX8_readWord RX8 2 none D cA adK adV A p s m args meth c)  {σ : St} {H : Heap} {locs : List Loc} {ls : Array Slot}  (hw : At D cA ad kM 31 R A s σ H locs) (hl : lv_has ls 2 [(0, .ref (ad 0))]) (h : p_X8_readWord   σ = some res) : W p l e (rmU 1 25) s m args below meth c H locs 0 0 (MQ below (QV D cA ad kM 31 R A res) args s 0 0 A) (F0 m 0 ls []) := by
  have h := h
  unfold p_X8_readWord at h
  refine y_aload_n C dX8_readWord_0 (lv_at hl 0 rfl) ?_
  obtain ⟨x1, hc1, h⟩ := bd_some h
  refine y_ci (rest := []) hw (y_rV C hw km_0 (by decide) rfl rfl (c_X8_here  hc1) mi_X8_here wd_1038 wd_1040 ws_25 rfl ⟨by decide, by decide⟩ hl rfl (Nat.le_of_ble_eq_true rfl) dX8_readWord_1) (fun H locs hw => ?_)
  refine y_istore_n (lv' := [(1, .int (zI x1.1)), (0, .ref (ad 0))]) C dX8_readWord_4 hl (by decide) rfl (fun ls hl => ?_)
  refine y_aload_n C dX8_readWord_5 (lv_at hl 1 rfl) ?_
  refine y_lconst C (z' := 0) dX8_readWord_6 (by decide) ?_
  obtain ⟨σ7, eσ7, h⟩ := nx_some h
  refine q8 C hw km_0 17 (by decide) wd_888 rfl rfl rfl (by decide) 0 17 rfl rfl dX8_readWord_7 (fun H locs hw => ?_)
  rw [← eσ7] at hw
  refine y_aload_n C dX8_readWord_10 (lv_at hl 1 rfl) ?_
  refine y_aload_n C dX8_readWord_11 (lv_at hl 1 rfl) ?_
  refine g8 C hw km_0 16 (by decide) wd_887 rfl dX8_readWord_12 ?_
  obtain ⟨σ15, eσ15, h⟩ := nx_some h
  refine q8 C hw km_0 18 (by decide) wd_889 rfl rfl rfl (by decide) (σ7 0 16) 18 rfl rfl dX8_readWord_15 (fun H locs hw => ?_)
  rw [← eσ15] at hw
  exact k_X8_readWord_18 C  FU _ _ _ _  hw (lv_sub hl [1] rfl) h
theorem c_X8_readWord {l : Launch} {D : va_G} {cA : Nat → ClassId} {adK adV : Nat → Nat} {A : Nat → Prop} {ad : Int → Nat} {R : va_W} {σ : St} {res : Int × St}   (h : p_X8_readWord  σ = some res) : Met l yX8_readWord (wsU yX8_readWord cX8_readWord 2 none) (rmU 1 25) (va_Pc [.ref (ad 0)] (Pr D cA adK adV ad kM 31 R A σ)) (QV D cA ad kM 31 R A res) 0 0 A :=
  y_met (own := RX8) (by decide) rfl _ (Nat.le_of_ble_eq_true rfl) (fun p e s m args below meth c ls C hl hw => k_X8_readWord_0 C  hw hl h)
/-! RungHouseModel.code -/
set_option maxRecDepth 100000 in
set_option maxHeartbeats 4000000 in
theorem k_X8_code_0  {v0 : Int} {v1 : Int} {v2 : Int} {v3 : Int} (C : Cx cX8_code RX8 4 (some .long) D cA adK adV A p s m args meth c)  {σ : St} {H : Heap} {locs : List Loc} {ls : Array Slot}  (hw : At D cA ad kM 31 R A s σ H locs) (hl : lv_has ls 4 [(0, .int (zI v0)), (1, .int (zI v1)), (2, .int (zI v2)), (3, .int (zI v3))]) (h : p_X8_code  v0 v1 v2 v3 σ = some res) : W p l e (rmU 0 0) s m args below meth c H locs 0 0 (MQ below (QL D cA ad kM 31 R A res) args s 0 0 A) (F0 m 0 ls []) := by
  have h := h
  unfold p_X8_code at h
  refine y_ldc2 C (z := 27) wd_1054 (by decide) dX8_code_0 ?_
  refine y_ldc2 C (z := 27) wd_1054 (by decide) dX8_code_3 ?_
  refine y_ldc2 C (z := 27) wd_1054 (by decide) dX8_code_6 ?_
  refine y_iload_n C dX8_code_9 (lv_at hl 0 rfl) ?_
  refine y_i2l C rfl dX8_code_10 ?_
  refine y_ldc2 C (z := 96) wd_1055 (by decide) dX8_code_11 ?_
  refine y_lsub C dX8_code_14 ?_
  refine y_lmul C dX8_code_15 ?_
  refine y_iload_n C dX8_code_16 (lv_at hl 1 rfl) ?_
  refine y_i2l C rfl dX8_code_17 ?_
  refine y_ladd C dX8_code_18 ?_
  refine y_ldc2 C (z := 96) wd_1055 (by decide) dX8_code_19 ?_
  refine y_lsub C dX8_code_22 ?_
  refine y_lmul C dX8_code_23 ?_
  refine y_iload_n C dX8_code_24 (lv_at hl 2 rfl) ?_
  refine y_i2l C rfl dX8_code_25 ?_
  refine y_ladd C dX8_code_26 ?_
  refine y_ldc2 C (z := 96) wd_1055 (by decide) dX8_code_27 ?_
  refine y_lsub C dX8_code_30 ?_
  refine y_lmul C dX8_code_31 ?_
  refine y_iload_n C dX8_code_32 (lv_at hl 3 rfl) ?_
  refine y_i2l C rfl dX8_code_33 ?_
  refine y_ladd C dX8_code_34 ?_
  refine y_ldc2 C (z := 96) wd_1055 (by decide) dX8_code_35 ?_
  refine y_lsub C dX8_code_38 ?_
  exact y_lret C hw h dX8_code_39
theorem c_X8_code {l : Launch} {D : va_G} {cA : Nat → ClassId} {adK adV : Nat → Nat} {A : Nat → Prop} {ad : Int → Nat} {R : va_W} {σ : St} {res : Int × St} {v0 : Int} {v1 : Int} {v2 : Int} {v3 : Int}  (h : p_X8_code v0 v1 v2 v3 σ = some res) : Met l yX8_code (wsU yX8_code cX8_code 4 (some .long)) (rmU 0 0) (va_Pc [.int (zI v0), .int (zI v1), .int (zI v2), .int (zI v3)] (Pr D cA adK adV ad kM 31 R A σ)) (QL D cA ad kM 31 R A res) 0 0 A :=
  y_met (own := RX8) (by decide) rfl _ (Nat.le_of_ble_eq_true rfl) (fun p e s m args below meth c ls C hl hw => k_X8_code_0 C  hw hl h)
/-! RungHouseModel.longer -/
set_option maxRecDepth 100000 in
set_option maxHeartbeats 4000000 in
theorem k_X8_longer_0  {v0 : Int} {v2 : Int} (C : Cx cX8_longer RX8 3 (some .long) D cA adK adV A p s m args meth c)  {σ : St} {H : Heap} {locs : List Loc} {ls : Array Slot}  (hw : At D cA ad kM 31 R A s σ H locs) (hl : lv_has ls 3 [(0, .long (zJ v0)), (2, .int (zI v2))]) (h : p_X8_longer  v0 v2 σ = some res) : W p l e (rmU 0 0) s m args below meth c H locs 0 0 (MQ below (QL D cA ad kM 31 R A res) args s 0 0 A) (F0 m 0 ls []) := by
  have h := h
  unfold p_X8_longer at h
  refine y_ldc2 C (z := 27) wd_1054 (by decide) dX8_longer_0 ?_
  refine y_lload_n C dX8_longer_3 (lv_at hl 0 rfl) ?_
  refine y_lmul C dX8_longer_4 ?_
  refine y_iload_n C dX8_longer_5 (lv_at hl 1 rfl) ?_
  refine y_i2l C rfl dX8_longer_6 ?_
  refine y_ladd C dX8_longer_7 ?_
  refine y_ldc2 C (z := 96) wd_1055 (by decide) dX8_longer_8 ?_
  refine y_lsub C dX8_longer_11 ?_
  exact y_lret C hw h dX8_longer_12
theorem c_X8_longer {l : Launch} {D : va_G} {cA : Nat → ClassId} {adK adV : Nat → Nat} {A : Nat → Prop} {ad : Int → Nat} {R : va_W} {σ : St} {res : Int × St} {v0 : Int} {v2 : Int}  (h : p_X8_longer v0 v2 σ = some res) : Met l yX8_longer (wsU yX8_longer cX8_longer 3 (some .long)) (rmU 0 0) (va_Pc [.long (zJ v0), .int (zI v2)] (Pr D cA adK adV ad kM 31 R A σ)) (QL D cA ad kM 31 R A res) 0 0 A :=
  y_met (own := RX8) (by decide) rfl _ (Nat.le_of_ble_eq_true rfl) (fun p e s m args below meth c ls C hl hw => k_X8_longer_0 C  hw hl h)
/-! RungHouseModel.takeNumber -/
set_option maxRecDepth 100000 in
set_option maxHeartbeats 4000000 in
theorem k_X8_takeNumber_157   (C : Cx cX8_takeNumber RX8 4 (some .int) D cA adK adV A p s m args meth c)  {σ : St} {H : Heap} {locs : List Loc} {ls : Array Slot}  (hw : At D cA ad kM 31 R A s σ H locs) (hl : lv_has ls 4 [(0, .ref (ad 0))]) (h : p_X8_takeNumber_157   σ = some res) : W p l e (rmU 1 25) s m args below meth c H locs 0 0 (MQ below (QI D cA ad kM 31 R A res) args s 0 0 A) (F0 m 157 ls []) := by
  have h := h
  unfold p_X8_takeNumber_157 at h
  refine y_aload_n C dX8_takeNumber_157 (lv_at hl 0 rfl) ?_
  refine y_iconst C dX8_takeNumber_158 ?_
  refine y_aload_n C dX8_takeNumber_159 (lv_at hl 0 rfl) ?_
  refine g8 C hw km_0 20 (by decide) wd_891 rfl dX8_takeNumber_160 ?_
  obtain ⟨x163, hc163, h⟩ := bd_some h
  refine y_ci (rest := []) hw (y_rV C hw km_0 (by decide) rfl rfl (c_X8_fails  hc163) mi_X8_fails wd_1070 wd_1072 ws_29 rfl ⟨by decide, by decide⟩ hl rfl (Nat.le_of_ble_eq_true rfl) dX8_takeNumber_163) (fun H locs hw => ?_)
  refine y_goto (tgt := 170) C dX8_takeNumber_166 (by decide) ?_
  exact y_iret C hw h dX8_takeNumber_170
set_option maxRecDepth 100000 in
set_option maxHeartbeats 4000000 in
theorem k_X8_takeNumber_129  {v1 : Int} {v2 : Int} (C : Cx cX8_takeNumber RX8 4 (some .int) D cA adK adV A p s m args meth c)  {σ : St} {H : Heap} {locs : List Loc} {ls : Array Slot}  (hw : At D cA ad kM 31 R A s σ H locs) (hl : lv_has ls 4 [(0, .ref (ad 0)), (1, .int (zI v1)), (2, .int (zI v2))]) (h : p_X8_takeNumber_129  v1 v2 σ = some res) : W p l e (rmU 1 25) s m args below meth c H locs 0 0 (MQ below (QI D cA ad kM 31 R A res) args s 0 0 A) (F0 m 129 ls []) := by
  have h := h
  unfold p_X8_takeNumber_129 at h
  refine y_aload_n C dX8_takeNumber_129 (lv_at hl 0 rfl) ?_
  refine g8 C hw km_0 16 (by decide) wd_887 rfl dX8_takeNumber_130 ?_
  refine y_aload_n C dX8_takeNumber_133 (lv_at hl 0 rfl) ?_
  refine g8 C hw km_0 20 (by decide) wd_891 rfl dX8_takeNumber_134 ?_
  refine y_isub C dX8_takeNumber_137 ?_
  refine y_iconst C dX8_takeNumber_138 ?_
  refine y_icmp_gt (tgt := 157) C (a' := zm ((σ 0 16) - (σ 0 20))) (b' := 3) rfl (by decide) dX8_takeNumber_139 (by decide) (fun hc => ?_) (fun hc => ?_)
  · rw [if_pos hc] at h
    exact k_X8_takeNumber_157 C   hw (lv_sub hl [0] rfl) h
  · rw [if_neg hc] at h
    refine y_aload_n C dX8_takeNumber_142 (lv_at hl 0 rfl) ?_
    refine g8 C hw km_0 19 (by decide) wd_890 rfl dX8_takeNumber_143 ?_
    refine y_i2l C rfl dX8_takeNumber_146 ?_
    refine y_iload_n C dX8_takeNumber_147 (lv_at hl 1 rfl) ?_
    refine y_i2l C rfl dX8_takeNumber_148 ?_
    refine y_iload_n C dX8_takeNumber_149 (lv_at hl 2 rfl) ?_
    refine y_i2l C rfl dX8_takeNumber_150 ?_
    obtain ⟨x151, hc151, h⟩ := bd_some h
    refine y_ci (rest := []) hw (y_rS C hw (c_X8_within  hc151) mi_X8_within wd_1027 wd_1028 rfl ⟨by decide, by decide⟩ hl rfl (Nat.le_of_ble_eq_true rfl) dX8_takeNumber_151) (fun H locs hw => ?_)
    refine y_if_ne (tgt := 169) C (a' := zm x151.1) rfl dX8_takeNumber_154 (by decide) (fun hc => ?_) (fun hc => ?_)
    · rw [if_pos hc] at h
      exact k_X8_takeNumber_157 C   hw (lv_sub hl [0] rfl) h
    · rw [if_neg hc] at h
      refine y_iconst C dX8_takeNumber_169 ?_
      exact y_iret C hw h dX8_takeNumber_170
set_option maxRecDepth 100000 in
set_option maxHeartbeats 4000000 in
theorem k_X8_takeNumber_113 {K42 : Int → Int → St → Option (Int × St)} {v1 : Int} {v2 : Int} {vs1 : Int} (C : Cx cX8_takeNumber RX8 4 (some .int) D cA adK adV A p s m args meth c) (hK42 : ∀ (v1 : Int) (v2 : Int) (σ : St) (H : Heap) (locs : List Loc) (ls : Array Slot) , At D cA ad kM 31 R A s σ H locs → lv_has ls 4 [(0, .ref (ad 0)), (1, .int (zI v1)), (2, .int (zI v2))] → K42 v1 v2 σ = some res → W p l e (rmU 1 25) s m args below meth c H locs 0 0 (MQ below (QI D cA ad kM 31 R A res) args s 0 0 A) (F0 m 42 ls [])) {σ : St} {H : Heap} {locs : List Loc} {ls : Array Slot}  (hw : At D cA ad kM 31 R A s σ H locs) (hl : lv_has ls 4 [(0, .ref (ad 0)), (1, .int (zI v1)), (2, .int (zI v2))]) (h : p_X8_takeNumber_113 K42 v1 v2 vs1 σ = some res) : W p l e (rmU 1 25) s m args below meth c H locs 0 0 (MQ below (QI D cA ad kM 31 R A res) args s 0 0 A) (F0 m 113 ls [.int (zI vs1), .ref (ad 0)]) := by
  have h := h
  unfold p_X8_takeNumber_113 at h
  obtain ⟨σ113, eσ113, h⟩ := nx_some h
  refine q8 C hw km_0 19 (by decide) wd_890 rfl rfl rfl (by decide) vs1 19 rfl rfl dX8_takeNumber_113 (fun H locs hw => ?_)
  rw [← eσ113] at hw
  refine y_aload_n C dX8_takeNumber_116 (lv_at hl 0 rfl) ?_
  refine y_dup C dX8_takeNumber_117 rfl ?_
  refine g8 C hw km_0 16 (by decide) wd_887 rfl dX8_takeNumber_118 ?_
  refine y_iconst C dX8_takeNumber_121 ?_
  refine y_iadd C dX8_takeNumber_122 ?_
  obtain ⟨σ123, eσ123, h⟩ := nx_some h
  refine q8 C hw km_0 16 (by decide) wd_887 rfl rfl rfl (by decide) ((σ113 0 16) + 1) 16 rfl rfl dX8_takeNumber_123 (fun H locs hw => ?_)
  rw [← eσ123] at hw
  refine y_goto (tgt := 42) C dX8_takeNumber_126 (by decide) ?_
  exact hK42 _ _ _ _ _ _  hw hl h
set_option maxRecDepth 100000 in
set_option maxHeartbeats 4000000 in
theorem k_X8_takeNumber_42b {K42 : Int → Int → St → Option (Int × St)} {v1 : Int} {v2 : Int} (C : Cx cX8_takeNumber RX8 4 (some .int) D cA adK adV A p s m args meth c)  (hK42 : ∀ (v1 : Int) (v2 : Int) (σ : St) (H : Heap) (locs : List Loc) (ls : Array Slot) , At D cA ad kM 31 R A s σ H locs → lv_has ls 4 [(0, .ref (ad 0)), (1, .int (zI v1)), (2, .int (zI v2))] → K42 v1 v2 σ = some res → W p l e (rmU 1 25) s m args below meth c H locs 0 0 (MQ below (QI D cA ad kM 31 R A res) args s 0 0 A) (F0 m 42 ls [])) {σ : St} {H : Heap} {locs : List Loc} {ls : Array Slot}  (hw : At D cA ad kM 31 R A s σ H locs) (hl : lv_has ls 4 [(0, .ref (ad 0)), (1, .int (zI v1)), (2, .int (zI v2))]) (h : p_X8_takeNumber_42b K42 v1 v2 σ = some res) : W p l e (rmU 1 25) s m args below meth c H locs 0 0 (MQ below (QI D cA ad kM 31 R A res) args s 0 0 A) (F0 m 42 ls []) := by
  have h := h
  unfold p_X8_takeNumber_42b at h
  refine y_aload_n C dX8_takeNumber_42 (lv_at hl 0 rfl) ?_
  refine g8 C hw km_0 16 (by decide) wd_887 rfl dX8_takeNumber_43 ?_
  refine y_aload_n C dX8_takeNumber_46 (lv_at hl 0 rfl) ?_
  refine g8 C hw km_0 14 (by decide) wd_885 rfl dX8_takeNumber_47 ?_
  refine y_icmp_ge (tgt := 129) C (a' := zm (σ 0 16)) (b' := zm (σ 0 14)) rfl rfl dX8_takeNumber_50 (by decide) (fun hc => ?_) (fun hc => ?_)
  · rw [if_pos hc] at h
    exact k_X8_takeNumber_129 C   hw hl h
  · rw [if_neg hc] at h
    refine y_aload_n C dX8_takeNumber_53 (lv_at hl 0 rfl) ?_
    refine g8 C hw km_0 13 (by decide) wd_884 rfl dX8_takeNumber_54 ?_
    refine y_aload_n C dX8_takeNumber_57 (lv_at hl 0 rfl) ?_
    refine g8 C hw km_0 16 (by decide) wd_887 rfl dX8_takeNumber_58 ?_
    obtain ⟨hg61, h⟩ := gd_some h
    refine y_iald C hw km_13 (i' := zm (σ 0 16)) rfl hg61 dX8_takeNumber_61 ?_
    refine y_i2l C rfl dX8_takeNumber_62 ?_
    refine y_ldc2 C (z := 48) wd_1078 (by decide) dX8_takeNumber_63 ?_
    refine y_ldc2 C (z := 57) wd_1079 (by decide) dX8_takeNumber_66 ?_
    obtain ⟨x69, hc69, h⟩ := bd_some h
    refine y_ci (rest := []) hw (y_rS C hw (c_X8_within  hc69) mi_X8_within wd_1027 wd_1028 rfl ⟨by decide, by decide⟩ hl rfl (Nat.le_of_ble_eq_true rfl) dX8_takeNumber_69) (fun H locs hw => ?_)
    refine y_if_eq (tgt := 129) C (a' := zm x69.1) rfl dX8_takeNumber_72 (by decide) (fun hc => ?_) (fun hc => ?_)
    · rw [if_pos hc] at h
      exact k_X8_takeNumber_129 C   hw hl h
    · rw [if_neg hc] at h
      refine y_aload_n C dX8_takeNumber_75 (lv_at hl 0 rfl) ?_
      refine y_aload_n C dX8_takeNumber_76 (lv_at hl 0 rfl) ?_
      refine g8 C hw km_0 19 (by decide) wd_890 rfl dX8_takeNumber_77 ?_
      refine y_sipush C dX8_takeNumber_80 (by decide) ?_
      refine y_icmp_le (tgt := 93) C (a' := zm (x69.2 0 19)) (b' := 10000) rfl (by decide) dX8_takeNumber_83 (by decide) (fun hc => ?_) (fun hc => ?_)
      · rw [if_pos hc] at h
        refine y_bipush C dX8_takeNumber_93 (by decide) ?_
        refine y_aload_n C dX8_takeNumber_95 (lv_at hl 0 rfl) ?_
        refine g8 C hw km_0 19 (by decide) wd_890 rfl dX8_takeNumber_96 ?_
        refine y_imul C dX8_takeNumber_99 ?_
        refine y_aload_n C dX8_takeNumber_100 (lv_at hl 0 rfl) ?_
        refine g8 C hw km_0 13 (by decide) wd_884 rfl dX8_takeNumber_101 ?_
        refine y_aload_n C dX8_takeNumber_104 (lv_at hl 0 rfl) ?_
        refine g8 C hw km_0 16 (by decide) wd_887 rfl dX8_takeNumber_105 ?_
        obtain ⟨hg108, h⟩ := gd_some h
        refine y_iald C hw km_13 (i' := zm (x69.2 0 16)) rfl hg108 dX8_takeNumber_108 ?_
        refine y_iadd C dX8_takeNumber_109 ?_
        refine y_bipush C dX8_takeNumber_110 (by decide) ?_
        refine y_isub C dX8_takeNumber_112 ?_
        exact k_X8_takeNumber_113 C hK42  hw hl h
      · rw [if_neg hc] at h
        refine y_aload_n C dX8_takeNumber_86 (lv_at hl 0 rfl) ?_
        refine g8 C hw km_0 19 (by decide) wd_890 rfl dX8_takeNumber_87 ?_
        refine y_goto (tgt := 113) C dX8_takeNumber_90 (by decide) ?_
        exact k_X8_takeNumber_113 C hK42  hw hl h
set_option maxRecDepth 100000 in
theorem k_X8_takeNumber_42  (C : Cx cX8_takeNumber RX8 4 (some .int) D cA adK adV A p s m args meth c)  : ∀ (n : Nat) (v1 : Int) (v2 : Int) (σ : St) (H : Heap) (locs : List Loc) (ls : Array Slot) , At D cA ad kM 31 R A s σ H locs → lv_has ls 4 [(0, .ref (ad 0)), (1, .int (zI v1)), (2, .int (zI v2))] → p_X8_takeNumber_42  n v1 v2 σ = some res → W p l e (rmU 1 25) s m args below meth c H locs 0 0 (MQ below (QI D cA ad kM 31 R A res) args s 0 0 A) (F0 m 42 ls []) := by
  intro n
  induction n with
  | zero =>
    intro v1 v2 σ H locs ls  hw hl h
    have h : none = some res := h
    cases h
  | succ n ih =>
    intro v1 v2 σ H locs ls  hw hl h
    exact k_X8_takeNumber_42b C  ih  hw hl h
set_option maxRecDepth 100000 in
set_option maxHeartbeats 4000000 in
theorem k_X8_takeNumber_0  {v1 : Int} {v2 : Int} (C : Cx cX8_takeNumber RX8 4 (some .int) D cA adK adV A p s m args meth c)  {σ : St} {H : Heap} {locs : List Loc} {ls : Array Slot}  (hw : At D cA ad kM 31 R A s σ H locs) (hl : lv_has ls 4 [(0, .ref (ad 0)), (1, .int (zI v1)), (2, .int (zI v2))]) (h : p_X8_takeNumber  v1 v2 σ = some res) : W p l e (rmU 1 25) s m args below meth c H locs 0 0 (MQ below (QI D cA ad kM 31 R A res) args s 0 0 A) (F0 m 0 ls []) := by
  have h := h
  unfold p_X8_takeNumber at h
  refine y_aload_n C dX8_takeNumber_0 (lv_at hl 0 rfl) ?_
  obtain ⟨x1, hc1, h⟩ := bd_some h
  refine y_ci (rest := []) hw (y_rV C hw km_0 (by decide) rfl rfl (c_X8_here  hc1) mi_X8_here wd_1038 wd_1040 ws_25 rfl ⟨by decide, by decide⟩ hl rfl (Nat.le_of_ble_eq_true rfl) dX8_takeNumber_1) (fun H locs hw => ?_)
  refine y_istore_n (lv' := [(3, .int (zI x1.1)), (0, .ref (ad 0)), (1, .int (zI v1)), (2, .int (zI v2))]) C dX8_takeNumber_4 hl (by decide) rfl (fun ls hl => ?_)
  refine y_iload_n C dX8_takeNumber_5 (lv_at hl 0 rfl) ?_
  refine y_i2l C rfl dX8_takeNumber_6 ?_
  refine y_ldc2 C (z := 48) wd_1078 (by decide) dX8_takeNumber_7 ?_
  refine y_ldc2 C (z := 57) wd_1079 (by decide) dX8_takeNumber_10 ?_
  obtain ⟨x13, hc13, h⟩ := bd_some h
  refine y_ci (rest := []) hw (y_rS C hw (c_X8_within  hc13) mi_X8_within wd_1027 wd_1028 rfl ⟨by decide, by decide⟩ hl rfl (Nat.le_of_ble_eq_true rfl) dX8_takeNumber_13) (fun H locs hw => ?_)
  refine y_if_ne (tgt := 29) C (a' := zm x13.1) rfl dX8_takeNumber_16 (by decide) (fun hc => ?_) (fun hc => ?_)
  · rw [if_pos hc] at h
    refine y_aload_n C dX8_takeNumber_19 (lv_at hl 1 rfl) ?_
    refine y_iconst C dX8_takeNumber_20 ?_
    refine y_aload_n C dX8_takeNumber_21 (lv_at hl 1 rfl) ?_
    refine g8 C hw km_0 16 (by decide) wd_887 rfl dX8_takeNumber_22 ?_
    obtain ⟨x25, hc25, h⟩ := bd_some h
    refine y_ci (rest := []) hw (y_rV C hw km_0 (by decide) rfl rfl (c_X8_fails  hc25) mi_X8_fails wd_1070 wd_1072 ws_29 rfl ⟨by decide, by decide⟩ hl rfl (Nat.le_of_ble_eq_true rfl) dX8_takeNumber_25) (fun H locs hw => ?_)
    exact y_iret C hw h dX8_takeNumber_28
  · rw [if_neg hc] at h
    refine y_aload_n C dX8_takeNumber_29 (lv_at hl 1 rfl) ?_
    refine y_aload_n C dX8_takeNumber_30 (lv_at hl 1 rfl) ?_
    refine g8 C hw km_0 16 (by decide) wd_887 rfl dX8_takeNumber_31 ?_
    obtain ⟨σ34, eσ34, h⟩ := nx_some h
    refine q8 C hw km_0 20 (by decide) wd_891 rfl rfl rfl (by decide) (x13.2 0 16) 20 rfl rfl dX8_takeNumber_34 (fun H locs hw => ?_)
    rw [← eσ34] at hw
    refine y_aload_n C dX8_takeNumber_37 (lv_at hl 1 rfl) ?_
    refine y_iconst C dX8_takeNumber_38 ?_
    obtain ⟨σ39, eσ39, h⟩ := nx_some h
    refine q8 C hw km_0 19 (by decide) wd_890 rfl rfl rfl (by decide) 0 19 rfl rfl dX8_takeNumber_39 (fun H locs hw => ?_)
    rw [← eσ39] at hw
    exact k_X8_takeNumber_42 C  FU _ _ _ _ _ _  hw (lv_sub hl [1, 2, 3] rfl) h
theorem c_X8_takeNumber {l : Launch} {D : va_G} {cA : Nat → ClassId} {adK adV : Nat → Nat} {A : Nat → Prop} {ad : Int → Nat} {R : va_W} {σ : St} {res : Int × St} {v1 : Int} {v2 : Int}  (h : p_X8_takeNumber v1 v2 σ = some res) : Met l yX8_takeNumber (wsU yX8_takeNumber cX8_takeNumber 4 (some .int)) (rmU 1 25) (va_Pc [.ref (ad 0), .int (zI v1), .int (zI v2)] (Pr D cA adK adV ad kM 31 R A σ)) (QI D cA ad kM 31 R A res) 0 0 A :=
  y_met (own := RX8) (by decide) rfl _ (Nat.le_of_ble_eq_true rfl) (fun p e s m args below meth c ls C hl hw => k_X8_takeNumber_0 C  hw hl h)
/-! RungHouseModel.takeStop -/
set_option maxRecDepth 100000 in
set_option maxHeartbeats 4000000 in
theorem k_X8_takeStop_0   (C : Cx cX8_takeStop RX8 1 (some .int) D cA adK adV A p s m args meth c)  {σ : St} {H : Heap} {locs : List Loc} {ls : Array Slot}  (hw : At D cA ad kM 31 R A s σ H locs) (hl : lv_has ls 1 [(0, .ref (ad 0))]) (h : p_X8_takeStop   σ = some res) : W p l e (rmU 1 22) s m args below meth c H locs 0 0 (MQ below (QI D cA ad kM 31 R A res) args s 0 0 A) (F0 m 0 ls []) := by
  have h := h
  unfold p_X8_takeStop at h
  refine y_aload_n C dX8_takeStop_0 (lv_at hl 0 rfl) ?_
  obtain ⟨x1, hc1, h⟩ := bd_some h
  refine y_ci (rest := []) hw (y_rV C hw km_0 (by decide) rfl rfl (c_X8_here  hc1) mi_X8_here wd_1038 wd_1040 ws_25 rfl ⟨by decide, by decide⟩ hl rfl (Nat.le_of_ble_eq_true rfl) dX8_takeStop_1) (fun H locs hw => ?_)
  refine y_bipush C dX8_takeStop_4 (by decide) ?_
  refine y_icmp_eq (tgt := 19) C (a' := zm x1.1) (b' := 59) rfl (by decide) dX8_takeStop_6 (by decide) (fun hc => ?_) (fun hc => ?_)
  · rw [if_pos hc] at h
    refine y_aload_n C dX8_takeStop_19 (lv_at hl 0 rfl) ?_
    refine y_dup C dX8_takeStop_20 rfl ?_
    refine g8 C hw km_0 16 (by decide) wd_887 rfl dX8_takeStop_21 ?_
    refine y_iconst C dX8_takeStop_24 ?_
    refine y_iadd C dX8_takeStop_25 ?_
    obtain ⟨σ26, eσ26, h⟩ := nx_some h
    refine q8 C hw km_0 16 (by decide) wd_887 rfl rfl rfl (by decide) ((x1.2 0 16) + 1) 16 rfl rfl dX8_takeStop_26 (fun H locs hw => ?_)
    rw [← eσ26] at hw
    refine y_iconst C dX8_takeStop_29 ?_
    exact y_iret C hw h dX8_takeStop_30
  · rw [if_neg hc] at h
    refine y_aload_n C dX8_takeStop_9 (lv_at hl 0 rfl) ?_
    refine y_iconst C dX8_takeStop_10 ?_
    refine y_aload_n C dX8_takeStop_11 (lv_at hl 0 rfl) ?_
    refine g8 C hw km_0 16 (by decide) wd_887 rfl dX8_takeStop_12 ?_
    obtain ⟨x15, hc15, h⟩ := bd_some h
    refine y_ci (rest := []) hw (y_rV C hw km_0 (by decide) rfl rfl (c_X8_fails  hc15) mi_X8_fails wd_1070 wd_1072 ws_29 rfl ⟨by decide, by decide⟩ hl rfl (Nat.le_of_ble_eq_true rfl) dX8_takeStop_15) (fun H locs hw => ?_)
    exact y_iret C hw h dX8_takeStop_18
theorem c_X8_takeStop {l : Launch} {D : va_G} {cA : Nat → ClassId} {adK adV : Nat → Nat} {A : Nat → Prop} {ad : Int → Nat} {R : va_W} {σ : St} {res : Int × St}   (h : p_X8_takeStop  σ = some res) : Met l yX8_takeStop (wsU yX8_takeStop cX8_takeStop 1 (some .int)) (rmU 1 22) (va_Pc [.ref (ad 0)] (Pr D cA adK adV ad kM 31 R A σ)) (QI D cA ad kM 31 R A res) 0 0 A :=
  y_met (own := RX8) (by decide) rfl _ (Nat.le_of_ble_eq_true rfl) (fun p e s m args below meth c ls C hl hw => k_X8_takeStop_0 C  hw hl h)
/-! RungHouseModel.houseClause -/
set_option maxRecDepth 100000 in
set_option maxHeartbeats 4000000 in
theorem k_X8_houseClause_122  {v3 : Int} {vs0 : Int} (C : Cx cX8_houseClause RX8 5 (some .int) D cA adK adV A p s m args meth c)  {σ : St} {H : Heap} {locs : List Loc} {ls : Array Slot}  (hw : At D cA ad kM 31 R A s σ H locs) (hl : lv_has ls 5 [(3, .int (zI v3))]) (h : p_X8_houseClause_122  v3 vs0 σ = some res) : W p l e (rmU 1 23) s m args below meth c H locs 0 0 (MQ below (QI D cA ad kM 31 R A res) args s 0 0 A) (F0 m 122 ls [.int (zI vs0)]) := by
  have h := h
  unfold p_X8_houseClause_122 at h
  refine y_istore (lv' := [(4, .int (zI vs0)), (3, .int (zI v3))]) C dX8_houseClause_122 hl (by decide) rfl (fun ls hl => ?_)
  refine y_iload_n C dX8_houseClause_124 (lv_at hl 1 rfl) ?_
  refine y_if_lt (tgt := 132) C (a' := zm v3) rfl dX8_houseClause_125 (by decide) (fun hc => ?_) (fun hc => ?_)
  · rw [if_pos hc] at h
    refine y_iload C dX8_houseClause_132 (lv_at hl 0 rfl) ?_
    exact y_iret C hw h dX8_houseClause_134
  · rw [if_neg hc] at h
    refine y_iload_n C dX8_houseClause_128 (lv_at hl 1 rfl) ?_
    refine y_goto (tgt := 134) C dX8_houseClause_129 (by decide) ?_
    exact y_iret C hw h dX8_houseClause_134
set_option maxRecDepth 100000 in
set_option maxHeartbeats 4000000 in
theorem k_X8_houseClause_64  {vs0 : Int} (C : Cx cX8_houseClause RX8 5 (some .int) D cA adK adV A p s m args meth c)  {σ : St} {H : Heap} {locs : List Loc} {ls : Array Slot}  (hw : At D cA ad kM 31 R A s σ H locs) (hl : lv_has ls 5 [(0, .ref (ad 0))]) (h : p_X8_houseClause_64  vs0 σ = some res) : W p l e (rmU 1 23) s m args below meth c H locs 0 0 (MQ below (QI D cA ad kM 31 R A res) args s 0 0 A) (F0 m 64 ls [.int (zI vs0)]) := by
  have h := h
  unfold p_X8_houseClause_64 at h
  refine y_istore_n (lv' := [(3, .int (zI vs0)), (0, .ref (ad 0))]) C dX8_houseClause_64 hl (by decide) rfl (fun ls hl => ?_)
  refine y_aload_n C dX8_houseClause_65 (lv_at hl 1 rfl) ?_
  refine g8 C hw km_0 17 (by decide) wd_888 rfl dX8_houseClause_66 ?_
  refine y_bipush C dX8_houseClause_69 (by decide) ?_
  refine y_bipush C dX8_houseClause_71 (by decide) ?_
  refine y_bipush C dX8_houseClause_73 (by decide) ?_
  refine y_bipush C dX8_houseClause_75 (by decide) ?_
  obtain ⟨x77, hc77, h⟩ := bd_some h
  refine y_cl (rest := [.long (zJ (σ 0 17))]) hw (y_rS C hw (c_X8_code  hc77) mi_X8_code wd_1061 wd_1062 rfl ⟨by decide, by decide⟩ hl rfl (Nat.le_of_ble_eq_true rfl) dX8_houseClause_77) (fun H locs hw => ?_)
  refine y_bipush C dX8_houseClause_80 (by decide) ?_
  obtain ⟨x82, hc82, h⟩ := bd_some h
  refine y_cl (rest := [.long (zJ (σ 0 17))]) hw (y_rS C hw (c_X8_longer  hc82) mi_X8_longer wd_1064 wd_1065 rfl ⟨by decide, by decide⟩ hl rfl (Nat.le_of_ble_eq_true rfl) dX8_houseClause_82) (fun H locs hw => ?_)
  refine y_lcmp C dX8_houseClause_85 ?_
  refine y_if_ne (tgt := 93) C (a' := zm (zcmp (σ 0 17) x82.1)) rfl dX8_houseClause_86 (by decide) (fun hc => ?_) (fun hc => ?_)
  · rw [if_pos hc] at h
    refine y_iconst C dX8_houseClause_89 ?_
    refine y_goto (tgt := 122) C dX8_houseClause_90 (by decide) ?_
    exact k_X8_houseClause_122 C   hw (lv_sub hl [0] rfl) h
  · rw [if_neg hc] at h
    refine y_aload_n C dX8_houseClause_93 (lv_at hl 1 rfl) ?_
    refine g8 C hw km_0 17 (by decide) wd_888 rfl dX8_houseClause_94 ?_
    refine y_bipush C dX8_houseClause_97 (by decide) ?_
    refine y_bipush C dX8_houseClause_99 (by decide) ?_
    refine y_bipush C dX8_houseClause_101 (by decide) ?_
    refine y_bipush C dX8_houseClause_103 (by decide) ?_
    obtain ⟨x105, hc105, h⟩ := bd_some h
    refine y_cl (rest := [.long (zJ (x82.2 0 17))]) hw (y_rS C hw (c_X8_code  hc105) mi_X8_code wd_1061 wd_1062 rfl ⟨by decide, by decide⟩ hl rfl (Nat.le_of_ble_eq_true rfl) dX8_houseClause_105) (fun H locs hw => ?_)
    refine y_bipush C dX8_houseClause_108 (by decide) ?_
    obtain ⟨x110, hc110, h⟩ := bd_some h
    refine y_cl (rest := [.long (zJ (x82.2 0 17))]) hw (y_rS C hw (c_X8_longer  hc110) mi_X8_longer wd_1064 wd_1065 rfl ⟨by decide, by decide⟩ hl rfl (Nat.le_of_ble_eq_true rfl) dX8_houseClause_110) (fun H locs hw => ?_)
    refine y_lcmp C dX8_houseClause_113 ?_
    refine y_if_ne (tgt := 121) C (a' := zm (zcmp (x82.2 0 17) x110.1)) rfl dX8_houseClause_114 (by decide) (fun hc => ?_) (fun hc => ?_)
    · rw [if_pos hc] at h
      refine y_iconst C dX8_houseClause_117 ?_
      refine y_goto (tgt := 122) C dX8_houseClause_118 (by decide) ?_
      exact k_X8_houseClause_122 C   hw (lv_sub hl [0] rfl) h
    · rw [if_neg hc] at h
      refine y_iconst C dX8_houseClause_121 ?_
      exact k_X8_houseClause_122 C   hw (lv_sub hl [0] rfl) h
set_option maxRecDepth 100000 in
set_option maxHeartbeats 4000000 in
theorem k_X8_houseClause_0   (C : Cx cX8_houseClause RX8 5 (some .int) D cA adK adV A p s m args meth c)  {σ : St} {H : Heap} {locs : List Loc} {ls : Array Slot}  (hw : At D cA ad kM 31 R A s σ H locs) (hl : lv_has ls 5 [(0, .ref (ad 0))]) (h : p_X8_houseClause   σ = some res) : W p l e (rmU 1 23) s m args below meth c H locs 0 0 (MQ below (QI D cA ad kM 31 R A res) args s 0 0 A) (F0 m 0 ls []) := by
  have h := h
  unfold p_X8_houseClause at h
  refine y_ldc2 C (z := 583) wd_1060 (by decide) dX8_houseClause_0 ?_
  refine y_lstore_n (lv' := [(1, .long (zJ 583)), (0, .ref (ad 0))]) C dX8_houseClause_3 hl (by decide) rfl (fun ls hl => ?_)
  refine y_aload_n C dX8_houseClause_4 (lv_at hl 1 rfl) ?_
  refine g8 C hw km_0 17 (by decide) wd_888 rfl dX8_houseClause_5 ?_
  refine y_bipush C dX8_houseClause_8 (by decide) ?_
  refine y_bipush C dX8_houseClause_10 (by decide) ?_
  refine y_bipush C dX8_houseClause_12 (by decide) ?_
  refine y_bipush C dX8_houseClause_14 (by decide) ?_
  obtain ⟨x16, hc16, h⟩ := bd_some h
  refine y_cl (rest := [.long (zJ (σ 0 17))]) hw (y_rS C hw (c_X8_code  hc16) mi_X8_code wd_1061 wd_1062 rfl ⟨by decide, by decide⟩ hl rfl (Nat.le_of_ble_eq_true rfl) dX8_houseClause_16) (fun H locs hw => ?_)
  refine y_lcmp C dX8_houseClause_19 ?_
  refine y_if_ne (tgt := 27) C (a' := zm (zcmp (σ 0 17) x16.1)) rfl dX8_houseClause_20 (by decide) (fun hc => ?_) (fun hc => ?_)
  · rw [if_pos hc] at h
    refine y_iconst C dX8_houseClause_23 ?_
    refine y_goto (tgt := 64) C dX8_houseClause_24 (by decide) ?_
    exact k_X8_houseClause_64 C   hw (lv_sub hl [1] rfl) h
  · rw [if_neg hc] at h
    refine y_aload_n C dX8_houseClause_27 (lv_at hl 1 rfl) ?_
    refine g8 C hw km_0 17 (by decide) wd_888 rfl dX8_houseClause_28 ?_
    refine y_lload_n C dX8_houseClause_31 (lv_at hl 0 rfl) ?_
    refine y_lcmp C dX8_houseClause_32 ?_
    refine y_if_ne (tgt := 40) C (a' := zm (zcmp (x16.2 0 17) 583)) rfl dX8_houseClause_33 (by decide) (fun hc => ?_) (fun hc => ?_)
    · rw [if_pos hc] at h
      refine y_iconst C dX8_houseClause_36 ?_
      refine y_goto (tgt := 64) C dX8_houseClause_37 (by decide) ?_
      exact k_X8_houseClause_64 C   hw (lv_sub hl [1] rfl) h
    · rw [if_neg hc] at h
      refine y_aload_n C dX8_houseClause_40 (lv_at hl 1 rfl) ?_
      refine g8 C hw km_0 17 (by decide) wd_888 rfl dX8_houseClause_41 ?_
      refine y_bipush C dX8_houseClause_44 (by decide) ?_
      refine y_bipush C dX8_houseClause_46 (by decide) ?_
      refine y_bipush C dX8_houseClause_48 (by decide) ?_
      refine y_bipush C dX8_houseClause_50 (by decide) ?_
      obtain ⟨x52, hc52, h⟩ := bd_some h
      refine y_cl (rest := [.long (zJ (x16.2 0 17))]) hw (y_rS C hw (c_X8_code  hc52) mi_X8_code wd_1061 wd_1062 rfl ⟨by decide, by decide⟩ hl rfl (Nat.le_of_ble_eq_true rfl) dX8_houseClause_52) (fun H locs hw => ?_)
      refine y_lcmp C dX8_houseClause_55 ?_
      refine y_if_ne (tgt := 63) C (a' := zm (zcmp (x16.2 0 17) x52.1)) rfl dX8_houseClause_56 (by decide) (fun hc => ?_) (fun hc => ?_)
      · rw [if_pos hc] at h
        refine y_iconst C dX8_houseClause_59 ?_
        refine y_goto (tgt := 64) C dX8_houseClause_60 (by decide) ?_
        exact k_X8_houseClause_64 C   hw (lv_sub hl [1] rfl) h
      · rw [if_neg hc] at h
        refine y_iconst C dX8_houseClause_63 ?_
        exact k_X8_houseClause_64 C   hw (lv_sub hl [1] rfl) h
theorem c_X8_houseClause {l : Launch} {D : va_G} {cA : Nat → ClassId} {adK adV : Nat → Nat} {A : Nat → Prop} {ad : Int → Nat} {R : va_W} {σ : St} {res : Int × St}   (h : p_X8_houseClause  σ = some res) : Met l yX8_houseClause (wsU yX8_houseClause cX8_houseClause 5 (some .int)) (rmU 1 23) (va_Pc [.ref (ad 0)] (Pr D cA adK adV ad kM 31 R A σ)) (QI D cA ad kM 31 R A res) 0 0 A :=
  y_met (own := RX8) (by decide) rfl _ (Nat.le_of_ble_eq_true rfl) (fun p e s m args below meth c ls C hl hw => k_X8_houseClause_0 C  hw hl h)
/-! RungHouseModel.takeHouse -/
set_option maxRecDepth 100000 in
set_option maxHeartbeats 4000000 in
theorem k_X8_takeHouse_349  {os0 : Int} {vs1 : Int} {vs2 : Int} (C : Cx cX8_takeHouse RX8 4 (some .int) D cA adK adV A p s m args meth c)  {σ : St} {H : Heap} {locs : List Loc} {ls : Array Slot} (hos0 : kM os0 = (20, 3)) (hw : At D cA ad kM 31 R A s σ H locs) (hl : lv_has ls 4 [(0, .ref (ad 0))]) (h : p_X8_takeHouse_349  os0 vs1 vs2 σ = some res) : W p l e (rmU 2 48) s m args below meth c H locs 0 0 (MQ below (QI D cA ad kM 31 R A res) args s 0 0 A) (F0 m 349 ls [.int (zI vs2), .int (zI vs1), .ref (ad os0)]) := by
  have h := h
  unfold p_X8_takeHouse_349 at h
  obtain ⟨hg349, h⟩ := gd_some h
  obtain ⟨σ349, eσ349, h⟩ := nx_some h
  refine y_iast C hw hos0 (i' := zm vs1) rfl hg349 dX8_takeHouse_349 (fun H locs hw => ?_)
  rw [← eσ349] at hw
  refine y_aload_n C dX8_takeHouse_350 (lv_at hl 0 rfl) ?_
  obtain ⟨x351, hc351, h⟩ := bd_some h
  refine y_ci (rest := []) hw (y_rV C hw km_0 (by decide) rfl rfl (c_X8_takeStop  hc351) mi_X8_takeStop wd_1080 wd_1082 ws_31 rfl ⟨by decide, by decide⟩ hl rfl (Nat.le_of_ble_eq_true rfl) dX8_takeHouse_351) (fun H locs hw => ?_)
  exact y_iret C hw h dX8_takeHouse_354
set_option maxRecDepth 100000 in
set_option maxHeartbeats 4000000 in
theorem k_X8_takeHouse_325  {v1 : Int} {os0 : Int} {vs1 : Int} {vs2 : Int} (C : Cx cX8_takeHouse RX8 4 (some .int) D cA adK adV A p s m args meth c)  {σ : St} {H : Heap} {locs : List Loc} {ls : Array Slot} (hos0 : kM os0 = (20, 3)) (hw : At D cA ad kM 31 R A s σ H locs) (hl : lv_has ls 4 [(0, .ref (ad 0)), (1, .int (zI v1))]) (h : p_X8_takeHouse_325  v1 os0 vs1 vs2 σ = some res) : W p l e (rmU 2 48) s m args below meth c H locs 0 0 (MQ below (QI D cA ad kM 31 R A res) args s 0 0 A) (F0 m 325 ls [.int (zI vs2), .int (zI vs1), .ref (ad os0)]) := by
  have h := h
  unfold p_X8_takeHouse_325 at h
  obtain ⟨hg325, h⟩ := gd_some h
  obtain ⟨σ325, eσ325, h⟩ := nx_some h
  refine y_iast C hw hos0 (i' := zm vs1) rfl hg325 dX8_takeHouse_325 (fun H locs hw => ?_)
  rw [← eσ325] at hw
  refine y_aload_n C dX8_takeHouse_326 (lv_at hl 0 rfl) ?_
  refine g8 C hw km_0 6 (by decide) wd_877 rfl dX8_takeHouse_327 ?_
  refine y_iconst C dX8_takeHouse_330 ?_
  refine y_iload_n C dX8_takeHouse_331 (lv_at hl 1 rfl) ?_
  refine y_iconst C dX8_takeHouse_332 ?_
  refine y_icmp_ne (tgt := 343) C (a' := zm v1) (b' := 4) rfl (by decide) dX8_takeHouse_333 (by decide) (fun hc => ?_) (fun hc => ?_)
  · rw [if_pos hc] at h
    refine y_aload_n C dX8_takeHouse_336 (lv_at hl 0 rfl) ?_
    refine g8 C hw km_0 19 (by decide) wd_890 rfl dX8_takeHouse_337 ?_
    refine y_goto (tgt := 349) C dX8_takeHouse_340 (by decide) ?_
    exact k_X8_takeHouse_349 C  km_7 hw (lv_sub hl [0] rfl) h
  · rw [if_neg hc] at h
    refine y_aload_n C dX8_takeHouse_343 (lv_at hl 0 rfl) ?_
    refine g8 C hw km_0 6 (by decide) wd_877 rfl dX8_takeHouse_344 ?_
    refine y_iconst C dX8_takeHouse_347 ?_
    refine y_iald C hw km_7 (i' := 2) (by decide) (by decide) dX8_takeHouse_348 ?_
    exact k_X8_takeHouse_349 C  km_7 hw (lv_sub hl [0] rfl) h
set_option maxRecDepth 100000 in
set_option maxHeartbeats 4000000 in
theorem k_X8_takeHouse_301  {v1 : Int} {os0 : Int} {vs1 : Int} {vs2 : Int} (C : Cx cX8_takeHouse RX8 4 (some .int) D cA adK adV A p s m args meth c)  {σ : St} {H : Heap} {locs : List Loc} {ls : Array Slot} (hos0 : kM os0 = (20, 3)) (hw : At D cA ad kM 31 R A s σ H locs) (hl : lv_has ls 4 [(0, .ref (ad 0)), (1, .int (zI v1))]) (h : p_X8_takeHouse_301  v1 os0 vs1 vs2 σ = some res) : W p l e (rmU 2 48) s m args below meth c H locs 0 0 (MQ below (QI D cA ad kM 31 R A res) args s 0 0 A) (F0 m 301 ls [.int (zI vs2), .int (zI vs1), .ref (ad os0)]) := by
  have h := h
  unfold p_X8_takeHouse_301 at h
  obtain ⟨hg301, h⟩ := gd_some h
  obtain ⟨σ301, eσ301, h⟩ := nx_some h
  refine y_iast C hw hos0 (i' := zm vs1) rfl hg301 dX8_takeHouse_301 (fun H locs hw => ?_)
  rw [← eσ301] at hw
  refine y_aload_n C dX8_takeHouse_302 (lv_at hl 0 rfl) ?_
  refine g8 C hw km_0 5 (by decide) wd_876 rfl dX8_takeHouse_303 ?_
  refine y_iconst C dX8_takeHouse_306 ?_
  refine y_iload_n C dX8_takeHouse_307 (lv_at hl 1 rfl) ?_
  refine y_iconst C dX8_takeHouse_308 ?_
  refine y_icmp_ne (tgt := 319) C (a' := zm v1) (b' := 3) rfl (by decide) dX8_takeHouse_309 (by decide) (fun hc => ?_) (fun hc => ?_)
  · rw [if_pos hc] at h
    refine y_aload_n C dX8_takeHouse_312 (lv_at hl 0 rfl) ?_
    refine g8 C hw km_0 19 (by decide) wd_890 rfl dX8_takeHouse_313 ?_
    refine y_goto (tgt := 325) C dX8_takeHouse_316 (by decide) ?_
    exact k_X8_takeHouse_325 C  km_6 hw hl h
  · rw [if_neg hc] at h
    refine y_aload_n C dX8_takeHouse_319 (lv_at hl 0 rfl) ?_
    refine g8 C hw km_0 5 (by decide) wd_876 rfl dX8_takeHouse_320 ?_
    refine y_iconst C dX8_takeHouse_323 ?_
    refine y_iald C hw km_6 (i' := 2) (by decide) (by decide) dX8_takeHouse_324 ?_
    exact k_X8_takeHouse_325 C  km_6 hw hl h
set_option maxRecDepth 100000 in
set_option maxHeartbeats 4000000 in
theorem k_X8_takeHouse_277  {v1 : Int} {os0 : Int} {vs1 : Int} {vs2 : Int} (C : Cx cX8_takeHouse RX8 4 (some .int) D cA adK adV A p s m args meth c)  {σ : St} {H : Heap} {locs : List Loc} {ls : Array Slot} (hos0 : kM os0 = (20, 3)) (hw : At D cA ad kM 31 R A s σ H locs) (hl : lv_has ls 4 [(0, .ref (ad 0)), (1, .int (zI v1))]) (h : p_X8_takeHouse_277  v1 os0 vs1 vs2 σ = some res) : W p l e (rmU 2 48) s m args below meth c H locs 0 0 (MQ below (QI D cA ad kM 31 R A res) args s 0 0 A) (F0 m 277 ls [.int (zI vs2), .int (zI vs1), .ref (ad os0)]) := by
  have h := h
  unfold p_X8_takeHouse_277 at h
  obtain ⟨hg277, h⟩ := gd_some h
  obtain ⟨σ277, eσ277, h⟩ := nx_some h
  refine y_iast C hw hos0 (i' := zm vs1) rfl hg277 dX8_takeHouse_277 (fun H locs hw => ?_)
  rw [← eσ277] at hw
  refine y_aload_n C dX8_takeHouse_278 (lv_at hl 0 rfl) ?_
  refine g8 C hw km_0 3 (by decide) wd_874 rfl dX8_takeHouse_279 ?_
  refine y_iconst C dX8_takeHouse_282 ?_
  refine y_iload_n C dX8_takeHouse_283 (lv_at hl 1 rfl) ?_
  refine y_iconst C dX8_takeHouse_284 ?_
  refine y_icmp_ne (tgt := 295) C (a' := zm v1) (b' := 2) rfl (by decide) dX8_takeHouse_285 (by decide) (fun hc => ?_) (fun hc => ?_)
  · rw [if_pos hc] at h
    refine y_aload_n C dX8_takeHouse_288 (lv_at hl 0 rfl) ?_
    refine g8 C hw km_0 19 (by decide) wd_890 rfl dX8_takeHouse_289 ?_
    refine y_goto (tgt := 301) C dX8_takeHouse_292 (by decide) ?_
    exact k_X8_takeHouse_301 C  km_4 hw hl h
  · rw [if_neg hc] at h
    refine y_aload_n C dX8_takeHouse_295 (lv_at hl 0 rfl) ?_
    refine g8 C hw km_0 3 (by decide) wd_874 rfl dX8_takeHouse_296 ?_
    refine y_iconst C dX8_takeHouse_299 ?_
    refine y_iald C hw km_4 (i' := 2) (by decide) (by decide) dX8_takeHouse_300 ?_
    exact k_X8_takeHouse_301 C  km_4 hw hl h
set_option maxRecDepth 100000 in
set_option maxHeartbeats 4000000 in
theorem k_X8_takeHouse_254  {v1 : Int} (C : Cx cX8_takeHouse RX8 4 (some .int) D cA adK adV A p s m args meth c)  {σ : St} {H : Heap} {locs : List Loc} {ls : Array Slot}  (hw : At D cA ad kM 31 R A s σ H locs) (hl : lv_has ls 4 [(0, .ref (ad 0)), (1, .int (zI v1))]) (h : p_X8_takeHouse_254  v1 σ = some res) : W p l e (rmU 2 48) s m args below meth c H locs 0 0 (MQ below (QI D cA ad kM 31 R A res) args s 0 0 A) (F0 m 254 ls []) := by
  have h := h
  unfold p_X8_takeHouse_254 at h
  refine y_aload_n C dX8_takeHouse_254 (lv_at hl 0 rfl) ?_
  refine g8 C hw km_0 4 (by decide) wd_875 rfl dX8_takeHouse_255 ?_
  refine y_iconst C dX8_takeHouse_258 ?_
  refine y_iload_n C dX8_takeHouse_259 (lv_at hl 1 rfl) ?_
  refine y_iconst C dX8_takeHouse_260 ?_
  refine y_icmp_ne (tgt := 271) C (a' := zm v1) (b' := 1) rfl (by decide) dX8_takeHouse_261 (by decide) (fun hc => ?_) (fun hc => ?_)
  · rw [if_pos hc] at h
    refine y_aload_n C dX8_takeHouse_264 (lv_at hl 0 rfl) ?_
    refine g8 C hw km_0 19 (by decide) wd_890 rfl dX8_takeHouse_265 ?_
    refine y_goto (tgt := 277) C dX8_takeHouse_268 (by decide) ?_
    exact k_X8_takeHouse_277 C  km_5 hw hl h
  · rw [if_neg hc] at h
    refine y_aload_n C dX8_takeHouse_271 (lv_at hl 0 rfl) ?_
    refine g8 C hw km_0 4 (by decide) wd_875 rfl dX8_takeHouse_272 ?_
    refine y_iconst C dX8_takeHouse_275 ?_
    refine y_iald C hw km_5 (i' := 2) (by decide) (by decide) dX8_takeHouse_276 ?_
    exact k_X8_takeHouse_277 C  km_5 hw hl h
set_option maxRecDepth 100000 in
set_option maxHeartbeats 4000000 in
theorem k_X8_takeHouse_244  {v1 : Int} (C : Cx cX8_takeHouse RX8 4 (some .int) D cA adK adV A p s m args meth c)  {σ : St} {H : Heap} {locs : List Loc} {ls : Array Slot}  (hw : At D cA ad kM 31 R A s σ H locs) (hl : lv_has ls 4 [(0, .ref (ad 0)), (1, .int (zI v1))]) (h : p_X8_takeHouse_244  v1 σ = some res) : W p l e (rmU 2 48) s m args below meth c H locs 0 0 (MQ below (QI D cA ad kM 31 R A res) args s 0 0 A) (F0 m 244 ls []) := by
  have h := h
  unfold p_X8_takeHouse_244 at h
  refine y_aload_n C dX8_takeHouse_244 (lv_at hl 0 rfl) ?_
  refine g8 C hw km_0 0 (by decide) wd_871 rfl dX8_takeHouse_245 ?_
  refine y_iconst C dX8_takeHouse_248 ?_
  refine y_dup2 C dX8_takeHouse_249 rfl rfl ?_
  refine y_iald C hw km_1 (i' := 2) (by decide) (by decide) dX8_takeHouse_250 ?_
  refine y_iconst C dX8_takeHouse_251 ?_
  refine y_iadd C dX8_takeHouse_252 ?_
  obtain ⟨σ253, eσ253, h⟩ := nx_some h
  refine y_iast C hw km_1 (i' := 2) (by decide) (by decide) dX8_takeHouse_253 (fun H locs hw => ?_)
  rw [← eσ253] at hw
  exact k_X8_takeHouse_254 C   hw hl h
set_option maxRecDepth 100000 in
set_option maxHeartbeats 4000000 in
theorem k_X8_takeHouse_137  {v1 : Int} {vs1 : Int} {vs2 : Int} (C : Cx cX8_takeHouse RX8 4 (some .int) D cA adK adV A p s m args meth c)  {σ : St} {H : Heap} {locs : List Loc} {ls : Array Slot}  (hw : At D cA ad kM 31 R A s σ H locs) (hl : lv_has ls 4 [(0, .ref (ad 0)), (1, .int (zI v1))]) (h : p_X8_takeHouse_137  v1 vs1 vs2 σ = some res) : W p l e (rmU 2 48) s m args below meth c H locs 0 0 (MQ below (QI D cA ad kM 31 R A res) args s 0 0 A) (F0 m 137 ls [.int (zI vs2), .int (zI vs1), .ref (ad 0)]) := by
  have h := h
  unfold p_X8_takeHouse_137 at h
  obtain ⟨x137, hc137, h⟩ := bd_some h
  refine y_ci (rest := []) hw (y_rV C hw km_0 (by decide) rfl rfl (c_X8_takeNumber  hc137) mi_X8_takeNumber wd_1074 wd_1076 ws_30 rfl ⟨by decide, by decide⟩ hl rfl (Nat.le_of_ble_eq_true rfl) dX8_takeHouse_137) (fun H locs hw => ?_)
  refine y_istore_n (lv' := [(3, .int (zI x137.1)), (0, .ref (ad 0)), (1, .int (zI v1))]) C dX8_takeHouse_140 hl (by decide) rfl (fun ls hl => ?_)
  refine y_iload_n C dX8_takeHouse_141 (lv_at hl 0 rfl) ?_
  refine y_if_le (tgt := 147) C (a' := zm x137.1) rfl dX8_takeHouse_142 (by decide) (fun hc => ?_) (fun hc => ?_)
  · rw [if_pos hc] at h
    refine y_iload_n C dX8_takeHouse_147 (lv_at hl 2 rfl) ?_
    refine y_if_ne (tgt := 254) C (a' := zm v1) rfl dX8_takeHouse_148 (by decide) (fun hc => ?_) (fun hc => ?_)
    · rw [if_pos hc] at h
      refine y_aload_n C dX8_takeHouse_151 (lv_at hl 1 rfl) ?_
      refine g8 C hw km_0 1 (by decide) wd_872 rfl dX8_takeHouse_152 ?_
      refine y_bipush C dX8_takeHouse_155 (by decide) ?_
      refine y_aload_n C dX8_takeHouse_157 (lv_at hl 1 rfl) ?_
      refine g8 C hw km_0 0 (by decide) wd_871 rfl dX8_takeHouse_158 ?_
      refine y_iconst C dX8_takeHouse_161 ?_
      refine y_iald C hw km_1 (i' := 2) (by decide) (by decide) dX8_takeHouse_162 ?_
      refine y_iadd C dX8_takeHouse_163 ?_
      refine y_aload_n C dX8_takeHouse_164 (lv_at hl 1 rfl) ?_
      refine g8 C hw km_0 19 (by decide) wd_890 rfl dX8_takeHouse_165 ?_
      obtain ⟨hg168, h⟩ := gd_some h
      obtain ⟨σ168, eσ168, h⟩ := nx_some h
      refine y_iast C hw km_2 (i' := zm (20 + (x137.2 1 2))) rfl hg168 dX8_takeHouse_168 (fun H locs hw => ?_)
      rw [← eσ168] at hw
      refine y_aload_n C dX8_takeHouse_169 (lv_at hl 1 rfl) ?_
      obtain ⟨x170, hc170, h⟩ := bd_some h
      refine y_ci (rest := []) hw (y_rV C hw km_0 (by decide) rfl rfl (c_X8_here  hc170) mi_X8_here wd_1038 wd_1040 ws_25 rfl ⟨by decide, by decide⟩ hl rfl (Nat.le_of_ble_eq_true rfl) dX8_takeHouse_170) (fun H locs hw => ?_)
      refine y_i2l C rfl dX8_takeHouse_173 ?_
      refine y_ldc2 C (z := 97) wd_1050 (by decide) dX8_takeHouse_174 ?_
      refine y_ldc2 C (z := 122) wd_1051 (by decide) dX8_takeHouse_177 ?_
      obtain ⟨x180, hc180, h⟩ := bd_some h
      refine y_ci (rest := []) hw (y_rS C hw (c_X8_within  hc180) mi_X8_within wd_1027 wd_1028 rfl ⟨by decide, by decide⟩ hl rfl (Nat.le_of_ble_eq_true rfl) dX8_takeHouse_180) (fun H locs hw => ?_)
      refine y_if_eq (tgt := 244) C (a' := zm x180.1) rfl dX8_takeHouse_183 (by decide) (fun hc => ?_) (fun hc => ?_)
      · rw [if_pos hc] at h
        exact k_X8_takeHouse_244 C   hw (lv_sub hl [1, 2] rfl) h
      · rw [if_neg hc] at h
        refine y_aload_n C dX8_takeHouse_186 (lv_at hl 1 rfl) ?_
        obtain ⟨x187, hc187, h⟩ := bd_some h
        refine y_cv (rest := []) hw (y_rV C hw km_0 (by decide) rfl rfl (c_X8_readWord  hc187) mi_X8_readWord wd_1046 wd_1048 ws_27 rfl ⟨by decide, by decide⟩ hl rfl (Nat.le_of_ble_eq_true rfl) dX8_takeHouse_187) (fun H locs hw => ?_)
        refine y_aload_n C dX8_takeHouse_190 (lv_at hl 1 rfl) ?_
        refine g8 C hw km_0 17 (by decide) wd_888 rfl dX8_takeHouse_191 ?_
        refine y_bipush C dX8_takeHouse_194 (by decide) ?_
        refine y_bipush C dX8_takeHouse_196 (by decide) ?_
        refine y_bipush C dX8_takeHouse_198 (by decide) ?_
        refine y_bipush C dX8_takeHouse_200 (by decide) ?_
        obtain ⟨x202, hc202, h⟩ := bd_some h
        refine y_cl (rest := [.long (zJ (x187.2 0 17))]) hw (y_rS C hw (c_X8_code  hc202) mi_X8_code wd_1061 wd_1062 rfl ⟨by decide, by decide⟩ hl rfl (Nat.le_of_ble_eq_true rfl) dX8_takeHouse_202) (fun H locs hw => ?_)
        refine y_lcmp C dX8_takeHouse_205 ?_
        refine y_if_eq (tgt := 219) C (a' := zm (zcmp (x187.2 0 17) x202.1)) rfl dX8_takeHouse_206 (by decide) (fun hc => ?_) (fun hc => ?_)
        · rw [if_pos hc] at h
          refine y_aload_n C dX8_takeHouse_219 (lv_at hl 1 rfl) ?_
          refine y_aload_n C dX8_takeHouse_220 (lv_at hl 1 rfl) ?_
          refine g8 C hw km_0 18 (by decide) wd_889 rfl dX8_takeHouse_221 ?_
          obtain ⟨σ224, eσ224, h⟩ := nx_some h
          refine q8 C hw km_0 16 (by decide) wd_887 rfl rfl rfl (by decide) (x202.2 0 18) 16 rfl rfl dX8_takeHouse_224 (fun H locs hw => ?_)
          rw [← eσ224] at hw
          refine y_aload_n C dX8_takeHouse_227 (lv_at hl 1 rfl) ?_
          refine g8 C hw km_0 2 (by decide) wd_873 rfl dX8_takeHouse_228 ?_
          refine y_iconst C dX8_takeHouse_231 ?_
          refine y_dup2 C dX8_takeHouse_232 rfl rfl ?_
          refine y_iald C hw km_3 (i' := 2) (by decide) (by decide) dX8_takeHouse_233 ?_
          refine y_iconst C dX8_takeHouse_234 ?_
          refine y_aload_n C dX8_takeHouse_235 (lv_at hl 1 rfl) ?_
          refine g8 C hw km_0 0 (by decide) wd_871 rfl dX8_takeHouse_236 ?_
          refine y_iconst C dX8_takeHouse_239 ?_
          refine y_iald C hw km_1 (i' := 2) (by decide) (by decide) dX8_takeHouse_240 ?_
          refine y_ishl C dX8_takeHouse_241 ?_
          refine y_ior C dX8_takeHouse_242 ?_
          obtain ⟨σ243, eσ243, h⟩ := nx_some h
          refine y_iast C hw km_3 (i' := 2) (by decide) (by decide) dX8_takeHouse_243 (fun H locs hw => ?_)
          rw [← eσ243] at hw
          exact k_X8_takeHouse_244 C   hw (lv_sub hl [1, 2] rfl) h
        · rw [if_neg hc] at h
          refine y_aload_n C dX8_takeHouse_209 (lv_at hl 1 rfl) ?_
          refine y_iconst C dX8_takeHouse_210 ?_
          refine y_aload_n C dX8_takeHouse_211 (lv_at hl 1 rfl) ?_
          refine g8 C hw km_0 16 (by decide) wd_887 rfl dX8_takeHouse_212 ?_
          obtain ⟨x215, hc215, h⟩ := bd_some h
          refine y_ci (rest := []) hw (y_rV C hw km_0 (by decide) rfl rfl (c_X8_fails  hc215) mi_X8_fails wd_1070 wd_1072 ws_29 rfl ⟨by decide, by decide⟩ hl rfl (Nat.le_of_ble_eq_true rfl) dX8_takeHouse_215) (fun H locs hw => ?_)
          exact y_iret C hw h dX8_takeHouse_218
    · rw [if_neg hc] at h
      exact k_X8_takeHouse_254 C   hw (lv_sub hl [1, 2] rfl) h
  · rw [if_neg hc] at h
    refine y_iload_n C dX8_takeHouse_145 (lv_at hl 0 rfl) ?_
    exact y_iret C hw h dX8_takeHouse_146
set_option maxRecDepth 100000 in
set_option maxHeartbeats 4000000 in
theorem k_X8_takeHouse_115  {v1 : Int} {vs1 : Int} (C : Cx cX8_takeHouse RX8 4 (some .int) D cA adK adV A p s m args meth c)  {σ : St} {H : Heap} {locs : List Loc} {ls : Array Slot}  (hw : At D cA ad kM 31 R A s σ H locs) (hl : lv_has ls 4 [(0, .ref (ad 0)), (1, .int (zI v1))]) (h : p_X8_takeHouse_115  v1 vs1 σ = some res) : W p l e (rmU 2 48) s m args below meth c H locs 0 0 (MQ below (QI D cA ad kM 31 R A res) args s 0 0 A) (F0 m 115 ls [.int (zI vs1), .ref (ad 0)]) := by
  have h := h
  unfold p_X8_takeHouse_115 at h
  refine y_iload_n C dX8_takeHouse_115 (lv_at hl 1 rfl) ?_
  refine y_if_ne (tgt := 125) C (a' := zm v1) rfl dX8_takeHouse_116 (by decide) (fun hc => ?_) (fun hc => ?_)
  · rw [if_pos hc] at h
    refine y_sipush C dX8_takeHouse_119 (by decide) ?_
    refine y_goto (tgt := 137) C dX8_takeHouse_122 (by decide) ?_
    exact k_X8_takeHouse_137 C   hw hl h
  · rw [if_neg hc] at h
    refine y_iload_n C dX8_takeHouse_125 (lv_at hl 1 rfl) ?_
    refine y_iconst C dX8_takeHouse_126 ?_
    refine y_icmp_ne (tgt := 135) C (a' := zm v1) (b' := 3) rfl (by decide) dX8_takeHouse_127 (by decide) (fun hc => ?_) (fun hc => ?_)
    · rw [if_pos hc] at h
      refine y_bipush C dX8_takeHouse_130 (by decide) ?_
      refine y_goto (tgt := 137) C dX8_takeHouse_132 (by decide) ?_
      exact k_X8_takeHouse_137 C   hw hl h
    · rw [if_neg hc] at h
      refine y_bipush C dX8_takeHouse_135 (by decide) ?_
      exact k_X8_takeHouse_137 C   hw hl h
set_option maxRecDepth 100000 in
set_option maxHeartbeats 4000000 in
theorem k_X8_takeHouse_110  {v1 : Int} (C : Cx cX8_takeHouse RX8 4 (some .int) D cA adK adV A p s m args meth c)  {σ : St} {H : Heap} {locs : List Loc} {ls : Array Slot}  (hw : At D cA ad kM 31 R A s σ H locs) (hl : lv_has ls 4 [(0, .ref (ad 0)), (1, .int (zI v1))]) (h : p_X8_takeHouse_110  v1 σ = some res) : W p l e (rmU 2 48) s m args below meth c H locs 0 0 (MQ below (QI D cA ad kM 31 R A res) args s 0 0 A) (F0 m 110 ls [.ref (ad 0)]) := by
  have h := h
  unfold p_X8_takeHouse_110 at h
  refine y_iconst C dX8_takeHouse_110 ?_
  refine y_goto (tgt := 115) C dX8_takeHouse_111 (by decide) ?_
  exact k_X8_takeHouse_115 C   hw hl h
set_option maxRecDepth 100000 in
set_option maxHeartbeats 4000000 in
theorem k_X8_takeHouse_71  {vs1 : Int} (C : Cx cX8_takeHouse RX8 4 (some .int) D cA adK adV A p s m args meth c)  {σ : St} {H : Heap} {locs : List Loc} {ls : Array Slot}  (hw : At D cA ad kM 31 R A s σ H locs) (hl : lv_has ls 4 [(0, .ref (ad 0))]) (h : p_X8_takeHouse_71  vs1 σ = some res) : W p l e (rmU 2 48) s m args below meth c H locs 0 0 (MQ below (QI D cA ad kM 31 R A res) args s 0 0 A) (F0 m 71 ls [.int (zI vs1), .ref (ad 0)]) := by
  have h := h
  unfold p_X8_takeHouse_71 at h
  refine y_aload_n C dX8_takeHouse_71 (lv_at hl 0 rfl) ?_
  refine g8 C hw km_0 16 (by decide) wd_887 rfl dX8_takeHouse_72 ?_
  obtain ⟨x75, hc75, h⟩ := bd_some h
  refine y_ci (rest := []) hw (y_rV C hw km_0 (by decide) rfl rfl (c_X8_fails  hc75) mi_X8_fails wd_1070 wd_1072 ws_29 rfl ⟨by decide, by decide⟩ hl rfl (Nat.le_of_ble_eq_true rfl) dX8_takeHouse_75) (fun H locs hw => ?_)
  exact y_iret C hw h dX8_takeHouse_78
set_option maxRecDepth 100000 in
set_option maxHeartbeats 4000000 in
theorem k_X8_takeHouse_61  {v1 : Int} (C : Cx cX8_takeHouse RX8 4 (some .int) D cA adK adV A p s m args meth c)  {σ : St} {H : Heap} {locs : List Loc} {ls : Array Slot}  (hw : At D cA ad kM 31 R A s σ H locs) (hl : lv_has ls 4 [(0, .ref (ad 0)), (1, .int (zI v1))]) (h : p_X8_takeHouse_61  v1 σ = some res) : W p l e (rmU 2 48) s m args below meth c H locs 0 0 (MQ below (QI D cA ad kM 31 R A res) args s 0 0 A) (F0 m 61 ls []) := by
  have h := h
  unfold p_X8_takeHouse_61 at h
  refine y_aload_n C dX8_takeHouse_61 (lv_at hl 0 rfl) ?_
  refine y_iload_n C dX8_takeHouse_62 (lv_at hl 1 rfl) ?_
  refine y_if_ge (tgt := 70) C (a' := zm v1) rfl dX8_takeHouse_63 (by decide) (fun hc => ?_) (fun hc => ?_)
  · rw [if_pos hc] at h
    refine y_iconst C dX8_takeHouse_70 ?_
    exact k_X8_takeHouse_71 C   hw (lv_sub hl [0] rfl) h
  · rw [if_neg hc] at h
    refine y_iconst C dX8_takeHouse_66 ?_
    refine y_goto (tgt := 71) C dX8_takeHouse_67 (by decide) ?_
    exact k_X8_takeHouse_71 C   hw (lv_sub hl [0] rfl) h
set_option maxRecDepth 100000 in
set_option maxHeartbeats 4000000 in
theorem k_X8_takeHouse_52  {v1 : Int} {vs0 : Int} (C : Cx cX8_takeHouse RX8 4 (some .int) D cA adK adV A p s m args meth c)  {σ : St} {H : Heap} {locs : List Loc} {ls : Array Slot}  (hw : At D cA ad kM 31 R A s σ H locs) (hl : lv_has ls 4 [(0, .ref (ad 0)), (1, .int (zI v1))]) (h : p_X8_takeHouse_52  v1 vs0 σ = some res) : W p l e (rmU 2 48) s m args below meth c H locs 0 0 (MQ below (QI D cA ad kM 31 R A res) args s 0 0 A) (F0 m 52 ls [.int (zI vs0)]) := by
  have h := h
  unfold p_X8_takeHouse_52 at h
  refine y_istore_n (lv' := [(2, .int (zI vs0)), (0, .ref (ad 0)), (1, .int (zI v1))]) C dX8_takeHouse_52 hl (by decide) rfl (fun ls hl => ?_)
  refine y_iload_n C dX8_takeHouse_53 (lv_at hl 2 rfl) ?_
  refine y_if_lt (tgt := 61) C (a' := zm v1) rfl dX8_takeHouse_54 (by decide) (fun hc => ?_) (fun hc => ?_)
  · rw [if_pos hc] at h
    exact k_X8_takeHouse_61 C   hw (lv_sub hl [1, 2] rfl) h
  · rw [if_neg hc] at h
    refine y_iload_n C dX8_takeHouse_57 (lv_at hl 0 rfl) ?_
    refine y_if_eq (tgt := 79) C (a' := zm vs0) rfl dX8_takeHouse_58 (by decide) (fun hc => ?_) (fun hc => ?_)
    · rw [if_pos hc] at h
      refine y_aload_n C dX8_takeHouse_79 (lv_at hl 1 rfl) ?_
      refine y_dup C dX8_takeHouse_80 rfl ?_
      refine g8 C hw km_0 21 (by decide) wd_892 rfl dX8_takeHouse_81 ?_
      refine y_iconst C dX8_takeHouse_84 ?_
      refine y_iload_n C dX8_takeHouse_85 (lv_at hl 2 rfl) ?_
      refine y_ishl C dX8_takeHouse_86 ?_
      refine y_ior C dX8_takeHouse_87 ?_
      obtain ⟨σ88, eσ88, h⟩ := nx_some h
      refine q8 C hw km_0 21 (by decide) wd_892 rfl rfl rfl (by decide) (zor (σ 0 21) (zshl 1 v1)) 21 rfl rfl dX8_takeHouse_88 (fun H locs hw => ?_)
      rw [← eσ88] at hw
      refine y_aload_n C dX8_takeHouse_91 (lv_at hl 1 rfl) ?_
      refine y_aload_n C dX8_takeHouse_92 (lv_at hl 1 rfl) ?_
      refine g8 C hw km_0 18 (by decide) wd_889 rfl dX8_takeHouse_93 ?_
      obtain ⟨σ96, eσ96, h⟩ := nx_some h
      refine q8 C hw km_0 16 (by decide) wd_887 rfl rfl rfl (by decide) (σ88 0 18) 16 rfl rfl dX8_takeHouse_96 (fun H locs hw => ?_)
      rw [← eσ96] at hw
      refine y_aload_n C dX8_takeHouse_99 (lv_at hl 1 rfl) ?_
      refine y_iload_n C dX8_takeHouse_100 (lv_at hl 2 rfl) ?_
      refine y_iconst C dX8_takeHouse_101 ?_
      refine y_icmp_eq (tgt := 110) C (a' := zm v1) (b' := 1) rfl (by decide) dX8_takeHouse_102 (by decide) (fun hc => ?_) (fun hc => ?_)
      · rw [if_pos hc] at h
        exact k_X8_takeHouse_110 C   hw (lv_sub hl [1, 2] rfl) h
      · rw [if_neg hc] at h
        refine y_iload_n C dX8_takeHouse_105 (lv_at hl 2 rfl) ?_
        refine y_iconst C dX8_takeHouse_106 ?_
        refine y_icmp_ne (tgt := 114) C (a' := zm v1) (b' := 2) rfl (by decide) dX8_takeHouse_107 (by decide) (fun hc => ?_) (fun hc => ?_)
        · rw [if_pos hc] at h
          exact k_X8_takeHouse_110 C   hw (lv_sub hl [1, 2] rfl) h
        · rw [if_neg hc] at h
          refine y_iconst C dX8_takeHouse_114 ?_
          exact k_X8_takeHouse_115 C   hw (lv_sub hl [1, 2] rfl) h
    · rw [if_neg hc] at h
      exact k_X8_takeHouse_61 C   hw (lv_sub hl [1, 2] rfl) h
set_option maxRecDepth 100000 in
set_option maxHeartbeats 4000000 in
theorem k_X8_takeHouse_51  {v1 : Int} (C : Cx cX8_takeHouse RX8 4 (some .int) D cA adK adV A p s m args meth c)  {σ : St} {H : Heap} {locs : List Loc} {ls : Array Slot}  (hw : At D cA ad kM 31 R A s σ H locs) (hl : lv_has ls 4 [(0, .ref (ad 0)), (1, .int (zI v1))]) (h : p_X8_takeHouse_51  v1 σ = some res) : W p l e (rmU 2 48) s m args below meth c H locs 0 0 (MQ below (QI D cA ad kM 31 R A res) args s 0 0 A) (F0 m 51 ls []) := by
  have h := h
  unfold p_X8_takeHouse_51 at h
  refine y_iconst C dX8_takeHouse_51 ?_
  exact k_X8_takeHouse_52 C   hw hl h
set_option maxRecDepth 100000 in
set_option maxHeartbeats 4000000 in
theorem k_X8_takeHouse_0   (C : Cx cX8_takeHouse RX8 4 (some .int) D cA adK adV A p s m args meth c)  {σ : St} {H : Heap} {locs : List Loc} {ls : Array Slot}  (hw : At D cA ad kM 31 R A s σ H locs) (hl : lv_has ls 4 [(0, .ref (ad 0))]) (h : p_X8_takeHouse   σ = some res) : W p l e (rmU 2 48) s m args below meth c H locs 0 0 (MQ below (QI D cA ad kM 31 R A res) args s 0 0 A) (F0 m 0 ls []) := by
  have h := h
  unfold p_X8_takeHouse at h
  refine y_aload_n C dX8_takeHouse_0 (lv_at hl 0 rfl) ?_
  obtain ⟨x1, hc1, h⟩ := bd_some h
  refine y_cv (rest := []) hw (y_rV C hw km_0 (by decide) rfl rfl (c_X8_readWord  hc1) mi_X8_readWord wd_1046 wd_1048 ws_27 rfl ⟨by decide, by decide⟩ hl rfl (Nat.le_of_ble_eq_true rfl) dX8_takeHouse_1) (fun H locs hw => ?_)
  refine y_aload_n C dX8_takeHouse_4 (lv_at hl 0 rfl) ?_
  obtain ⟨x5, hc5, h⟩ := bd_some h
  refine y_ci (rest := []) hw (y_rV C hw km_0 (by decide) rfl rfl (c_X8_houseClause  hc5) mi_X8_houseClause wd_1056 wd_1058 ws_28 rfl ⟨by decide, by decide⟩ hl rfl (Nat.le_of_ble_eq_true rfl) dX8_takeHouse_5) (fun H locs hw => ?_)
  refine y_istore_n (lv' := [(1, .int (zI x5.1)), (0, .ref (ad 0))]) C dX8_takeHouse_8 hl (by decide) rfl (fun ls hl => ?_)
  refine y_iload_n C dX8_takeHouse_9 (lv_at hl 0 rfl) ?_
  refine y_if_ne (tgt := 32) C (a' := zm x5.1) rfl dX8_takeHouse_10 (by decide) (fun hc => ?_) (fun hc => ?_)
  · rw [if_pos hc] at h
    refine y_aload_n C dX8_takeHouse_13 (lv_at hl 1 rfl) ?_
    refine g8 C hw km_0 0 (by decide) wd_871 rfl dX8_takeHouse_14 ?_
    refine y_iconst C dX8_takeHouse_17 ?_
    refine y_iald C hw km_1 (i' := 2) (by decide) (by decide) dX8_takeHouse_18 ?_
    refine y_bipush C dX8_takeHouse_19 (by decide) ?_
    refine y_icmp_ne (tgt := 28) C (a' := zm (x5.2 1 2)) (b' := 10) rfl (by decide) dX8_takeHouse_21 (by decide) (fun hc => ?_) (fun hc => ?_)
    · rw [if_pos hc] at h
      refine y_iconst C dX8_takeHouse_24 ?_
      refine y_goto (tgt := 52) C dX8_takeHouse_25 (by decide) ?_
      exact k_X8_takeHouse_52 C   hw (lv_sub hl [1, 0] rfl) h
    · rw [if_neg hc] at h
      refine y_iconst C dX8_takeHouse_28 ?_
      refine y_goto (tgt := 52) C dX8_takeHouse_29 (by decide) ?_
      exact k_X8_takeHouse_52 C   hw (lv_sub hl [1, 0] rfl) h
  · rw [if_neg hc] at h
    refine y_iload_n C dX8_takeHouse_32 (lv_at hl 0 rfl) ?_
    refine y_if_le (tgt := 51) C (a' := zm x5.1) rfl dX8_takeHouse_33 (by decide) (fun hc => ?_) (fun hc => ?_)
    · rw [if_pos hc] at h
      exact k_X8_takeHouse_51 C   hw (lv_sub hl [1, 0] rfl) h
    · rw [if_neg hc] at h
      refine y_aload_n C dX8_takeHouse_36 (lv_at hl 1 rfl) ?_
      refine g8 C hw km_0 21 (by decide) wd_892 rfl dX8_takeHouse_37 ?_
      refine y_iload_n C dX8_takeHouse_40 (lv_at hl 0 rfl) ?_
      obtain ⟨x41, hc41, h⟩ := bd_some h
      refine y_ci (rest := []) hw (y_rS C hw (c_X8_has  hc41) mi_X8_has wd_1067 wd_1068 rfl ⟨by decide, by decide⟩ hl rfl (Nat.le_of_ble_eq_true rfl) dX8_takeHouse_41) (fun H locs hw => ?_)
      refine y_if_eq (tgt := 51) C (a' := zm x41.1) rfl dX8_takeHouse_44 (by decide) (fun hc => ?_) (fun hc => ?_)
      · rw [if_pos hc] at h
        exact k_X8_takeHouse_51 C   hw (lv_sub hl [1, 0] rfl) h
      · rw [if_neg hc] at h
        refine y_iconst C dX8_takeHouse_47 ?_
        refine y_goto (tgt := 52) C dX8_takeHouse_48 (by decide) ?_
        exact k_X8_takeHouse_52 C   hw (lv_sub hl [1, 0] rfl) h
theorem c_X8_takeHouse {l : Launch} {D : va_G} {cA : Nat → ClassId} {adK adV : Nat → Nat} {A : Nat → Prop} {ad : Int → Nat} {R : va_W} {σ : St} {res : Int × St}   (h : p_X8_takeHouse  σ = some res) : Met l yX8_takeHouse (wsU yX8_takeHouse cX8_takeHouse 4 (some .int)) (rmU 2 48) (va_Pc [.ref (ad 0)] (Pr D cA adK adV ad kM 31 R A σ)) (QI D cA ad kM 31 R A res) 0 0 A :=
  y_met (own := RX8) (by decide) rfl _ (Nat.le_of_ble_eq_true rfl) (fun p e s m args below meth c ls C hl hw => k_X8_takeHouse_0 C  hw hl h)
/-! RungHouseModel.copyHouse -/
set_option maxRecDepth 100000 in
set_option maxHeartbeats 4000000 in
theorem k_X8_copyHouse_14b {K14 : Int → Int → Int → St → Option (Int × St)} {v1 : Int} {v2 : Int} {v3 : Int} (C : Cx cX8_copyHouse RX8 4 none D cA adK adV A p s m args meth c)  (hK14 : ∀ (v1 : Int) (v2 : Int) (v3 : Int) (σ : St) (H : Heap) (locs : List Loc) (ls : Array Slot) , At D cA ad kM 31 R A s σ H locs → lv_has ls 4 [(0, .ref (ad 0)), (1, .int (zI v1)), (2, .int (zI v2)), (3, .int (zI v3))] → K14 v1 v2 v3 σ = some res → W p l e (rmU 0 0) s m args below meth c H locs 0 0 (MQ below (QV D cA ad kM 31 R A res) args s 0 0 A) (F0 m 14 ls [])) {σ : St} {H : Heap} {locs : List Loc} {ls : Array Slot}  (hw : At D cA ad kM 31 R A s σ H locs) (hl : lv_has ls 4 [(0, .ref (ad 0)), (1, .int (zI v1)), (2, .int (zI v2)), (3, .int (zI v3))]) (h : p_X8_copyHouse_14b K14 v1 v2 v3 σ = some res) : W p l e (rmU 0 0) s m args below meth c H locs 0 0 (MQ below (QV D cA ad kM 31 R A res) args s 0 0 A) (F0 m 14 ls []) := by
  have h := h
  unfold p_X8_copyHouse_14b at h
  refine y_iload_n C dX8_copyHouse_14 (lv_at hl 3 rfl) ?_
  refine y_bipush C dX8_copyHouse_15 (by decide) ?_
  refine y_icmp_ge (tgt := 48) C (a' := zm v3) (b' := 10) rfl (by decide) dX8_copyHouse_17 (by decide) (fun hc => ?_) (fun hc => ?_)
  · rw [if_pos hc] at h
    refine y_aload_n C dX8_copyHouse_48 (lv_at hl 0 rfl) ?_
    refine g8 C hw km_0 2 (by decide) wd_873 rfl dX8_copyHouse_49 ?_
    refine y_iload_n C dX8_copyHouse_52 (lv_at hl 2 rfl) ?_
    refine y_aload_n C dX8_copyHouse_53 (lv_at hl 0 rfl) ?_
    refine g8 C hw km_0 2 (by decide) wd_873 rfl dX8_copyHouse_54 ?_
    refine y_iload_n C dX8_copyHouse_57 (lv_at hl 1 rfl) ?_
    obtain ⟨hg58, h⟩ := gd_some h
    refine y_iald C hw km_3 (i' := zm v1) rfl hg58 dX8_copyHouse_58 ?_
    obtain ⟨hg59, h⟩ := gd_some h
    obtain ⟨σ59, eσ59, h⟩ := nx_some h
    refine y_iast C hw km_3 (i' := zm v2) rfl hg59 dX8_copyHouse_59 (fun H locs hw => ?_)
    rw [← eσ59] at hw
    refine y_aload_n C dX8_copyHouse_60 (lv_at hl 0 rfl) ?_
    refine g8 C hw km_0 3 (by decide) wd_874 rfl dX8_copyHouse_61 ?_
    refine y_iload_n C dX8_copyHouse_64 (lv_at hl 2 rfl) ?_
    refine y_aload_n C dX8_copyHouse_65 (lv_at hl 0 rfl) ?_
    refine g8 C hw km_0 3 (by decide) wd_874 rfl dX8_copyHouse_66 ?_
    refine y_iload_n C dX8_copyHouse_69 (lv_at hl 1 rfl) ?_
    refine y_iald C hw km_4 (i' := zm v1) rfl hg58 dX8_copyHouse_70 ?_
    obtain ⟨σ71, eσ71, h⟩ := nx_some h
    refine y_iast C hw km_4 (i' := zm v2) rfl hg59 dX8_copyHouse_71 (fun H locs hw => ?_)
    rw [← eσ71] at hw
    refine y_aload_n C dX8_copyHouse_72 (lv_at hl 0 rfl) ?_
    refine g8 C hw km_0 4 (by decide) wd_875 rfl dX8_copyHouse_73 ?_
    refine y_iload_n C dX8_copyHouse_76 (lv_at hl 2 rfl) ?_
    refine y_aload_n C dX8_copyHouse_77 (lv_at hl 0 rfl) ?_
    refine g8 C hw km_0 4 (by decide) wd_875 rfl dX8_copyHouse_78 ?_
    refine y_iload_n C dX8_copyHouse_81 (lv_at hl 1 rfl) ?_
    refine y_iald C hw km_5 (i' := zm v1) rfl hg58 dX8_copyHouse_82 ?_
    obtain ⟨σ83, eσ83, h⟩ := nx_some h
    refine y_iast C hw km_5 (i' := zm v2) rfl hg59 dX8_copyHouse_83 (fun H locs hw => ?_)
    rw [← eσ83] at hw
    refine y_aload_n C dX8_copyHouse_84 (lv_at hl 0 rfl) ?_
    refine g8 C hw km_0 5 (by decide) wd_876 rfl dX8_copyHouse_85 ?_
    refine y_iload_n C dX8_copyHouse_88 (lv_at hl 2 rfl) ?_
    refine y_aload_n C dX8_copyHouse_89 (lv_at hl 0 rfl) ?_
    refine g8 C hw km_0 5 (by decide) wd_876 rfl dX8_copyHouse_90 ?_
    refine y_iload_n C dX8_copyHouse_93 (lv_at hl 1 rfl) ?_
    refine y_iald C hw km_6 (i' := zm v1) rfl hg58 dX8_copyHouse_94 ?_
    obtain ⟨σ95, eσ95, h⟩ := nx_some h
    refine y_iast C hw km_6 (i' := zm v2) rfl hg59 dX8_copyHouse_95 (fun H locs hw => ?_)
    rw [← eσ95] at hw
    refine y_aload_n C dX8_copyHouse_96 (lv_at hl 0 rfl) ?_
    refine g8 C hw km_0 6 (by decide) wd_877 rfl dX8_copyHouse_97 ?_
    refine y_iload_n C dX8_copyHouse_100 (lv_at hl 2 rfl) ?_
    refine y_aload_n C dX8_copyHouse_101 (lv_at hl 0 rfl) ?_
    refine g8 C hw km_0 6 (by decide) wd_877 rfl dX8_copyHouse_102 ?_
    refine y_iload_n C dX8_copyHouse_105 (lv_at hl 1 rfl) ?_
    refine y_iald C hw km_7 (i' := zm v1) rfl hg58 dX8_copyHouse_106 ?_
    obtain ⟨σ107, eσ107, h⟩ := nx_some h
    refine y_iast C hw km_7 (i' := zm v2) rfl hg59 dX8_copyHouse_107 (fun H locs hw => ?_)
    rw [← eσ107] at hw
    exact y_vret C hw h dX8_copyHouse_108
  · rw [if_neg hc] at h
    refine y_aload_n C dX8_copyHouse_20 (lv_at hl 0 rfl) ?_
    refine g8 C hw km_0 1 (by decide) wd_872 rfl dX8_copyHouse_21 ?_
    refine y_bipush C dX8_copyHouse_24 (by decide) ?_
    refine y_iload_n C dX8_copyHouse_26 (lv_at hl 2 rfl) ?_
    refine y_imul C dX8_copyHouse_27 ?_
    refine y_iload_n C dX8_copyHouse_28 (lv_at hl 3 rfl) ?_
    refine y_iadd C dX8_copyHouse_29 ?_
    refine y_aload_n C dX8_copyHouse_30 (lv_at hl 0 rfl) ?_
    refine g8 C hw km_0 1 (by decide) wd_872 rfl dX8_copyHouse_31 ?_
    refine y_bipush C dX8_copyHouse_34 (by decide) ?_
    refine y_iload_n C dX8_copyHouse_36 (lv_at hl 1 rfl) ?_
    refine y_imul C dX8_copyHouse_37 ?_
    refine y_iload_n C dX8_copyHouse_38 (lv_at hl 3 rfl) ?_
    refine y_iadd C dX8_copyHouse_39 ?_
    obtain ⟨hg40, h⟩ := gd_some h
    refine y_iald C hw km_2 (i' := zm ((10 * v1) + v3)) rfl hg40 dX8_copyHouse_40 ?_
    obtain ⟨hg41, h⟩ := gd_some h
    obtain ⟨σ41, eσ41, h⟩ := nx_some h
    refine y_iast C hw km_2 (i' := zm ((10 * v2) + v3)) rfl hg41 dX8_copyHouse_41 (fun H locs hw => ?_)
    rw [← eσ41] at hw
    refine y_iinc (lv' := [(3, .int (zI (v3 + 1))), (0, .ref (ad 0)), (1, .int (zI v1)), (2, .int (zI v2))]) C dX8_copyHouse_42 hl (k := 3) rfl (by decide) rfl (fun ls hl => ?_)
    refine y_goto (tgt := 14) C dX8_copyHouse_45 (by decide) ?_
    exact hK14 _ _ _ _ _ _ _  hw (lv_sub hl [1, 2, 3, 0] rfl) h
set_option maxRecDepth 100000 in
theorem k_X8_copyHouse_14  (C : Cx cX8_copyHouse RX8 4 none D cA adK adV A p s m args meth c)  : ∀ (n : Nat) (v1 : Int) (v2 : Int) (v3 : Int) (σ : St) (H : Heap) (locs : List Loc) (ls : Array Slot) , At D cA ad kM 31 R A s σ H locs → lv_has ls 4 [(0, .ref (ad 0)), (1, .int (zI v1)), (2, .int (zI v2)), (3, .int (zI v3))] → p_X8_copyHouse_14  n v1 v2 v3 σ = some res → W p l e (rmU 0 0) s m args below meth c H locs 0 0 (MQ below (QV D cA ad kM 31 R A res) args s 0 0 A) (F0 m 14 ls []) := by
  intro n
  induction n with
  | zero =>
    intro v1 v2 v3 σ H locs ls  hw hl h
    have h : none = some res := h
    cases h
  | succ n ih =>
    intro v1 v2 v3 σ H locs ls  hw hl h
    exact k_X8_copyHouse_14b C  ih  hw hl h
set_option maxRecDepth 100000 in
set_option maxHeartbeats 4000000 in
theorem k_X8_copyHouse_0  {v1 : Int} {v2 : Int} (C : Cx cX8_copyHouse RX8 4 none D cA adK adV A p s m args meth c)  {σ : St} {H : Heap} {locs : List Loc} {ls : Array Slot}  (hw : At D cA ad kM 31 R A s σ H locs) (hl : lv_has ls 4 [(0, .ref (ad 0)), (1, .int (zI v1)), (2, .int (zI v2))]) (h : p_X8_copyHouse  v1 v2 σ = some res) : W p l e (rmU 0 0) s m args below meth c H locs 0 0 (MQ below (QV D cA ad kM 31 R A res) args s 0 0 A) (F0 m 0 ls []) := by
  have h := h
  unfold p_X8_copyHouse at h
  refine y_aload_n C dX8_copyHouse_0 (lv_at hl 0 rfl) ?_
  refine g8 C hw km_0 0 (by decide) wd_871 rfl dX8_copyHouse_1 ?_
  refine y_iload_n C dX8_copyHouse_4 (lv_at hl 2 rfl) ?_
  refine y_aload_n C dX8_copyHouse_5 (lv_at hl 0 rfl) ?_
  refine g8 C hw km_0 0 (by decide) wd_871 rfl dX8_copyHouse_6 ?_
  refine y_iload_n C dX8_copyHouse_9 (lv_at hl 1 rfl) ?_
  obtain ⟨hg10, h⟩ := gd_some h
  refine y_iald C hw km_1 (i' := zm v1) rfl hg10 dX8_copyHouse_10 ?_
  obtain ⟨hg11, h⟩ := gd_some h
  obtain ⟨σ11, eσ11, h⟩ := nx_some h
  refine y_iast C hw km_1 (i' := zm v2) rfl hg11 dX8_copyHouse_11 (fun H locs hw => ?_)
  rw [← eσ11] at hw
  refine y_iconst C dX8_copyHouse_12 ?_
  refine y_istore_n (lv' := [(3, .int (zI 0)), (0, .ref (ad 0)), (1, .int (zI v1)), (2, .int (zI v2))]) C dX8_copyHouse_13 hl (by decide) rfl (fun ls hl => ?_)
  exact k_X8_copyHouse_14 C  FU _ _ _ _ _ _ _  hw (lv_sub hl [1, 2, 3, 0] rfl) h
theorem c_X8_copyHouse {l : Launch} {D : va_G} {cA : Nat → ClassId} {adK adV : Nat → Nat} {A : Nat → Prop} {ad : Int → Nat} {R : va_W} {σ : St} {res : Int × St} {v1 : Int} {v2 : Int}  (h : p_X8_copyHouse v1 v2 σ = some res) : Met l yX8_copyHouse (wsU yX8_copyHouse cX8_copyHouse 4 none) (rmU 0 0) (va_Pc [.ref (ad 0), .int (zI v1), .int (zI v2)] (Pr D cA adK adV ad kM 31 R A σ)) (QV D cA ad kM 31 R A res) 0 0 A :=
  y_met (own := RX8) (by decide) rfl _ (Nat.le_of_ble_eq_true rfl) (fun p e s m args below meth c ls C hl hw => k_X8_copyHouse_0 C  hw hl h)
/-! RungHouseModel.house -/
set_option maxRecDepth 100000 in
set_option maxHeartbeats 4000000 in
theorem k_X8_house_123  {v1 : Int} {vs0 : Int} (C : Cx cX8_house RX8 3 (some .int) D cA adK adV A p s m args meth c)  {σ : St} {H : Heap} {locs : List Loc} {ls : Array Slot}  (hw : At D cA ad kM 31 R A s σ H locs) (hl : lv_has ls 3 [(0, .ref (ad 0)), (1, .int (zI v1))]) (h : p_X8_house_123  v1 vs0 σ = some res) : W p l e (rmU 3 71) s m args below meth c H locs 0 0 (MQ below (QI D cA ad kM 31 R A res) args s 0 0 A) (F0 m 123 ls [.int (zI vs0)]) := by
  have h := h
  unfold p_X8_house_123 at h
  refine y_istore_n (lv' := [(2, .int (zI vs0)), (0, .ref (ad 0)), (1, .int (zI v1))]) C dX8_house_123 hl (by decide) rfl (fun ls hl => ?_)
  refine y_aload_n C dX8_house_124 (lv_at hl 1 rfl) ?_
  refine y_iconst C dX8_house_125 ?_
  obtain ⟨σ126, eσ126, h⟩ := nx_some h
  refine q8 C hw km_0 14 (by decide) wd_885 rfl rfl rfl (by decide) 0 14 rfl rfl dX8_house_126 (fun H locs hw => ?_)
  rw [← eσ126] at hw
  refine y_iload_n C dX8_house_129 (lv_at hl 0 rfl) ?_
  refine y_if_le (tgt := 138) C (a' := zm vs0) rfl dX8_house_130 (by decide) (fun hc => ?_) (fun hc => ?_)
  · rw [if_pos hc] at h
    refine y_aload_n C dX8_house_138 (lv_at hl 1 rfl) ?_
    refine y_iconst C dX8_house_139 ?_
    refine y_iload_n C dX8_house_140 (lv_at hl 2 rfl) ?_
    obtain ⟨x141, hc141, h⟩ := bd_some h
    refine y_cv (rest := []) hw (y_rV C hw km_0 (by decide) rfl rfl (c_X8_copyHouse  hc141) mi_X8_copyHouse wd_1084 wd_1086 ws_32 rfl ⟨by decide, by decide⟩ hl rfl (Nat.le_of_ble_eq_true rfl) dX8_house_141) (fun H locs hw => ?_)
    refine y_aload_n C dX8_house_144 (lv_at hl 1 rfl) ?_
    refine y_iconst C dX8_house_145 ?_
    obtain ⟨σ146, eσ146, h⟩ := nx_some h
    refine q8 C hw km_0 32 (by decide) wd_903 rfl (zb_nar (by decide)) rfl (by decide) 0 32 rfl rfl dX8_house_146 (fun H locs hw => ?_)
    rw [← eσ146] at hw
    refine y_aload_n C dX8_house_149 (lv_at hl 1 rfl) ?_
    refine g8 C hw km_0 0 (by decide) wd_871 rfl dX8_house_150 ?_
    refine y_iload_n C dX8_house_153 (lv_at hl 2 rfl) ?_
    obtain ⟨hg154, h⟩ := gd_some h
    refine y_iald C hw km_1 (i' := zm v1) rfl hg154 dX8_house_154 ?_
    exact y_iret C hw h dX8_house_155
  · rw [if_neg hc] at h
    refine y_bipush C dX8_house_133 (by decide) ?_
    refine y_iload_n C dX8_house_135 (lv_at hl 0 rfl) ?_
    refine y_isub C dX8_house_136 ?_
    exact y_iret C hw h dX8_house_137
set_option maxRecDepth 100000 in
set_option maxHeartbeats 4000000 in
theorem k_X8_house_122  {v1 : Int} {v2 : Int} (C : Cx cX8_house RX8 3 (some .int) D cA adK adV A p s m args meth c)  {σ : St} {H : Heap} {locs : List Loc} {ls : Array Slot}  (hw : At D cA ad kM 31 R A s σ H locs) (hl : lv_has ls 3 [(0, .ref (ad 0)), (1, .int (zI v1)), (2, .int (zI v2))]) (h : p_X8_house_122  v1 v2 σ = some res) : W p l e (rmU 3 71) s m args below meth c H locs 0 0 (MQ below (QI D cA ad kM 31 R A res) args s 0 0 A) (F0 m 122 ls []) := by
  have h := h
  unfold p_X8_house_122 at h
  refine y_iload_n C dX8_house_122 (lv_at hl 2 rfl) ?_
  exact k_X8_house_123 C   hw (lv_sub hl [0, 1] rfl) h
set_option maxRecDepth 100000 in
set_option maxHeartbeats 4000000 in
theorem k_X8_house_91  {v1 : Int} {v2 : Int} (C : Cx cX8_house RX8 3 (some .int) D cA adK adV A p s m args meth c)  {σ : St} {H : Heap} {locs : List Loc} {ls : Array Slot}  (hw : At D cA ad kM 31 R A s σ H locs) (hl : lv_has ls 3 [(0, .ref (ad 0)), (1, .int (zI v1)), (2, .int (zI v2))]) (h : p_X8_house_91  v1 v2 σ = some res) : W p l e (rmU 3 71) s m args below meth c H locs 0 0 (MQ below (QI D cA ad kM 31 R A res) args s 0 0 A) (F0 m 91 ls []) := by
  have h := h
  unfold p_X8_house_91 at h
  refine y_iload_n C dX8_house_91 (lv_at hl 2 rfl) ?_
  refine y_if_ne (tgt := 122) C (a' := zm v2) rfl dX8_house_92 (by decide) (fun hc => ?_) (fun hc => ?_)
  · rw [if_pos hc] at h
    refine y_aload_n C dX8_house_95 (lv_at hl 0 rfl) ?_
    refine g8 C hw km_0 6 (by decide) wd_877 rfl dX8_house_96 ?_
    refine y_iconst C dX8_house_99 ?_
    refine y_iald C hw km_7 (i' := 2) (by decide) (by decide) dX8_house_100 ?_
    refine y_aload_n C dX8_house_101 (lv_at hl 0 rfl) ?_
    refine g8 C hw km_0 0 (by decide) wd_871 rfl dX8_house_102 ?_
    refine y_iconst C dX8_house_105 ?_
    refine y_iald C hw km_1 (i' := 2) (by decide) (by decide) dX8_house_106 ?_
    refine y_icmp_lt (tgt := 122) C (a' := zm (σ 7 2)) (b' := zm (σ 1 2)) rfl rfl dX8_house_107 (by decide) (fun hc => ?_) (fun hc => ?_)
    · rw [if_pos hc] at h
      exact k_X8_house_122 C   hw hl h
    · rw [if_neg hc] at h
      refine y_aload_n C dX8_house_110 (lv_at hl 0 rfl) ?_
      refine y_iconst C dX8_house_111 ?_
      refine y_aload_n C dX8_house_112 (lv_at hl 0 rfl) ?_
      refine g8 C hw km_0 14 (by decide) wd_885 rfl dX8_house_113 ?_
      obtain ⟨x116, hc116, h⟩ := bd_some h
      refine y_ci (rest := []) hw (y_rV C hw km_0 (by decide) rfl rfl (c_X8_fails  hc116) mi_X8_fails wd_1070 wd_1072 ws_29 rfl ⟨by decide, by decide⟩ hl rfl (Nat.le_of_ble_eq_true rfl) dX8_house_116) (fun H locs hw => ?_)
      refine y_goto (tgt := 123) C dX8_house_119 (by decide) ?_
      exact k_X8_house_123 C   hw (lv_sub hl [0, 1] rfl) h
  · rw [if_neg hc] at h
    exact k_X8_house_122 C   hw hl h
set_option maxRecDepth 100000 in
set_option maxHeartbeats 4000000 in
theorem k_X8_house_72b {K72 : Int → Int → St → Option (Int × St)} {v1 : Int} {v2 : Int} (C : Cx cX8_house RX8 3 (some .int) D cA adK adV A p s m args meth c)  (hK72 : ∀ (v1 : Int) (v2 : Int) (σ : St) (H : Heap) (locs : List Loc) (ls : Array Slot) , At D cA ad kM 31 R A s σ H locs → lv_has ls 3 [(0, .ref (ad 0)), (1, .int (zI v1)), (2, .int (zI v2))] → K72 v1 v2 σ = some res → W p l e (rmU 3 71) s m args below meth c H locs 0 0 (MQ below (QI D cA ad kM 31 R A res) args s 0 0 A) (F0 m 72 ls [])) {σ : St} {H : Heap} {locs : List Loc} {ls : Array Slot}  (hw : At D cA ad kM 31 R A s σ H locs) (hl : lv_has ls 3 [(0, .ref (ad 0)), (1, .int (zI v1)), (2, .int (zI v2))]) (h : p_X8_house_72b K72 v1 v2 σ = some res) : W p l e (rmU 3 71) s m args below meth c H locs 0 0 (MQ below (QI D cA ad kM 31 R A res) args s 0 0 A) (F0 m 72 ls []) := by
  have h := h
  unfold p_X8_house_72b at h
  refine y_iload_n C dX8_house_72 (lv_at hl 2 rfl) ?_
  refine y_if_ne (tgt := 91) C (a' := zm v2) rfl dX8_house_73 (by decide) (fun hc => ?_) (fun hc => ?_)
  · rw [if_pos hc] at h
    refine y_aload_n C dX8_house_76 (lv_at hl 0 rfl) ?_
    obtain ⟨x77, hc77, h⟩ := bd_some h
    refine y_ci (rest := []) hw (y_rV C hw km_0 (by decide) rfl rfl (c_X8_here  hc77) mi_X8_here wd_1038 wd_1040 ws_25 rfl ⟨by decide, by decide⟩ hl rfl (Nat.le_of_ble_eq_true rfl) dX8_house_77) (fun H locs hw => ?_)
    refine y_if_lt (tgt := 91) C (a' := zm x77.1) rfl dX8_house_80 (by decide) (fun hc => ?_) (fun hc => ?_)
    · rw [if_pos hc] at h
      exact k_X8_house_91 C   hw hl h
    · rw [if_neg hc] at h
      refine y_aload_n C dX8_house_83 (lv_at hl 0 rfl) ?_
      obtain ⟨x84, hc84, h⟩ := bd_some h
      refine y_ci (rest := []) hw (y_rV C hw km_0 (by decide) rfl rfl (c_X8_takeHouse  hc84) mi_X8_takeHouse wd_1042 wd_1044 ws_26 rfl ⟨by decide, by decide⟩ hl rfl (Nat.le_of_ble_eq_true rfl) dX8_house_84) (fun H locs hw => ?_)
      refine y_istore_n (lv' := [(2, .int (zI x84.1)), (0, .ref (ad 0)), (1, .int (zI v1))]) C dX8_house_87 hl (by decide) rfl (fun ls hl => ?_)
      refine y_goto (tgt := 72) C dX8_house_88 (by decide) ?_
      exact hK72 _ _ _ _ _ _  hw (lv_sub hl [1, 2, 0] rfl) h
  · rw [if_neg hc] at h
    exact k_X8_house_91 C   hw hl h
set_option maxRecDepth 100000 in
theorem k_X8_house_72  (C : Cx cX8_house RX8 3 (some .int) D cA adK adV A p s m args meth c)  : ∀ (n : Nat) (v1 : Int) (v2 : Int) (σ : St) (H : Heap) (locs : List Loc) (ls : Array Slot) , At D cA ad kM 31 R A s σ H locs → lv_has ls 3 [(0, .ref (ad 0)), (1, .int (zI v1)), (2, .int (zI v2))] → p_X8_house_72  n v1 v2 σ = some res → W p l e (rmU 3 71) s m args below meth c H locs 0 0 (MQ below (QI D cA ad kM 31 R A res) args s 0 0 A) (F0 m 72 ls []) := by
  intro n
  induction n with
  | zero =>
    intro v1 v2 σ H locs ls  hw hl h
    have h : none = some res := h
    cases h
  | succ n ih =>
    intro v1 v2 σ H locs ls  hw hl h
    exact k_X8_house_72b C  ih  hw hl h
set_option maxRecDepth 100000 in
set_option maxHeartbeats 4000000 in
theorem k_X8_house_0  {v1 : Int} (C : Cx cX8_house RX8 3 (some .int) D cA adK adV A p s m args meth c)  {σ : St} {H : Heap} {locs : List Loc} {ls : Array Slot}  (hw : At D cA ad kM 31 R A s σ H locs) (hl : lv_has ls 3 [(0, .ref (ad 0)), (1, .int (zI v1))]) (h : p_X8_house  v1 σ = some res) : W p l e (rmU 3 71) s m args below meth c H locs 0 0 (MQ below (QI D cA ad kM 31 R A res) args s 0 0 A) (F0 m 0 ls []) := by
  have h := h
  unfold p_X8_house at h
  refine y_iload_n C dX8_house_0 (lv_at hl 1 rfl) ?_
  refine y_i2l C rfl dX8_house_1 ?_
  refine y_lconst C (z' := 0) dX8_house_2 (by decide) ?_
  refine y_lconst C (z' := 1) dX8_house_3 (by decide) ?_
  obtain ⟨x4, hc4, h⟩ := bd_some h
  refine y_ci (rest := []) hw (y_rS C hw (c_X8_within  hc4) mi_X8_within wd_1027 wd_1028 rfl ⟨by decide, by decide⟩ hl rfl (Nat.le_of_ble_eq_true rfl) dX8_house_4) (fun H locs hw => ?_)
  refine y_if_ne (tgt := 13) C (a' := zm x4.1) rfl dX8_house_7 (by decide) (fun hc => ?_) (fun hc => ?_)
  · rw [if_pos hc] at h
    refine y_ldc C (z := (-1000000001)) wd_1037 (by decide) dX8_house_10 ?_
    exact y_iret C hw h dX8_house_12
  · rw [if_neg hc] at h
    refine y_aload_n C dX8_house_13 (lv_at hl 0 rfl) ?_
    refine y_iconst C dX8_house_14 ?_
    obtain ⟨σ15, eσ15, h⟩ := nx_some h
    refine q8 C hw km_0 15 (by decide) wd_886 rfl rfl rfl (by decide) (-1) 15 rfl rfl dX8_house_15 (fun H locs hw => ?_)
    rw [← eσ15] at hw
    refine y_aload_n C dX8_house_18 (lv_at hl 0 rfl) ?_
    refine y_iconst C dX8_house_19 ?_
    obtain ⟨σ20, eσ20, h⟩ := nx_some h
    refine q8 C hw km_0 16 (by decide) wd_887 rfl rfl rfl (by decide) 0 16 rfl rfl dX8_house_20 (fun H locs hw => ?_)
    rw [← eσ20] at hw
    refine y_aload_n C dX8_house_23 (lv_at hl 0 rfl) ?_
    refine g8 C hw km_0 0 (by decide) wd_871 rfl dX8_house_24 ?_
    refine y_iconst C dX8_house_27 ?_
    refine y_iconst C dX8_house_28 ?_
    obtain ⟨σ29, eσ29, h⟩ := nx_some h
    refine y_iast C hw km_1 (i' := 2) (by decide) (by decide) dX8_house_29 (fun H locs hw => ?_)
    rw [← eσ29] at hw
    refine y_aload_n C dX8_house_30 (lv_at hl 0 rfl) ?_
    refine g8 C hw km_0 2 (by decide) wd_873 rfl dX8_house_31 ?_
    refine y_iconst C dX8_house_34 ?_
    refine y_iconst C dX8_house_35 ?_
    obtain ⟨σ36, eσ36, h⟩ := nx_some h
    refine y_iast C hw km_3 (i' := 2) (by decide) (by decide) dX8_house_36 (fun H locs hw => ?_)
    rw [← eσ36] at hw
    refine y_aload_n C dX8_house_37 (lv_at hl 0 rfl) ?_
    refine g8 C hw km_0 4 (by decide) wd_875 rfl dX8_house_38 ?_
    refine y_iconst C dX8_house_41 ?_
    refine y_iconst C dX8_house_42 ?_
    obtain ⟨σ43, eσ43, h⟩ := nx_some h
    refine y_iast C hw km_5 (i' := 2) (by decide) (by decide) dX8_house_43 (fun H locs hw => ?_)
    rw [← eσ43] at hw
    refine y_aload_n C dX8_house_44 (lv_at hl 0 rfl) ?_
    refine g8 C hw km_0 3 (by decide) wd_874 rfl dX8_house_45 ?_
    refine y_iconst C dX8_house_48 ?_
    refine y_iconst C dX8_house_49 ?_
    obtain ⟨σ50, eσ50, h⟩ := nx_some h
    refine y_iast C hw km_4 (i' := 2) (by decide) (by decide) dX8_house_50 (fun H locs hw => ?_)
    rw [← eσ50] at hw
    refine y_aload_n C dX8_house_51 (lv_at hl 0 rfl) ?_
    refine g8 C hw km_0 5 (by decide) wd_876 rfl dX8_house_52 ?_
    refine y_iconst C dX8_house_55 ?_
    refine y_iconst C dX8_house_56 ?_
    obtain ⟨σ57, eσ57, h⟩ := nx_some h
    refine y_iast C hw km_6 (i' := 2) (by decide) (by decide) dX8_house_57 (fun H locs hw => ?_)
    rw [← eσ57] at hw
    refine y_aload_n C dX8_house_58 (lv_at hl 0 rfl) ?_
    refine g8 C hw km_0 6 (by decide) wd_877 rfl dX8_house_59 ?_
    refine y_iconst C dX8_house_62 ?_
    refine y_iconst C dX8_house_63 ?_
    obtain ⟨σ64, eσ64, h⟩ := nx_some h
    refine y_iast C hw km_7 (i' := 2) (by decide) (by decide) dX8_house_64 (fun H locs hw => ?_)
    rw [← eσ64] at hw
    refine y_aload_n C dX8_house_65 (lv_at hl 0 rfl) ?_
    refine y_iconst C dX8_house_66 ?_
    obtain ⟨σ67, eσ67, h⟩ := nx_some h
    refine q8 C hw km_0 21 (by decide) wd_892 rfl rfl rfl (by decide) 0 21 rfl rfl dX8_house_67 (fun H locs hw => ?_)
    rw [← eσ67] at hw
    refine y_iconst C dX8_house_70 ?_
    refine y_istore_n (lv' := [(2, .int (zI 0)), (0, .ref (ad 0)), (1, .int (zI v1))]) C dX8_house_71 hl (by decide) rfl (fun ls hl => ?_)
    exact k_X8_house_72 C  FU _ _ _ _ _ _  hw (lv_sub hl [1, 2, 0] rfl) h
theorem c_X8_house {l : Launch} {D : va_G} {cA : Nat → ClassId} {adK adV : Nat → Nat} {A : Nat → Prop} {ad : Int → Nat} {R : va_W} {σ : St} {res : Int × St} {v1 : Int}  (h : p_X8_house v1 σ = some res) : Met l yX8_house (wsU yX8_house cX8_house 3 (some .int)) (rmU 3 71) (va_Pc [.ref (ad 0), .int (zI v1)] (Pr D cA adK adV ad kM 31 R A σ)) (QI D cA ad kM 31 R A res) 0 0 A :=
  y_met (own := RX8) (by decide) rfl _ (Nat.le_of_ble_eq_true rfl) (fun p e s m args below meth c ls C hl hw => k_X8_house_0 C  hw hl h)
/-! RungHouseModel.fault -/
set_option maxRecDepth 100000 in
set_option maxHeartbeats 4000000 in
theorem k_X8_fault_0   (C : Cx cX8_fault RX8 1 (some .int) D cA adK adV A p s m args meth c)  {σ : St} {H : Heap} {locs : List Loc} {ls : Array Slot}  (hw : At D cA ad kM 31 R A s σ H locs) (hl : lv_has ls 1 [(0, .ref (ad 0))]) (h : p_X8_fault   σ = some res) : W p l e (rmU 0 0) s m args below meth c H locs 0 0 (MQ below (QI D cA ad kM 31 R A res) args s 0 0 A) (F0 m 0 ls []) := by
  have h := h
  unfold p_X8_fault at h
  refine y_aload_n C dX8_fault_0 (lv_at hl 0 rfl) ?_
  refine g8 C hw km_0 15 (by decide) wd_886 rfl dX8_fault_1 ?_
  exact y_iret C hw h dX8_fault_4
theorem c_X8_fault {l : Launch} {D : va_G} {cA : Nat → ClassId} {adK adV : Nat → Nat} {A : Nat → Prop} {ad : Int → Nat} {R : va_W} {σ : St} {res : Int × St}   (h : p_X8_fault  σ = some res) : Met l yX8_fault (wsU yX8_fault cX8_fault 1 (some .int)) (rmU 0 0) (va_Pc [.ref (ad 0)] (Pr D cA adK adV ad kM 31 R A σ)) (QI D cA ad kM 31 R A res) 0 0 A :=
  y_met (own := RX8) (by decide) rfl _ (Nat.le_of_ble_eq_true rfl) (fun p e s m args below meth c ls C hl hw => k_X8_fault_0 C  hw hl h)
/-! RungHouseModel.told -/
set_option maxRecDepth 100000 in
set_option maxHeartbeats 4000000 in
theorem k_X8_told_0  {v1 : Int} {v2 : Int} (C : Cx cX8_told RX8 3 (some .int) D cA adK adV A p s m args meth c)  {σ : St} {H : Heap} {locs : List Loc} {ls : Array Slot}  (hw : At D cA ad kM 31 R A s σ H locs) (hl : lv_has ls 3 [(0, .ref (ad 0)), (1, .int (zI v1)), (2, .int (zI v2))]) (h : p_X8_told  v1 v2 σ = some res) : W p l e (rmU 2 46) s m args below meth c H locs 0 0 (MQ below (QI D cA ad kM 31 R A res) args s 0 0 A) (F0 m 0 ls []) := by
  have h := h
  unfold p_X8_told at h
  refine y_aload_n C dX8_told_0 (lv_at hl 0 rfl) ?_
  refine y_iload_n C dX8_told_1 (lv_at hl 1 rfl) ?_
  obtain ⟨x2, hc2, h⟩ := bd_some h
  refine y_ci (rest := []) hw (y_rV C hw km_0 (by decide) rfl rfl (c_X8_isHouse  hc2) mi_X8_isHouse wd_1096 wd_1098 ws_33 rfl ⟨by decide, by decide⟩ hl rfl (Nat.le_of_ble_eq_true rfl) dX8_told_2) (fun H locs hw => ?_)
  refine y_if_ne (tgt := 11) C (a' := zm x2.1) rfl dX8_told_5 (by decide) (fun hc => ?_) (fun hc => ?_)
  · rw [if_pos hc] at h
    refine y_ldc C (z := (-1000000001)) wd_1037 (by decide) dX8_told_8 ?_
    exact y_iret C hw h dX8_told_10
  · rw [if_neg hc] at h
    refine y_iload_n C dX8_told_11 (lv_at hl 2 rfl) ?_
    by_cases hc0 : zm v2 = 0
    · rw [if_pos hc0] at h
      refine y_tabIn (tgt := 52) C dX8_told_12 hc0 (by decide) (by decide) rfl (by decide) ?_
      refine y_aload_n C dX8_told_52 (lv_at hl 0 rfl) ?_
      refine g8 C hw km_0 0 (by decide) wd_871 rfl dX8_told_53 ?_
      refine y_iload_n C dX8_told_56 (lv_at hl 1 rfl) ?_
      obtain ⟨hg57, h⟩ := gd_some h
      refine y_iald C hw km_1 (i' := zm v1) rfl hg57 dX8_told_57 ?_
      exact y_iret C hw h dX8_told_58
    · rw [if_neg hc0] at h
      by_cases hc1 : zm v2 = 1
      · rw [if_pos hc1] at h
        refine y_tabIn (tgt := 59) C dX8_told_12 hc1 (by decide) (by decide) rfl (by decide) ?_
        refine y_aload_n C dX8_told_59 (lv_at hl 0 rfl) ?_
        refine g8 C hw km_0 4 (by decide) wd_875 rfl dX8_told_60 ?_
        refine y_iload_n C dX8_told_63 (lv_at hl 1 rfl) ?_
        obtain ⟨hg64, h⟩ := gd_some h
        refine y_iald C hw km_5 (i' := zm v1) rfl hg64 dX8_told_64 ?_
        exact y_iret C hw h dX8_told_65
      · rw [if_neg hc1] at h
        by_cases hc2 : zm v2 = 2
        · rw [if_pos hc2] at h
          refine y_tabIn (tgt := 66) C dX8_told_12 hc2 (by decide) (by decide) rfl (by decide) ?_
          refine y_aload_n C dX8_told_66 (lv_at hl 0 rfl) ?_
          refine g8 C hw km_0 3 (by decide) wd_874 rfl dX8_told_67 ?_
          refine y_iload_n C dX8_told_70 (lv_at hl 1 rfl) ?_
          obtain ⟨hg71, h⟩ := gd_some h
          refine y_iald C hw km_4 (i' := zm v1) rfl hg71 dX8_told_71 ?_
          exact y_iret C hw h dX8_told_72
        · rw [if_neg hc2] at h
          by_cases hc3 : zm v2 = 3
          · rw [if_pos hc3] at h
            refine y_tabIn (tgt := 73) C dX8_told_12 hc3 (by decide) (by decide) rfl (by decide) ?_
            refine y_aload_n C dX8_told_73 (lv_at hl 0 rfl) ?_
            refine g8 C hw km_0 5 (by decide) wd_876 rfl dX8_told_74 ?_
            refine y_iload_n C dX8_told_77 (lv_at hl 1 rfl) ?_
            obtain ⟨hg78, h⟩ := gd_some h
            refine y_iald C hw km_6 (i' := zm v1) rfl hg78 dX8_told_78 ?_
            exact y_iret C hw h dX8_told_79
          · rw [if_neg hc3] at h
            by_cases hc4 : zm v2 = 4
            · rw [if_pos hc4] at h
              refine y_tabIn (tgt := 80) C dX8_told_12 hc4 (by decide) (by decide) rfl (by decide) ?_
              refine y_aload_n C dX8_told_80 (lv_at hl 0 rfl) ?_
              refine g8 C hw km_0 6 (by decide) wd_877 rfl dX8_told_81 ?_
              refine y_iload_n C dX8_told_84 (lv_at hl 1 rfl) ?_
              obtain ⟨hg85, h⟩ := gd_some h
              refine y_iald C hw km_7 (i' := zm v1) rfl hg85 dX8_told_85 ?_
              exact y_iret C hw h dX8_told_86
            · rw [if_neg hc4] at h
              by_cases hc5 : zm v2 = 5
              · rw [if_pos hc5] at h
                refine y_tabIn (tgt := 87) C dX8_told_12 hc5 (by decide) (by decide) rfl (by decide) ?_
                refine y_aload_n C dX8_told_87 (lv_at hl 0 rfl) ?_
                refine g8 C hw km_0 2 (by decide) wd_873 rfl dX8_told_88 ?_
                refine y_iload_n C dX8_told_91 (lv_at hl 1 rfl) ?_
                obtain ⟨hg92, h⟩ := gd_some h
                refine y_iald C hw km_3 (i' := zm v1) rfl hg92 dX8_told_92 ?_
                exact y_iret C hw h dX8_told_93
              · rw [if_neg hc5] at h
                refine y_tabOut (tgt := 94) C dX8_told_12 (by omega) (by decide) ?_
                refine y_ldc C (z := (-1000000002)) wd_1030 (by decide) dX8_told_94 ?_
                exact y_iret C hw h dX8_told_96
theorem c_X8_told {l : Launch} {D : va_G} {cA : Nat → ClassId} {adK adV : Nat → Nat} {A : Nat → Prop} {ad : Int → Nat} {R : va_W} {σ : St} {res : Int × St} {v1 : Int} {v2 : Int}  (h : p_X8_told v1 v2 σ = some res) : Met l yX8_told (wsU yX8_told cX8_told 3 (some .int)) (rmU 2 46) (va_Pc [.ref (ad 0), .int (zI v1), .int (zI v2)] (Pr D cA adK adV ad kM 31 R A σ)) (QI D cA ad kM 31 R A res) 0 0 A :=
  y_met (own := RX8) (by decide) rfl _ (Nat.le_of_ble_eq_true rfl) (fun p e s m args below meth c ls C hl hw => k_X8_told_0 C  hw hl h)
/-! RungHouseModel.pays -/
set_option maxRecDepth 100000 in
set_option maxHeartbeats 4000000 in
theorem k_X8_pays_0  {v1 : Int} {v2 : Int} (C : Cx cX8_pays RX8 3 (some .int) D cA adK adV A p s m args meth c)  {σ : St} {H : Heap} {locs : List Loc} {ls : Array Slot}  (hw : At D cA ad kM 31 R A s σ H locs) (hl : lv_has ls 3 [(0, .ref (ad 0)), (1, .int (zI v1)), (2, .int (zI v2))]) (h : p_X8_pays  v1 v2 σ = some res) : W p l e (rmU 3 68) s m args below meth c H locs 0 0 (MQ below (QI D cA ad kM 31 R A res) args s 0 0 A) (F0 m 0 ls []) := by
  have h := h
  unfold p_X8_pays at h
  refine y_aload_n C dX8_pays_0 (lv_at hl 0 rfl) ?_
  refine y_iload_n C dX8_pays_1 (lv_at hl 1 rfl) ?_
  refine y_iload_n C dX8_pays_2 (lv_at hl 2 rfl) ?_
  obtain ⟨x3, hc3, h⟩ := bd_some h
  refine y_ci (rest := []) hw (y_rV C hw km_0 (by decide) rfl rfl (c_X8_isRung  hc3) mi_X8_isRung wd_1104 wd_1106 ws_34 rfl ⟨by decide, by decide⟩ hl rfl (Nat.le_of_ble_eq_true rfl) dX8_pays_3) (fun H locs hw => ?_)
  refine y_if_eq (tgt := 23) C (a' := zm x3.1) rfl dX8_pays_6 (by decide) (fun hc => ?_) (fun hc => ?_)
  · rw [if_pos hc] at h
    refine y_ldc C (z := (-1000000001)) wd_1037 (by decide) dX8_pays_23 ?_
    exact y_iret C hw h dX8_pays_25
  · rw [if_neg hc] at h
    refine y_aload_n C dX8_pays_9 (lv_at hl 0 rfl) ?_
    refine g8 C hw km_0 1 (by decide) wd_872 rfl dX8_pays_10 ?_
    refine y_bipush C dX8_pays_13 (by decide) ?_
    refine y_iload_n C dX8_pays_15 (lv_at hl 1 rfl) ?_
    refine y_imul C dX8_pays_16 ?_
    refine y_iload_n C dX8_pays_17 (lv_at hl 2 rfl) ?_
    refine y_iadd C dX8_pays_18 ?_
    obtain ⟨hg19, h⟩ := gd_some h
    refine y_iald C hw km_2 (i' := zm ((10 * v1) + v2)) rfl hg19 dX8_pays_19 ?_
    refine y_goto (tgt := 25) C dX8_pays_20 (by decide) ?_
    exact y_iret C hw h dX8_pays_25
theorem c_X8_pays {l : Launch} {D : va_G} {cA : Nat → ClassId} {adK adV : Nat → Nat} {A : Nat → Prop} {ad : Int → Nat} {R : va_W} {σ : St} {res : Int × St} {v1 : Int} {v2 : Int}  (h : p_X8_pays v1 v2 σ = some res) : Met l yX8_pays (wsU yX8_pays cX8_pays 3 (some .int)) (rmU 3 68) (va_Pc [.ref (ad 0), .int (zI v1), .int (zI v2)] (Pr D cA adK adV ad kM 31 R A σ)) (QI D cA ad kM 31 R A res) 0 0 A :=
  y_met (own := RX8) (by decide) rfl _ (Nat.le_of_ble_eq_true rfl) (fun p e s m args below meth c ls C hl hw => k_X8_pays_0 C  hw hl h)
/-! RungHouseModel.nextOf -/
set_option maxRecDepth 100000 in
set_option maxHeartbeats 4000000 in
theorem k_X8_nextOf_67  {v2 : Int} {vs0 : Int} {vs1 : Int} (C : Cx cX8_nextOf RX8 5 (some .int) D cA adK adV A p s m args meth c)  {σ : St} {H : Heap} {locs : List Loc} {ls : Array Slot}  (hw : At D cA ad kM 31 R A s σ H locs) (hl : lv_has ls 5 [(2, .int (zI v2))]) (h : p_X8_nextOf_67  v2 vs0 vs1 σ = some res) : W p l e (rmU 1 21) s m args below meth c H locs 0 0 (MQ below (QI D cA ad kM 31 R A res) args s 0 0 A) (F0 m 67 ls [.int (zI vs1), .int (zI vs0)]) := by
  have h := h
  unfold p_X8_nextOf_67 at h
  refine y_imul C dX8_nextOf_67 ?_
  refine y_istore (lv' := [(4, .int (zI (vs0 * vs1))), (2, .int (zI v2))]) C dX8_nextOf_68 hl (by decide) rfl (fun ls hl => ?_)
  refine y_iload_n C dX8_nextOf_70 (lv_at hl 1 rfl) ?_
  refine y_iload C dX8_nextOf_71 (lv_at hl 0 rfl) ?_
  refine y_isub C dX8_nextOf_73 ?_
  refine y_if_ge (tgt := 81) C (a' := zm (v2 - (vs0 * vs1))) rfl dX8_nextOf_74 (by decide) (fun hc => ?_) (fun hc => ?_)
  · rw [if_pos hc] at h
    refine y_iload_n C dX8_nextOf_81 (lv_at hl 1 rfl) ?_
    refine y_iload C dX8_nextOf_82 (lv_at hl 0 rfl) ?_
    refine y_isub C dX8_nextOf_84 ?_
    exact y_iret C hw h dX8_nextOf_85
  · rw [if_neg hc] at h
    refine y_iconst C dX8_nextOf_77 ?_
    refine y_goto (tgt := 85) C dX8_nextOf_78 (by decide) ?_
    exact y_iret C hw h dX8_nextOf_85
set_option maxRecDepth 100000 in
set_option maxHeartbeats 4000000 in
theorem k_X8_nextOf_0  {v1 : Int} {v2 : Int} {v3 : Int} (C : Cx cX8_nextOf RX8 5 (some .int) D cA adK adV A p s m args meth c)  {σ : St} {H : Heap} {locs : List Loc} {ls : Array Slot}  (hw : At D cA ad kM 31 R A s σ H locs) (hl : lv_has ls 5 [(0, .ref (ad 0)), (1, .int (zI v1)), (2, .int (zI v2)), (3, .int (zI v3))]) (h : p_X8_nextOf  v1 v2 v3 σ = some res) : W p l e (rmU 1 21) s m args below meth c H locs 0 0 (MQ below (QI D cA ad kM 31 R A res) args s 0 0 A) (F0 m 0 ls []) := by
  have h := h
  unfold p_X8_nextOf at h
  refine y_iload_n C dX8_nextOf_0 (lv_at hl 3 rfl) ?_
  refine y_if_ne (tgt := 41) C (a' := zm v3) rfl dX8_nextOf_1 (by decide) (fun hc => ?_) (fun hc => ?_)
  · rw [if_pos hc] at h
    refine y_iload_n C dX8_nextOf_4 (lv_at hl 2 rfl) ?_
    refine y_aload_n C dX8_nextOf_5 (lv_at hl 0 rfl) ?_
    refine g8 C hw km_0 4 (by decide) wd_875 rfl dX8_nextOf_6 ?_
    refine y_iload_n C dX8_nextOf_9 (lv_at hl 1 rfl) ?_
    obtain ⟨hg10, h⟩ := gd_some h
    refine y_iald C hw km_5 (i' := zm v1) rfl hg10 dX8_nextOf_10 ?_
    refine y_iadd C dX8_nextOf_11 ?_
    refine y_aload_n C dX8_nextOf_12 (lv_at hl 0 rfl) ?_
    refine g8 C hw km_0 0 (by decide) wd_871 rfl dX8_nextOf_13 ?_
    refine y_iload_n C dX8_nextOf_16 (lv_at hl 1 rfl) ?_
    refine y_iald C hw km_1 (i' := zm v1) rfl hg10 dX8_nextOf_17 ?_
    refine y_icmp_ge (tgt := 32) C (a' := zm (v2 + (σ 5 (zm v1)))) (b' := zm (σ 1 (zm v1))) rfl rfl dX8_nextOf_18 (by decide) (fun hc => ?_) (fun hc => ?_)
    · rw [if_pos hc] at h
      refine y_aload_n C dX8_nextOf_32 (lv_at hl 0 rfl) ?_
      refine g8 C hw km_0 0 (by decide) wd_871 rfl dX8_nextOf_33 ?_
      refine y_iload_n C dX8_nextOf_36 (lv_at hl 1 rfl) ?_
      refine y_iald C hw km_1 (i' := zm v1) rfl hg10 dX8_nextOf_37 ?_
      refine y_iconst C dX8_nextOf_38 ?_
      refine y_isub C dX8_nextOf_39 ?_
      exact y_iret C hw h dX8_nextOf_40
    · rw [if_neg hc] at h
      refine y_iload_n C dX8_nextOf_21 (lv_at hl 2 rfl) ?_
      refine y_aload_n C dX8_nextOf_22 (lv_at hl 0 rfl) ?_
      refine g8 C hw km_0 4 (by decide) wd_875 rfl dX8_nextOf_23 ?_
      refine y_iload_n C dX8_nextOf_26 (lv_at hl 1 rfl) ?_
      refine y_iald C hw km_5 (i' := zm v1) rfl hg10 dX8_nextOf_27 ?_
      refine y_iadd C dX8_nextOf_28 ?_
      refine y_goto (tgt := 40) C dX8_nextOf_29 (by decide) ?_
      exact y_iret C hw h dX8_nextOf_40
  · rw [if_neg hc] at h
    refine y_aload_n C dX8_nextOf_41 (lv_at hl 0 rfl) ?_
    refine g8 C hw km_0 3 (by decide) wd_874 rfl dX8_nextOf_42 ?_
    refine y_iload_n C dX8_nextOf_45 (lv_at hl 1 rfl) ?_
    obtain ⟨hg46, h⟩ := gd_some h
    refine y_iald C hw km_4 (i' := zm v1) rfl hg46 dX8_nextOf_46 ?_
    refine y_aload_n C dX8_nextOf_47 (lv_at hl 0 rfl) ?_
    refine g8 C hw km_0 2 (by decide) wd_873 rfl dX8_nextOf_48 ?_
    refine y_iload_n C dX8_nextOf_51 (lv_at hl 1 rfl) ?_
    refine y_iald C hw km_3 (i' := zm v1) rfl hg46 dX8_nextOf_52 ?_
    refine y_iload_n C dX8_nextOf_53 (lv_at hl 2 rfl) ?_
    obtain ⟨x54, hc54, h⟩ := bd_some h
    refine y_ci (rest := [.int (zI (σ 4 (zm v1)))]) hw (y_rS C hw (c_X8_has  hc54) mi_X8_has wd_1067 wd_1068 rfl ⟨by decide, by decide⟩ hl rfl (Nat.le_of_ble_eq_true rfl) dX8_nextOf_54) (fun H locs hw => ?_)
    refine y_if_eq (tgt := 66) C (a' := zm x54.1) rfl dX8_nextOf_57 (by decide) (fun hc => ?_) (fun hc => ?_)
    · rw [if_pos hc] at h
      refine y_iload_n C dX8_nextOf_66 (lv_at hl 3 rfl) ?_
      exact k_X8_nextOf_67 C   hw (lv_sub hl [2] rfl) h
    · rw [if_neg hc] at h
      refine y_iload_n C dX8_nextOf_60 (lv_at hl 3 rfl) ?_
      refine y_iconst C dX8_nextOf_61 ?_
      refine y_isub C dX8_nextOf_62 ?_
      refine y_goto (tgt := 67) C dX8_nextOf_63 (by decide) ?_
      exact k_X8_nextOf_67 C   hw (lv_sub hl [2] rfl) h
theorem c_X8_nextOf {l : Launch} {D : va_G} {cA : Nat → ClassId} {adK adV : Nat → Nat} {A : Nat → Prop} {ad : Int → Nat} {R : va_W} {σ : St} {res : Int × St} {v1 : Int} {v2 : Int} {v3 : Int}  (h : p_X8_nextOf v1 v2 v3 σ = some res) : Met l yX8_nextOf (wsU yX8_nextOf cX8_nextOf 5 (some .int)) (rmU 1 21) (va_Pc [.ref (ad 0), .int (zI v1), .int (zI v2), .int (zI v3)] (Pr D cA adK adV ad kM 31 R A σ)) (QI D cA ad kM 31 R A res) 0 0 A :=
  y_met (own := RX8) (by decide) rfl _ (Nat.le_of_ble_eq_true rfl) (fun p e s m args below meth c ls C hl hw => k_X8_nextOf_0 C  hw hl h)
/-! RungHouseModel.next -/
set_option maxRecDepth 100000 in
set_option maxHeartbeats 4000000 in
theorem k_X8_next_0  {v1 : Int} {v2 : Int} {v3 : Int} (C : Cx cX8_next RX8 4 (some .int) D cA adK adV A p s m args meth c)  {σ : St} {H : Heap} {locs : List Loc} {ls : Array Slot}  (hw : At D cA ad kM 31 R A s σ H locs) (hl : lv_has ls 4 [(0, .ref (ad 0)), (1, .int (zI v1)), (2, .int (zI v2)), (3, .int (zI v3))]) (h : p_X8_next  v1 v2 v3 σ = some res) : W p l e (rmU 3 68) s m args below meth c H locs 0 0 (MQ below (QI D cA ad kM 31 R A res) args s 0 0 A) (F0 m 0 ls []) := by
  have h := h
  unfold p_X8_next at h
  refine y_aload_n C dX8_next_0 (lv_at hl 0 rfl) ?_
  refine y_iload_n C dX8_next_1 (lv_at hl 1 rfl) ?_
  refine y_iload_n C dX8_next_2 (lv_at hl 2 rfl) ?_
  obtain ⟨x3, hc3, h⟩ := bd_some h
  refine y_ci (rest := []) hw (y_rV C hw km_0 (by decide) rfl rfl (c_X8_isRung  hc3) mi_X8_isRung wd_1104 wd_1106 ws_34 rfl ⟨by decide, by decide⟩ hl rfl (Nat.le_of_ble_eq_true rfl) dX8_next_3) (fun H locs hw => ?_)
  refine y_if_ne (tgt := 12) C (a' := zm x3.1) rfl dX8_next_6 (by decide) (fun hc => ?_) (fun hc => ?_)
  · rw [if_pos hc] at h
    refine y_ldc C (z := (-1000000001)) wd_1037 (by decide) dX8_next_9 ?_
    exact y_iret C hw h dX8_next_11
  · rw [if_neg hc] at h
    refine y_iload_n C dX8_next_12 (lv_at hl 3 rfl) ?_
    refine y_i2l C rfl dX8_next_13 ?_
    refine y_lconst C (z' := 0) dX8_next_14 (by decide) ?_
    refine y_ldc2 C (z := 3) wd_1112 (by decide) dX8_next_15 ?_
    obtain ⟨x18, hc18, h⟩ := bd_some h
    refine y_ci (rest := []) hw (y_rS C hw (c_X8_within  hc18) mi_X8_within wd_1027 wd_1028 rfl ⟨by decide, by decide⟩ hl rfl (Nat.le_of_ble_eq_true rfl) dX8_next_18) (fun H locs hw => ?_)
    refine y_if_eq (tgt := 34) C (a' := zm x18.1) rfl dX8_next_21 (by decide) (fun hc => ?_) (fun hc => ?_)
    · rw [if_pos hc] at h
      refine y_ldc C (z := (-1000000002)) wd_1030 (by decide) dX8_next_34 ?_
      exact y_iret C hw h dX8_next_36
    · rw [if_neg hc] at h
      refine y_aload_n C dX8_next_24 (lv_at hl 0 rfl) ?_
      refine y_iload_n C dX8_next_25 (lv_at hl 1 rfl) ?_
      refine y_iload_n C dX8_next_26 (lv_at hl 2 rfl) ?_
      refine y_iload_n C dX8_next_27 (lv_at hl 3 rfl) ?_
      obtain ⟨x28, hc28, h⟩ := bd_some h
      refine y_ci (rest := []) hw (y_rV C hw km_0 (by decide) rfl rfl (c_X8_nextOf  hc28) mi_X8_nextOf wd_1113 wd_1115 ws_35 rfl ⟨by decide, by decide⟩ hl rfl (Nat.le_of_ble_eq_true rfl) dX8_next_28) (fun H locs hw => ?_)
      refine y_goto (tgt := 36) C dX8_next_31 (by decide) ?_
      exact y_iret C hw h dX8_next_36
theorem c_X8_next {l : Launch} {D : va_G} {cA : Nat → ClassId} {adK adV : Nat → Nat} {A : Nat → Prop} {ad : Int → Nat} {R : va_W} {σ : St} {res : Int × St} {v1 : Int} {v2 : Int} {v3 : Int}  (h : p_X8_next v1 v2 v3 σ = some res) : Met l yX8_next (wsU yX8_next cX8_next 4 (some .int)) (rmU 3 68) (va_Pc [.ref (ad 0), .int (zI v1), .int (zI v2), .int (zI v3)] (Pr D cA adK adV ad kM 31 R A σ)) (QI D cA ad kM 31 R A res) 0 0 A :=
  y_met (own := RX8) (by decide) rfl _ (Nat.le_of_ble_eq_true rfl) (fun p e s m args below meth c ls C hl hw => k_X8_next_0 C  hw hl h)
/-! RungHouseModel.takeScrape -/
set_option maxRecDepth 100000 in
set_option maxHeartbeats 4000000 in
theorem k_X8_takeScrape_136  {v3 : Int} (C : Cx cX8_takeScrape RX8 4 (some .int) D cA adK adV A p s m args meth c)  {σ : St} {H : Heap} {locs : List Loc} {ls : Array Slot}  (hw : At D cA ad kM 31 R A s σ H locs) (hl : lv_has ls 4 [(0, .ref (ad 0)), (3, .int (zI v3))]) (h : p_X8_takeScrape_136  v3 σ = some res) : W p l e (rmU 2 48) s m args below meth c H locs 0 0 (MQ below (QI D cA ad kM 31 R A res) args s 0 0 A) (F0 m 136 ls []) := by
  have h := h
  unfold p_X8_takeScrape_136 at h
  refine y_aload_n C dX8_takeScrape_136 (lv_at hl 0 rfl) ?_
  refine y_dup C dX8_takeScrape_137 rfl ?_
  refine g8 C hw km_0 22 (by decide) wd_893 rfl dX8_takeScrape_138 ?_
  refine y_aload_n C dX8_takeScrape_141 (lv_at hl 0 rfl) ?_
  refine g8 C hw km_0 19 (by decide) wd_890 rfl dX8_takeScrape_142 ?_
  refine y_iadd C dX8_takeScrape_145 ?_
  obtain ⟨σ146, eσ146, h⟩ := nx_some h
  refine q8 C hw km_0 22 (by decide) wd_893 rfl rfl rfl (by decide) ((σ 0 22) + (σ 0 19)) 22 rfl rfl dX8_takeScrape_146 (fun H locs hw => ?_)
  rw [← eσ146] at hw
  refine y_aload_n C dX8_takeScrape_149 (lv_at hl 0 rfl) ?_
  refine g8 C hw km_0 8 (by decide) wd_879 rfl dX8_takeScrape_150 ?_
  refine y_aload_n C dX8_takeScrape_153 (lv_at hl 0 rfl) ?_
  refine g8 C hw km_0 7 (by decide) wd_878 rfl dX8_takeScrape_154 ?_
  refine y_dup2 C dX8_takeScrape_157 rfl rfl ?_
  obtain ⟨hg158, h⟩ := gd_some h
  refine y_iald C hw km_8 (i' := zm (σ146 0 7)) rfl hg158 dX8_takeScrape_158 ?_
  refine y_iconst C dX8_takeScrape_159 ?_
  refine y_iadd C dX8_takeScrape_160 ?_
  obtain ⟨σ161, eσ161, h⟩ := nx_some h
  refine y_iast C hw km_8 (i' := zm (σ146 0 7)) rfl hg158 dX8_takeScrape_161 (fun H locs hw => ?_)
  rw [← eσ161] at hw
  refine y_iload_n C dX8_takeScrape_162 (lv_at hl 1 rfl) ?_
  exact y_iret C hw h dX8_takeScrape_163
set_option maxRecDepth 100000 in
set_option maxHeartbeats 4000000 in
theorem k_X8_takeScrape_96  {v2 : Int} {vs0 : Int} (C : Cx cX8_takeScrape RX8 4 (some .int) D cA adK adV A p s m args meth c)  {σ : St} {H : Heap} {locs : List Loc} {ls : Array Slot}  (hw : At D cA ad kM 31 R A s σ H locs) (hl : lv_has ls 4 [(0, .ref (ad 0)), (2, .int (zI v2))]) (h : p_X8_takeScrape_96  v2 vs0 σ = some res) : W p l e (rmU 2 48) s m args below meth c H locs 0 0 (MQ below (QI D cA ad kM 31 R A res) args s 0 0 A) (F0 m 96 ls [.int (zI vs0)]) := by
  have h := h
  unfold p_X8_takeScrape_96 at h
  refine y_istore_n (lv' := [(3, .int (zI vs0)), (0, .ref (ad 0)), (2, .int (zI v2))]) C dX8_takeScrape_96 hl (by decide) rfl (fun ls hl => ?_)
  refine y_aload_n C dX8_takeScrape_97 (lv_at hl 1 rfl) ?_
  refine g8 C hw km_0 10 (by decide) wd_881 rfl dX8_takeScrape_98 ?_
  refine y_iload_n C dX8_takeScrape_101 (lv_at hl 2 rfl) ?_
  refine y_aload_n C dX8_takeScrape_102 (lv_at hl 1 rfl) ?_
  refine g8 C hw km_0 19 (by decide) wd_890 rfl dX8_takeScrape_103 ?_
  obtain ⟨hg106, h⟩ := gd_some h
  obtain ⟨σ106, eσ106, h⟩ := nx_some h
  refine y_iast C hw km_10 (i' := zm v2) rfl hg106 dX8_takeScrape_106 (fun H locs hw => ?_)
  rw [← eσ106] at hw
  refine y_iload_n C dX8_takeScrape_107 (lv_at hl 0 rfl) ?_
  refine y_if_ne (tgt := 136) C (a' := zm vs0) rfl dX8_takeScrape_108 (by decide) (fun hc => ?_) (fun hc => ?_)
  · rw [if_pos hc] at h
    refine y_aload_n C dX8_takeScrape_111 (lv_at hl 1 rfl) ?_
    refine g8 C hw km_0 22 (by decide) wd_893 rfl dX8_takeScrape_112 ?_
    refine y_aload_n C dX8_takeScrape_115 (lv_at hl 1 rfl) ?_
    refine g8 C hw km_0 19 (by decide) wd_890 rfl dX8_takeScrape_116 ?_
    refine y_iadd C dX8_takeScrape_119 ?_
    refine y_sipush C dX8_takeScrape_120 (by decide) ?_
    refine y_icmp_le (tgt := 136) C (a' := zm ((σ106 0 22) + (σ106 0 19))) (b' := 1000) rfl (by decide) dX8_takeScrape_123 (by decide) (fun hc => ?_) (fun hc => ?_)
    · rw [if_pos hc] at h
      exact k_X8_takeScrape_136 C   hw (lv_sub hl [1, 0] rfl) h
    · rw [if_neg hc] at h
      refine y_aload_n C dX8_takeScrape_126 (lv_at hl 1 rfl) ?_
      refine y_iconst C dX8_takeScrape_127 ?_
      refine y_aload_n C dX8_takeScrape_128 (lv_at hl 1 rfl) ?_
      refine g8 C hw km_0 20 (by decide) wd_891 rfl dX8_takeScrape_129 ?_
      obtain ⟨x132, hc132, h⟩ := bd_some h
      refine y_ci (rest := []) hw (y_rV C hw km_0 (by decide) rfl rfl (c_X8_fails  hc132) mi_X8_fails wd_1070 wd_1072 ws_29 rfl ⟨by decide, by decide⟩ hl rfl (Nat.le_of_ble_eq_true rfl) dX8_takeScrape_132) (fun H locs hw => ?_)
      refine y_istore_n (lv' := [(3, .int (zI x132.1)), (0, .ref (ad 0)), (2, .int (zI v2))]) C dX8_takeScrape_135 hl (by decide) rfl (fun ls hl => ?_)
      exact k_X8_takeScrape_136 C   hw (lv_sub hl [1, 0] rfl) h
  · rw [if_neg hc] at h
    exact k_X8_takeScrape_136 C   hw (lv_sub hl [1, 0] rfl) h
set_option maxRecDepth 100000 in
set_option maxHeartbeats 4000000 in
theorem k_X8_takeScrape_63  {v2 : Int} {vs1 : Int} (C : Cx cX8_takeScrape RX8 4 (some .int) D cA adK adV A p s m args meth c)  {σ : St} {H : Heap} {locs : List Loc} {ls : Array Slot}  (hw : At D cA ad kM 31 R A s σ H locs) (hl : lv_has ls 4 [(0, .ref (ad 0)), (2, .int (zI v2))]) (h : p_X8_takeScrape_63  v2 vs1 σ = some res) : W p l e (rmU 2 48) s m args below meth c H locs 0 0 (MQ below (QI D cA ad kM 31 R A res) args s 0 0 A) (F0 m 63 ls [.int (zI vs1), .ref (ad 0)]) := by
  have h := h
  unfold p_X8_takeScrape_63 at h
  refine y_sipush C dX8_takeScrape_63 (by decide) ?_
  obtain ⟨x66, hc66, h⟩ := bd_some h
  refine y_ci (rest := []) hw (y_rV C hw km_0 (by decide) rfl rfl (c_X8_takeNumber  hc66) mi_X8_takeNumber wd_1074 wd_1076 ws_30 rfl ⟨by decide, by decide⟩ hl rfl (Nat.le_of_ble_eq_true rfl) dX8_takeScrape_66) (fun H locs hw => ?_)
  refine y_istore_n (lv' := [(3, .int (zI x66.1)), (0, .ref (ad 0)), (2, .int (zI v2))]) C dX8_takeScrape_69 hl (by decide) rfl (fun ls hl => ?_)
  refine y_aload_n C dX8_takeScrape_70 (lv_at hl 1 rfl) ?_
  refine g8 C hw km_0 9 (by decide) wd_880 rfl dX8_takeScrape_71 ?_
  refine y_iload_n C dX8_takeScrape_74 (lv_at hl 2 rfl) ?_
  refine y_aload_n C dX8_takeScrape_75 (lv_at hl 1 rfl) ?_
  refine g8 C hw km_0 19 (by decide) wd_890 rfl dX8_takeScrape_76 ?_
  obtain ⟨hg79, h⟩ := gd_some h
  obtain ⟨σ79, eσ79, h⟩ := nx_some h
  refine y_iast C hw km_9 (i' := zm v2) rfl hg79 dX8_takeScrape_79 (fun H locs hw => ?_)
  rw [← eσ79] at hw
  refine y_iload_n C dX8_takeScrape_80 (lv_at hl 0 rfl) ?_
  refine y_if_le (tgt := 88) C (a' := zm x66.1) rfl dX8_takeScrape_81 (by decide) (fun hc => ?_) (fun hc => ?_)
  · rw [if_pos hc] at h
    refine y_aload_n C dX8_takeScrape_88 (lv_at hl 1 rfl) ?_
    refine y_iconst C dX8_takeScrape_89 ?_
    refine y_sipush C dX8_takeScrape_90 (by decide) ?_
    obtain ⟨x93, hc93, h⟩ := bd_some h
    refine y_ci (rest := []) hw (y_rV C hw km_0 (by decide) rfl rfl (c_X8_takeNumber  hc93) mi_X8_takeNumber wd_1074 wd_1076 ws_30 rfl ⟨by decide, by decide⟩ hl rfl (Nat.le_of_ble_eq_true rfl) dX8_takeScrape_93) (fun H locs hw => ?_)
    exact k_X8_takeScrape_96 C   hw (lv_sub hl [1, 2] rfl) h
  · rw [if_neg hc] at h
    refine y_iload_n C dX8_takeScrape_84 (lv_at hl 0 rfl) ?_
    refine y_goto (tgt := 96) C dX8_takeScrape_85 (by decide) ?_
    exact k_X8_takeScrape_96 C   hw (lv_sub hl [1, 2] rfl) h
set_option maxRecDepth 100000 in
set_option maxHeartbeats 4000000 in
theorem k_X8_takeScrape_0   (C : Cx cX8_takeScrape RX8 4 (some .int) D cA adK adV A p s m args meth c)  {σ : St} {H : Heap} {locs : List Loc} {ls : Array Slot}  (hw : At D cA ad kM 31 R A s σ H locs) (hl : lv_has ls 4 [(0, .ref (ad 0))]) (h : p_X8_takeScrape   σ = some res) : W p l e (rmU 2 48) s m args below meth c H locs 0 0 (MQ below (QI D cA ad kM 31 R A res) args s 0 0 A) (F0 m 0 ls []) := by
  have h := h
  unfold p_X8_takeScrape at h
  refine y_aload_n C dX8_takeScrape_0 (lv_at hl 0 rfl) ?_
  refine g8 C hw km_0 8 (by decide) wd_879 rfl dX8_takeScrape_1 ?_
  refine y_aload_n C dX8_takeScrape_4 (lv_at hl 0 rfl) ?_
  refine g8 C hw km_0 7 (by decide) wd_878 rfl dX8_takeScrape_5 ?_
  obtain ⟨hg8, h⟩ := gd_some h
  refine y_iald C hw km_8 (i' := zm (σ 0 7)) rfl hg8 dX8_takeScrape_8 ?_
  refine y_istore_n (lv' := [(1, .int (zI (σ 8 (zm (σ 0 7))))), (0, .ref (ad 0))]) C dX8_takeScrape_9 hl (by decide) rfl (fun ls hl => ?_)
  refine y_iload_n C dX8_takeScrape_10 (lv_at hl 0 rfl) ?_
  refine y_bipush C dX8_takeScrape_11 (by decide) ?_
  refine y_icmp_ne (tgt := 26) C (a' := zm (σ 8 (zm (σ 0 7)))) (b' := 8) rfl (by decide) dX8_takeScrape_13 (by decide) (fun hc => ?_) (fun hc => ?_)
  · rw [if_pos hc] at h
    refine y_aload_n C dX8_takeScrape_16 (lv_at hl 1 rfl) ?_
    refine y_iconst C dX8_takeScrape_17 ?_
    refine y_aload_n C dX8_takeScrape_18 (lv_at hl 1 rfl) ?_
    refine g8 C hw km_0 16 (by decide) wd_887 rfl dX8_takeScrape_19 ?_
    obtain ⟨x22, hc22, h⟩ := bd_some h
    refine y_ci (rest := []) hw (y_rV C hw km_0 (by decide) rfl rfl (c_X8_fails  hc22) mi_X8_fails wd_1070 wd_1072 ws_29 rfl ⟨by decide, by decide⟩ hl rfl (Nat.le_of_ble_eq_true rfl) dX8_takeScrape_22) (fun H locs hw => ?_)
    exact y_iret C hw h dX8_takeScrape_25
  · rw [if_neg hc] at h
    refine y_aload_n C dX8_takeScrape_26 (lv_at hl 1 rfl) ?_
    refine y_aload_n C dX8_takeScrape_27 (lv_at hl 1 rfl) ?_
    refine g8 C hw km_0 18 (by decide) wd_889 rfl dX8_takeScrape_28 ?_
    obtain ⟨σ31, eσ31, h⟩ := nx_some h
    refine q8 C hw km_0 16 (by decide) wd_887 rfl rfl rfl (by decide) (σ 0 18) 16 rfl rfl dX8_takeScrape_31 (fun H locs hw => ?_)
    rw [← eσ31] at hw
    refine y_bipush C dX8_takeScrape_34 (by decide) ?_
    refine y_aload_n C dX8_takeScrape_36 (lv_at hl 1 rfl) ?_
    refine g8 C hw km_0 7 (by decide) wd_878 rfl dX8_takeScrape_37 ?_
    refine y_imul C dX8_takeScrape_40 ?_
    refine y_iload_n C dX8_takeScrape_41 (lv_at hl 0 rfl) ?_
    refine y_iadd C dX8_takeScrape_42 ?_
    refine y_istore_n (lv' := [(2, .int (zI ((8 * (σ31 0 7)) + (σ 8 (zm (σ 0 7)))))), (1, .int (zI (σ 8 (zm (σ 0 7))))), (0, .ref (ad 0))]) C dX8_takeScrape_43 hl (by decide) rfl (fun ls hl => ?_)
    refine y_aload_n C dX8_takeScrape_44 (lv_at hl 2 rfl) ?_
    refine y_iload_n C dX8_takeScrape_45 (lv_at hl 1 rfl) ?_
    refine y_if_ne (tgt := 53) C (a' := zm (σ 8 (zm (σ 0 7)))) rfl dX8_takeScrape_46 (by decide) (fun hc => ?_) (fun hc => ?_)
    · rw [if_pos hc] at h
      refine y_iconst C dX8_takeScrape_49 ?_
      refine y_goto (tgt := 63) C dX8_takeScrape_50 (by decide) ?_
      exact k_X8_takeScrape_63 C   hw (lv_sub hl [2, 0] rfl) h
    · rw [if_neg hc] at h
      refine y_aload_n C dX8_takeScrape_53 (lv_at hl 2 rfl) ?_
      refine g8 C hw km_0 9 (by decide) wd_880 rfl dX8_takeScrape_54 ?_
      refine y_iload_n C dX8_takeScrape_57 (lv_at hl 0 rfl) ?_
      refine y_iconst C dX8_takeScrape_58 ?_
      refine y_isub C dX8_takeScrape_59 ?_
      obtain ⟨hg60, h⟩ := gd_some h
      refine y_iald C hw km_9 (i' := zm (((8 * (σ31 0 7)) + (σ 8 (zm (σ 0 7)))) - 1)) rfl hg60 dX8_takeScrape_60 ?_
      refine y_iconst C dX8_takeScrape_61 ?_
      refine y_iadd C dX8_takeScrape_62 ?_
      exact k_X8_takeScrape_63 C   hw (lv_sub hl [2, 0] rfl) h
theorem c_X8_takeScrape {l : Launch} {D : va_G} {cA : Nat → ClassId} {adK adV : Nat → Nat} {A : Nat → Prop} {ad : Int → Nat} {R : va_W} {σ : St} {res : Int × St}   (h : p_X8_takeScrape  σ = some res) : Met l yX8_takeScrape (wsU yX8_takeScrape cX8_takeScrape 4 (some .int)) (rmU 2 48) (va_Pc [.ref (ad 0)] (Pr D cA adK adV ad kM 31 R A σ)) (QI D cA ad kM 31 R A res) 0 0 A :=
  y_met (own := RX8) (by decide) rfl _ (Nat.le_of_ble_eq_true rfl) (fun p e s m args below meth c ls C hl hw => k_X8_takeScrape_0 C  hw hl h)
/-! RungHouseModel.takePains -/
set_option maxRecDepth 100000 in
set_option maxHeartbeats 4000000 in
theorem k_X8_takePains_67  {vs0 : Int} (C : Cx cX8_takePains RX8 2 (some .int) D cA adK adV A p s m args meth c)  {σ : St} {H : Heap} {locs : List Loc} {ls : Array Slot}  (hw : At D cA ad kM 31 R A s σ H locs) (hl : lv_has ls 2 [(0, .ref (ad 0))]) (h : p_X8_takePains_67  vs0 σ = some res) : W p l e (rmU 2 48) s m args below meth c H locs 0 0 (MQ below (QI D cA ad kM 31 R A res) args s 0 0 A) (F0 m 67 ls [.int (zI vs0)]) := by
  have h := h
  unfold p_X8_takePains_67 at h
  refine y_istore_n (lv' := [(1, .int (zI vs0)), (0, .ref (ad 0))]) C dX8_takePains_67 hl (by decide) rfl (fun ls hl => ?_)
  refine y_aload_n C dX8_takePains_68 (lv_at hl 1 rfl) ?_
  refine g8 C hw km_0 12 (by decide) wd_883 rfl dX8_takePains_69 ?_
  refine y_aload_n C dX8_takePains_72 (lv_at hl 1 rfl) ?_
  refine g8 C hw km_0 7 (by decide) wd_878 rfl dX8_takePains_73 ?_
  refine y_aload_n C dX8_takePains_76 (lv_at hl 1 rfl) ?_
  refine g8 C hw km_0 19 (by decide) wd_890 rfl dX8_takePains_77 ?_
  obtain ⟨hg80, h⟩ := gd_some h
  obtain ⟨σ80, eσ80, h⟩ := nx_some h
  refine y_iast C hw km_12 (i' := zm (σ 0 7)) rfl hg80 dX8_takePains_80 (fun H locs hw => ?_)
  rw [← eσ80] at hw
  refine y_iload_n C dX8_takePains_81 (lv_at hl 0 rfl) ?_
  exact y_iret C hw h dX8_takePains_82
set_option maxRecDepth 100000 in
set_option maxHeartbeats 4000000 in
theorem k_X8_takePains_0   (C : Cx cX8_takePains RX8 2 (some .int) D cA adK adV A p s m args meth c)  {σ : St} {H : Heap} {locs : List Loc} {ls : Array Slot}  (hw : At D cA ad kM 31 R A s σ H locs) (hl : lv_has ls 2 [(0, .ref (ad 0))]) (h : p_X8_takePains   σ = some res) : W p l e (rmU 2 48) s m args below meth c H locs 0 0 (MQ below (QI D cA ad kM 31 R A res) args s 0 0 A) (F0 m 0 ls []) := by
  have h := h
  unfold p_X8_takePains at h
  refine y_aload_n C dX8_takePains_0 (lv_at hl 0 rfl) ?_
  refine g8 C hw km_0 11 (by decide) wd_882 rfl dX8_takePains_1 ?_
  refine y_aload_n C dX8_takePains_4 (lv_at hl 0 rfl) ?_
  refine g8 C hw km_0 7 (by decide) wd_878 rfl dX8_takePains_5 ?_
  obtain ⟨hg8, h⟩ := gd_some h
  refine y_iald C hw km_11 (i' := zm (σ 0 7)) rfl hg8 dX8_takePains_8 ?_
  refine y_if_lt (tgt := 22) C (a' := zm (σ 11 (zm (σ 0 7)))) rfl dX8_takePains_9 (by decide) (fun hc => ?_) (fun hc => ?_)
  · rw [if_pos hc] at h
    refine y_aload_n C dX8_takePains_22 (lv_at hl 0 rfl) ?_
    refine y_aload_n C dX8_takePains_23 (lv_at hl 0 rfl) ?_
    refine g8 C hw km_0 18 (by decide) wd_889 rfl dX8_takePains_24 ?_
    obtain ⟨σ27, eσ27, h⟩ := nx_some h
    refine q8 C hw km_0 16 (by decide) wd_887 rfl rfl rfl (by decide) (σ 0 18) 16 rfl rfl dX8_takePains_27 (fun H locs hw => ?_)
    rw [← eσ27] at hw
    refine y_aload_n C dX8_takePains_30 (lv_at hl 0 rfl) ?_
    refine y_iconst C dX8_takePains_31 ?_
    refine y_sipush C dX8_takePains_32 (by decide) ?_
    obtain ⟨x35, hc35, h⟩ := bd_some h
    refine y_ci (rest := []) hw (y_rV C hw km_0 (by decide) rfl rfl (c_X8_takeNumber  hc35) mi_X8_takeNumber wd_1074 wd_1076 ws_30 rfl ⟨by decide, by decide⟩ hl rfl (Nat.le_of_ble_eq_true rfl) dX8_takePains_35) (fun H locs hw => ?_)
    refine y_istore_n (lv' := [(1, .int (zI x35.1)), (0, .ref (ad 0))]) C dX8_takePains_38 hl (by decide) rfl (fun ls hl => ?_)
    refine y_aload_n C dX8_takePains_39 (lv_at hl 1 rfl) ?_
    refine g8 C hw km_0 11 (by decide) wd_882 rfl dX8_takePains_40 ?_
    refine y_aload_n C dX8_takePains_43 (lv_at hl 1 rfl) ?_
    refine g8 C hw km_0 7 (by decide) wd_878 rfl dX8_takePains_44 ?_
    refine y_aload_n C dX8_takePains_47 (lv_at hl 1 rfl) ?_
    refine g8 C hw km_0 19 (by decide) wd_890 rfl dX8_takePains_48 ?_
    obtain ⟨hg51, h⟩ := gd_some h
    obtain ⟨σ51, eσ51, h⟩ := nx_some h
    refine y_iast C hw km_11 (i' := zm (x35.2 0 7)) rfl hg51 dX8_takePains_51 (fun H locs hw => ?_)
    rw [← eσ51] at hw
    refine y_iload_n C dX8_takePains_52 (lv_at hl 0 rfl) ?_
    refine y_if_le (tgt := 60) C (a' := zm x35.1) rfl dX8_takePains_53 (by decide) (fun hc => ?_) (fun hc => ?_)
    · rw [if_pos hc] at h
      refine y_aload_n C dX8_takePains_60 (lv_at hl 1 rfl) ?_
      refine y_iconst C dX8_takePains_61 ?_
      refine y_bipush C dX8_takePains_62 (by decide) ?_
      obtain ⟨x64, hc64, h⟩ := bd_some h
      refine y_ci (rest := []) hw (y_rV C hw km_0 (by decide) rfl rfl (c_X8_takeNumber  hc64) mi_X8_takeNumber wd_1074 wd_1076 ws_30 rfl ⟨by decide, by decide⟩ hl rfl (Nat.le_of_ble_eq_true rfl) dX8_takePains_64) (fun H locs hw => ?_)
      exact k_X8_takePains_67 C   hw (lv_sub hl [1] rfl) h
    · rw [if_neg hc] at h
      refine y_iload_n C dX8_takePains_56 (lv_at hl 0 rfl) ?_
      refine y_goto (tgt := 67) C dX8_takePains_57 (by decide) ?_
      exact k_X8_takePains_67 C   hw (lv_sub hl [1] rfl) h
  · rw [if_neg hc] at h
    refine y_aload_n C dX8_takePains_12 (lv_at hl 0 rfl) ?_
    refine y_iconst C dX8_takePains_13 ?_
    refine y_aload_n C dX8_takePains_14 (lv_at hl 0 rfl) ?_
    refine g8 C hw km_0 16 (by decide) wd_887 rfl dX8_takePains_15 ?_
    obtain ⟨x18, hc18, h⟩ := bd_some h
    refine y_ci (rest := []) hw (y_rV C hw km_0 (by decide) rfl rfl (c_X8_fails  hc18) mi_X8_fails wd_1070 wd_1072 ws_29 rfl ⟨by decide, by decide⟩ hl rfl (Nat.le_of_ble_eq_true rfl) dX8_takePains_18) (fun H locs hw => ?_)
    exact y_iret C hw h dX8_takePains_21
theorem c_X8_takePains {l : Launch} {D : va_G} {cA : Nat → ClassId} {adK adV : Nat → Nat} {A : Nat → Prop} {ad : Int → Nat} {R : va_W} {σ : St} {res : Int × St}   (h : p_X8_takePains  σ = some res) : Met l yX8_takePains (wsU yX8_takePains cX8_takePains 2 (some .int)) (rmU 2 48) (va_Pc [.ref (ad 0)] (Pr D cA adK adV ad kM 31 R A σ)) (QI D cA ad kM 31 R A res) 0 0 A :=
  y_met (own := RX8) (by decide) rfl _ (Nat.le_of_ble_eq_true rfl) (fun p e s m args below meth c ls C hl hw => k_X8_takePains_0 C  hw hl h)
/-! RungHouseModel.takeSort -/
set_option maxRecDepth 100000 in
set_option maxHeartbeats 4000000 in
theorem k_X8_takeSort_92  {vs0 : Int} (C : Cx cX8_takeSort RX8 3 (some .int) D cA adK adV A p s m args meth c)  {σ : St} {H : Heap} {locs : List Loc} {ls : Array Slot}  (hw : At D cA ad kM 31 R A s σ H locs) (hl : lv_has ls 3 [(0, .ref (ad 0))]) (h : p_X8_takeSort_92  vs0 σ = some res) : W p l e (rmU 3 71) s m args below meth c H locs 0 0 (MQ below (QI D cA ad kM 31 R A res) args s 0 0 A) (F0 m 92 ls [.int (zI vs0)]) := by
  have h := h
  unfold p_X8_takeSort_92 at h
  refine y_istore_n (lv' := [(2, .int (zI vs0)), (0, .ref (ad 0))]) C dX8_takeSort_92 hl (by decide) rfl (fun ls hl => ?_)
  refine y_iload_n C dX8_takeSort_93 (lv_at hl 0 rfl) ?_
  refine y_if_le (tgt := 101) C (a' := zm vs0) rfl dX8_takeSort_94 (by decide) (fun hc => ?_) (fun hc => ?_)
  · rw [if_pos hc] at h
    refine y_aload_n C dX8_takeSort_101 (lv_at hl 1 rfl) ?_
    obtain ⟨x102, hc102, h⟩ := bd_some h
    refine y_ci (rest := []) hw (y_rV C hw km_0 (by decide) rfl rfl (c_X8_takeStop  hc102) mi_X8_takeStop wd_1080 wd_1082 ws_31 rfl ⟨by decide, by decide⟩ hl rfl (Nat.le_of_ble_eq_true rfl) dX8_takeSort_102) (fun H locs hw => ?_)
    exact y_iret C hw h dX8_takeSort_105
  · rw [if_neg hc] at h
    refine y_iload_n C dX8_takeSort_97 (lv_at hl 0 rfl) ?_
    refine y_goto (tgt := 105) C dX8_takeSort_98 (by decide) ?_
    exact y_iret C hw h dX8_takeSort_105
set_option maxRecDepth 100000 in
set_option maxHeartbeats 4000000 in
theorem k_X8_takeSort_77  {v1 : Int} (C : Cx cX8_takeSort RX8 3 (some .int) D cA adK adV A p s m args meth c)  {σ : St} {H : Heap} {locs : List Loc} {ls : Array Slot}  (hw : At D cA ad kM 31 R A s σ H locs) (hl : lv_has ls 3 [(0, .ref (ad 0)), (1, .int (zI v1))]) (h : p_X8_takeSort_77  v1 σ = some res) : W p l e (rmU 3 71) s m args below meth c H locs 0 0 (MQ below (QI D cA ad kM 31 R A res) args s 0 0 A) (F0 m 77 ls []) := by
  have h := h
  unfold p_X8_takeSort_77 at h
  refine y_iload_n C dX8_takeSort_77 (lv_at hl 1 rfl) ?_
  refine y_if_eq (tgt := 88) C (a' := zm v1) rfl dX8_takeSort_78 (by decide) (fun hc => ?_) (fun hc => ?_)
  · rw [if_pos hc] at h
    refine y_aload_n C dX8_takeSort_88 (lv_at hl 0 rfl) ?_
    obtain ⟨x89, hc89, h⟩ := bd_some h
    refine y_ci (rest := []) hw (y_rV C hw km_0 (by decide) rfl rfl (c_X8_takePains  hc89) mi_X8_takePains wd_1130 wd_1132 ws_38 rfl ⟨by decide, by decide⟩ hl rfl (Nat.le_of_ble_eq_true rfl) dX8_takeSort_89) (fun H locs hw => ?_)
    exact k_X8_takeSort_92 C   hw (lv_sub hl [0] rfl) h
  · rw [if_neg hc] at h
    refine y_aload_n C dX8_takeSort_81 (lv_at hl 0 rfl) ?_
    obtain ⟨x82, hc82, h⟩ := bd_some h
    refine y_ci (rest := []) hw (y_rV C hw km_0 (by decide) rfl rfl (c_X8_takeScrape  hc82) mi_X8_takeScrape wd_1126 wd_1128 ws_37 rfl ⟨by decide, by decide⟩ hl rfl (Nat.le_of_ble_eq_true rfl) dX8_takeSort_82) (fun H locs hw => ?_)
    refine y_goto (tgt := 92) C dX8_takeSort_85 (by decide) ?_
    exact k_X8_takeSort_92 C   hw (lv_sub hl [0] rfl) h
set_option maxRecDepth 100000 in
set_option maxHeartbeats 4000000 in
theorem k_X8_takeSort_38  {vs0 : Int} (C : Cx cX8_takeSort RX8 3 (some .int) D cA adK adV A p s m args meth c)  {σ : St} {H : Heap} {locs : List Loc} {ls : Array Slot}  (hw : At D cA ad kM 31 R A s σ H locs) (hl : lv_has ls 3 [(0, .ref (ad 0))]) (h : p_X8_takeSort_38  vs0 σ = some res) : W p l e (rmU 3 71) s m args below meth c H locs 0 0 (MQ below (QI D cA ad kM 31 R A res) args s 0 0 A) (F0 m 38 ls [.int (zI vs0)]) := by
  have h := h
  unfold p_X8_takeSort_38 at h
  refine y_istore_n (lv' := [(1, .int (zI vs0)), (0, .ref (ad 0))]) C dX8_takeSort_38 hl (by decide) rfl (fun ls hl => ?_)
  refine y_iload_n C dX8_takeSort_39 (lv_at hl 0 rfl) ?_
  refine y_if_ne (tgt := 77) C (a' := zm vs0) rfl dX8_takeSort_40 (by decide) (fun hc => ?_) (fun hc => ?_)
  · rw [if_pos hc] at h
    refine y_aload_n C dX8_takeSort_43 (lv_at hl 1 rfl) ?_
    refine g8 C hw km_0 17 (by decide) wd_888 rfl dX8_takeSort_44 ?_
    refine y_bipush C dX8_takeSort_47 (by decide) ?_
    refine y_bipush C dX8_takeSort_49 (by decide) ?_
    refine y_bipush C dX8_takeSort_51 (by decide) ?_
    refine y_bipush C dX8_takeSort_53 (by decide) ?_
    obtain ⟨x55, hc55, h⟩ := bd_some h
    refine y_cl (rest := [.long (zJ (σ 0 17))]) hw (y_rS C hw (c_X8_code  hc55) mi_X8_code wd_1061 wd_1062 rfl ⟨by decide, by decide⟩ hl rfl (Nat.le_of_ble_eq_true rfl) dX8_takeSort_55) (fun H locs hw => ?_)
    refine y_bipush C dX8_takeSort_58 (by decide) ?_
    obtain ⟨x60, hc60, h⟩ := bd_some h
    refine y_cl (rest := [.long (zJ (σ 0 17))]) hw (y_rS C hw (c_X8_longer  hc60) mi_X8_longer wd_1064 wd_1065 rfl ⟨by decide, by decide⟩ hl rfl (Nat.le_of_ble_eq_true rfl) dX8_takeSort_60) (fun H locs hw => ?_)
    refine y_lcmp C dX8_takeSort_63 ?_
    refine y_if_eq (tgt := 77) C (a' := zm (zcmp (σ 0 17) x60.1)) rfl dX8_takeSort_64 (by decide) (fun hc => ?_) (fun hc => ?_)
    · rw [if_pos hc] at h
      exact k_X8_takeSort_77 C   hw (lv_sub hl [1, 0] rfl) h
    · rw [if_neg hc] at h
      refine y_aload_n C dX8_takeSort_67 (lv_at hl 1 rfl) ?_
      refine y_iconst C dX8_takeSort_68 ?_
      refine y_aload_n C dX8_takeSort_69 (lv_at hl 1 rfl) ?_
      refine g8 C hw km_0 16 (by decide) wd_887 rfl dX8_takeSort_70 ?_
      obtain ⟨x73, hc73, h⟩ := bd_some h
      refine y_ci (rest := []) hw (y_rV C hw km_0 (by decide) rfl rfl (c_X8_fails  hc73) mi_X8_fails wd_1070 wd_1072 ws_29 rfl ⟨by decide, by decide⟩ hl rfl (Nat.le_of_ble_eq_true rfl) dX8_takeSort_73) (fun H locs hw => ?_)
      exact y_iret C hw h dX8_takeSort_76
  · rw [if_neg hc] at h
    exact k_X8_takeSort_77 C   hw (lv_sub hl [1, 0] rfl) h
set_option maxRecDepth 100000 in
set_option maxHeartbeats 4000000 in
theorem k_X8_takeSort_0   (C : Cx cX8_takeSort RX8 3 (some .int) D cA adK adV A p s m args meth c)  {σ : St} {H : Heap} {locs : List Loc} {ls : Array Slot}  (hw : At D cA ad kM 31 R A s σ H locs) (hl : lv_has ls 3 [(0, .ref (ad 0))]) (h : p_X8_takeSort   σ = some res) : W p l e (rmU 3 71) s m args below meth c H locs 0 0 (MQ below (QI D cA ad kM 31 R A res) args s 0 0 A) (F0 m 0 ls []) := by
  have h := h
  unfold p_X8_takeSort at h
  refine y_aload_n C dX8_takeSort_0 (lv_at hl 0 rfl) ?_
  obtain ⟨x1, hc1, h⟩ := bd_some h
  refine y_cv (rest := []) hw (y_rV C hw km_0 (by decide) rfl rfl (c_X8_readWord  hc1) mi_X8_readWord wd_1046 wd_1048 ws_27 rfl ⟨by decide, by decide⟩ hl rfl (Nat.le_of_ble_eq_true rfl) dX8_takeSort_1) (fun H locs hw => ?_)
  refine y_aload_n C dX8_takeSort_4 (lv_at hl 0 rfl) ?_
  refine g8 C hw km_0 17 (by decide) wd_888 rfl dX8_takeSort_5 ?_
  refine y_bipush C dX8_takeSort_8 (by decide) ?_
  refine y_bipush C dX8_takeSort_10 (by decide) ?_
  refine y_bipush C dX8_takeSort_12 (by decide) ?_
  refine y_bipush C dX8_takeSort_14 (by decide) ?_
  obtain ⟨x16, hc16, h⟩ := bd_some h
  refine y_cl (rest := [.long (zJ (x1.2 0 17))]) hw (y_rS C hw (c_X8_code  hc16) mi_X8_code wd_1061 wd_1062 rfl ⟨by decide, by decide⟩ hl rfl (Nat.le_of_ble_eq_true rfl) dX8_takeSort_16) (fun H locs hw => ?_)
  refine y_bipush C dX8_takeSort_19 (by decide) ?_
  obtain ⟨x21, hc21, h⟩ := bd_some h
  refine y_cl (rest := [.long (zJ (x1.2 0 17))]) hw (y_rS C hw (c_X8_longer  hc21) mi_X8_longer wd_1064 wd_1065 rfl ⟨by decide, by decide⟩ hl rfl (Nat.le_of_ble_eq_true rfl) dX8_takeSort_21) (fun H locs hw => ?_)
  refine y_bipush C dX8_takeSort_24 (by decide) ?_
  obtain ⟨x26, hc26, h⟩ := bd_some h
  refine y_cl (rest := [.long (zJ (x1.2 0 17))]) hw (y_rS C hw (c_X8_longer  hc26) mi_X8_longer wd_1064 wd_1065 rfl ⟨by decide, by decide⟩ hl rfl (Nat.le_of_ble_eq_true rfl) dX8_takeSort_26) (fun H locs hw => ?_)
  refine y_lcmp C dX8_takeSort_29 ?_
  refine y_if_ne (tgt := 37) C (a' := zm (zcmp (x1.2 0 17) x26.1)) rfl dX8_takeSort_30 (by decide) (fun hc => ?_) (fun hc => ?_)
  · rw [if_pos hc] at h
    refine y_iconst C dX8_takeSort_33 ?_
    refine y_goto (tgt := 38) C dX8_takeSort_34 (by decide) ?_
    exact k_X8_takeSort_38 C   hw hl h
  · rw [if_neg hc] at h
    refine y_iconst C dX8_takeSort_37 ?_
    exact k_X8_takeSort_38 C   hw hl h
theorem c_X8_takeSort {l : Launch} {D : va_G} {cA : Nat → ClassId} {adK adV : Nat → Nat} {A : Nat → Prop} {ad : Int → Nat} {R : va_W} {σ : St} {res : Int × St}   (h : p_X8_takeSort  σ = some res) : Met l yX8_takeSort (wsU yX8_takeSort cX8_takeSort 3 (some .int)) (rmU 3 71) (va_Pc [.ref (ad 0)] (Pr D cA adK adV ad kM 31 R A σ)) (QI D cA ad kM 31 R A res) 0 0 A :=
  y_met (own := RX8) (by decide) rfl _ (Nat.le_of_ble_eq_true rfl) (fun p e s m args below meth c ls C hl hw => k_X8_takeSort_0 C  hw hl h)
/-! RungHouseModel.sort -/
set_option maxRecDepth 100000 in
set_option maxHeartbeats 4000000 in
theorem k_X8_sort_119  {vs0 : Int} (C : Cx cX8_sort RX8 2 (some .int) D cA adK adV A p s m args meth c)  {σ : St} {H : Heap} {locs : List Loc} {ls : Array Slot}  (hw : At D cA ad kM 31 R A s σ H locs) (hl : lv_has ls 2 [(0, .ref (ad 0))]) (h : p_X8_sort_119  vs0 σ = some res) : W p l e (rmU 4 93) s m args below meth c H locs 0 0 (MQ below (QI D cA ad kM 31 R A res) args s 0 0 A) (F0 m 119 ls [.int (zI vs0)]) := by
  have h := h
  unfold p_X8_sort_119 at h
  refine y_istore_n (lv' := [(1, .int (zI vs0)), (0, .ref (ad 0))]) C dX8_sort_119 hl (by decide) rfl (fun ls hl => ?_)
  refine y_aload_n C dX8_sort_120 (lv_at hl 1 rfl) ?_
  refine y_iconst C dX8_sort_121 ?_
  obtain ⟨σ122, eσ122, h⟩ := nx_some h
  refine q8 C hw km_0 14 (by decide) wd_885 rfl rfl rfl (by decide) 0 14 rfl rfl dX8_sort_122 (fun H locs hw => ?_)
  rw [← eσ122] at hw
  refine y_iload_n C dX8_sort_125 (lv_at hl 0 rfl) ?_
  refine y_if_le (tgt := 134) C (a' := zm vs0) rfl dX8_sort_126 (by decide) (fun hc => ?_) (fun hc => ?_)
  · rw [if_pos hc] at h
    refine y_aload_n C dX8_sort_134 (lv_at hl 1 rfl) ?_
    refine y_dup C dX8_sort_135 rfl ?_
    refine g8 C hw km_0 7 (by decide) wd_878 rfl dX8_sort_136 ?_
    refine y_iconst C dX8_sort_139 ?_
    refine y_iadd C dX8_sort_140 ?_
    obtain ⟨σ141, eσ141, h⟩ := nx_some h
    refine q8 C hw km_0 7 (by decide) wd_878 rfl rfl rfl (by decide) ((σ122 0 7) + 1) 7 rfl rfl dX8_sort_141 (fun H locs hw => ?_)
    rw [← eσ141] at hw
    refine y_aload_n C dX8_sort_144 (lv_at hl 1 rfl) ?_
    refine g8 C hw km_0 7 (by decide) wd_878 rfl dX8_sort_145 ?_
    refine y_iconst C dX8_sort_148 ?_
    refine y_isub C dX8_sort_149 ?_
    exact y_iret C hw h dX8_sort_150
  · rw [if_neg hc] at h
    refine y_bipush C dX8_sort_129 (by decide) ?_
    refine y_iload_n C dX8_sort_131 (lv_at hl 0 rfl) ?_
    refine y_isub C dX8_sort_132 ?_
    exact y_iret C hw h dX8_sort_133
set_option maxRecDepth 100000 in
set_option maxHeartbeats 4000000 in
theorem k_X8_sort_118  {v1 : Int} (C : Cx cX8_sort RX8 2 (some .int) D cA adK adV A p s m args meth c)  {σ : St} {H : Heap} {locs : List Loc} {ls : Array Slot}  (hw : At D cA ad kM 31 R A s σ H locs) (hl : lv_has ls 2 [(0, .ref (ad 0)), (1, .int (zI v1))]) (h : p_X8_sort_118  v1 σ = some res) : W p l e (rmU 4 93) s m args below meth c H locs 0 0 (MQ below (QI D cA ad kM 31 R A res) args s 0 0 A) (F0 m 118 ls []) := by
  have h := h
  unfold p_X8_sort_118 at h
  refine y_iload_n C dX8_sort_118 (lv_at hl 1 rfl) ?_
  exact k_X8_sort_119 C   hw (lv_sub hl [0] rfl) h
set_option maxRecDepth 100000 in
set_option maxHeartbeats 4000000 in
theorem k_X8_sort_90  {v1 : Int} (C : Cx cX8_sort RX8 2 (some .int) D cA adK adV A p s m args meth c)  {σ : St} {H : Heap} {locs : List Loc} {ls : Array Slot}  (hw : At D cA ad kM 31 R A s σ H locs) (hl : lv_has ls 2 [(0, .ref (ad 0)), (1, .int (zI v1))]) (h : p_X8_sort_90  v1 σ = some res) : W p l e (rmU 4 93) s m args below meth c H locs 0 0 (MQ below (QI D cA ad kM 31 R A res) args s 0 0 A) (F0 m 90 ls []) := by
  have h := h
  unfold p_X8_sort_90 at h
  refine y_iload_n C dX8_sort_90 (lv_at hl 1 rfl) ?_
  refine y_if_ne (tgt := 118) C (a' := zm v1) rfl dX8_sort_91 (by decide) (fun hc => ?_) (fun hc => ?_)
  · rw [if_pos hc] at h
    refine y_aload_n C dX8_sort_94 (lv_at hl 0 rfl) ?_
    refine g8 C hw km_0 8 (by decide) wd_879 rfl dX8_sort_95 ?_
    refine y_aload_n C dX8_sort_98 (lv_at hl 0 rfl) ?_
    refine g8 C hw km_0 7 (by decide) wd_878 rfl dX8_sort_99 ?_
    obtain ⟨hg102, h⟩ := gd_some h
    refine y_iald C hw km_8 (i' := zm (σ 0 7)) rfl hg102 dX8_sort_102 ?_
    refine y_if_ne (tgt := 118) C (a' := zm (σ 8 (zm (σ 0 7)))) rfl dX8_sort_103 (by decide) (fun hc => ?_) (fun hc => ?_)
    · rw [if_pos hc] at h
      refine y_aload_n C dX8_sort_106 (lv_at hl 0 rfl) ?_
      refine y_iconst C dX8_sort_107 ?_
      refine y_aload_n C dX8_sort_108 (lv_at hl 0 rfl) ?_
      refine g8 C hw km_0 14 (by decide) wd_885 rfl dX8_sort_109 ?_
      obtain ⟨x112, hc112, h⟩ := bd_some h
      refine y_ci (rest := []) hw (y_rV C hw km_0 (by decide) rfl rfl (c_X8_fails  hc112) mi_X8_fails wd_1070 wd_1072 ws_29 rfl ⟨by decide, by decide⟩ hl rfl (Nat.le_of_ble_eq_true rfl) dX8_sort_112) (fun H locs hw => ?_)
      refine y_goto (tgt := 119) C dX8_sort_115 (by decide) ?_
      exact k_X8_sort_119 C   hw (lv_sub hl [0] rfl) h
    · rw [if_neg hc] at h
      exact k_X8_sort_118 C   hw hl h
  · rw [if_neg hc] at h
    exact k_X8_sort_118 C   hw hl h
set_option maxRecDepth 100000 in
set_option maxHeartbeats 4000000 in
theorem k_X8_sort_71b {K71 : Int → St → Option (Int × St)} {v1 : Int} (C : Cx cX8_sort RX8 2 (some .int) D cA adK adV A p s m args meth c)  (hK71 : ∀ (v1 : Int) (σ : St) (H : Heap) (locs : List Loc) (ls : Array Slot) , At D cA ad kM 31 R A s σ H locs → lv_has ls 2 [(0, .ref (ad 0)), (1, .int (zI v1))] → K71 v1 σ = some res → W p l e (rmU 4 93) s m args below meth c H locs 0 0 (MQ below (QI D cA ad kM 31 R A res) args s 0 0 A) (F0 m 71 ls [])) {σ : St} {H : Heap} {locs : List Loc} {ls : Array Slot}  (hw : At D cA ad kM 31 R A s σ H locs) (hl : lv_has ls 2 [(0, .ref (ad 0)), (1, .int (zI v1))]) (h : p_X8_sort_71b K71 v1 σ = some res) : W p l e (rmU 4 93) s m args below meth c H locs 0 0 (MQ below (QI D cA ad kM 31 R A res) args s 0 0 A) (F0 m 71 ls []) := by
  have h := h
  unfold p_X8_sort_71b at h
  refine y_iload_n C dX8_sort_71 (lv_at hl 1 rfl) ?_
  refine y_if_ne (tgt := 90) C (a' := zm v1) rfl dX8_sort_72 (by decide) (fun hc => ?_) (fun hc => ?_)
  · rw [if_pos hc] at h
    refine y_aload_n C dX8_sort_75 (lv_at hl 0 rfl) ?_
    obtain ⟨x76, hc76, h⟩ := bd_some h
    refine y_ci (rest := []) hw (y_rV C hw km_0 (by decide) rfl rfl (c_X8_here  hc76) mi_X8_here wd_1038 wd_1040 ws_25 rfl ⟨by decide, by decide⟩ hl rfl (Nat.le_of_ble_eq_true rfl) dX8_sort_76) (fun H locs hw => ?_)
    refine y_if_lt (tgt := 90) C (a' := zm x76.1) rfl dX8_sort_79 (by decide) (fun hc => ?_) (fun hc => ?_)
    · rw [if_pos hc] at h
      exact k_X8_sort_90 C   hw hl h
    · rw [if_neg hc] at h
      refine y_aload_n C dX8_sort_82 (lv_at hl 0 rfl) ?_
      obtain ⟨x83, hc83, h⟩ := bd_some h
      refine y_ci (rest := []) hw (y_rV C hw km_0 (by decide) rfl rfl (c_X8_takeSort  hc83) mi_X8_takeSort wd_1122 wd_1124 ws_36 rfl ⟨by decide, by decide⟩ hl rfl (Nat.le_of_ble_eq_true rfl) dX8_sort_83) (fun H locs hw => ?_)
      refine y_istore_n (lv' := [(1, .int (zI x83.1)), (0, .ref (ad 0))]) C dX8_sort_86 hl (by decide) rfl (fun ls hl => ?_)
      refine y_goto (tgt := 71) C dX8_sort_87 (by decide) ?_
      exact hK71 _ _ _ _ _  hw (lv_sub hl [1, 0] rfl) h
  · rw [if_neg hc] at h
    exact k_X8_sort_90 C   hw hl h
set_option maxRecDepth 100000 in
theorem k_X8_sort_71  (C : Cx cX8_sort RX8 2 (some .int) D cA adK adV A p s m args meth c)  : ∀ (n : Nat) (v1 : Int) (σ : St) (H : Heap) (locs : List Loc) (ls : Array Slot) , At D cA ad kM 31 R A s σ H locs → lv_has ls 2 [(0, .ref (ad 0)), (1, .int (zI v1))] → p_X8_sort_71  n v1 σ = some res → W p l e (rmU 4 93) s m args below meth c H locs 0 0 (MQ below (QI D cA ad kM 31 R A res) args s 0 0 A) (F0 m 71 ls []) := by
  intro n
  induction n with
  | zero =>
    intro v1 σ H locs ls  hw hl h
    have h : none = some res := h
    cases h
  | succ n ih =>
    intro v1 σ H locs ls  hw hl h
    exact k_X8_sort_71b C  ih  hw hl h
set_option maxRecDepth 100000 in
set_option maxHeartbeats 4000000 in
theorem k_X8_sort_0   (C : Cx cX8_sort RX8 2 (some .int) D cA adK adV A p s m args meth c)  {σ : St} {H : Heap} {locs : List Loc} {ls : Array Slot}  (hw : At D cA ad kM 31 R A s σ H locs) (hl : lv_has ls 2 [(0, .ref (ad 0))]) (h : p_X8_sort   σ = some res) : W p l e (rmU 4 93) s m args below meth c H locs 0 0 (MQ below (QI D cA ad kM 31 R A res) args s 0 0 A) (F0 m 0 ls []) := by
  have h := h
  unfold p_X8_sort at h
  refine y_aload_n C dX8_sort_0 (lv_at hl 0 rfl) ?_
  refine g8 C hw km_0 14 (by decide) wd_885 rfl dX8_sort_1 ?_
  refine y_sipush C dX8_sort_4 (by decide) ?_
  refine y_icmp_le (tgt := 13) C (a' := zm (σ 0 14)) (b' := 200) rfl (by decide) dX8_sort_7 (by decide) (fun hc => ?_) (fun hc => ?_)
  · rw [if_pos hc] at h
    refine y_aload_n C dX8_sort_13 (lv_at hl 0 rfl) ?_
    refine g8 C hw km_0 7 (by decide) wd_878 rfl dX8_sort_14 ?_
    refine y_iconst C dX8_sort_17 ?_
    refine y_icmp_ne (tgt := 24) C (a' := zm (σ 0 7)) (b' := 4) rfl (by decide) dX8_sort_18 (by decide) (fun hc => ?_) (fun hc => ?_)
    · rw [if_pos hc] at h
      refine y_ldc C (z := (-1000000004)) wd_1031 (by decide) dX8_sort_21 ?_
      exact y_iret C hw h dX8_sort_23
    · rw [if_neg hc] at h
      refine y_aload_n C dX8_sort_24 (lv_at hl 0 rfl) ?_
      refine y_iconst C dX8_sort_25 ?_
      obtain ⟨σ26, eσ26, h⟩ := nx_some h
      refine q8 C hw km_0 15 (by decide) wd_886 rfl rfl rfl (by decide) (-1) 15 rfl rfl dX8_sort_26 (fun H locs hw => ?_)
      rw [← eσ26] at hw
      refine y_aload_n C dX8_sort_29 (lv_at hl 0 rfl) ?_
      refine y_iconst C dX8_sort_30 ?_
      obtain ⟨σ31, eσ31, h⟩ := nx_some h
      refine q8 C hw km_0 16 (by decide) wd_887 rfl rfl rfl (by decide) 0 16 rfl rfl dX8_sort_31 (fun H locs hw => ?_)
      rw [← eσ31] at hw
      refine y_aload_n C dX8_sort_34 (lv_at hl 0 rfl) ?_
      refine g8 C hw km_0 8 (by decide) wd_879 rfl dX8_sort_35 ?_
      refine y_aload_n C dX8_sort_38 (lv_at hl 0 rfl) ?_
      refine g8 C hw km_0 7 (by decide) wd_878 rfl dX8_sort_39 ?_
      refine y_iconst C dX8_sort_42 ?_
      obtain ⟨hg43, h⟩ := gd_some h
      obtain ⟨σ43, eσ43, h⟩ := nx_some h
      refine y_iast C hw km_8 (i' := zm (σ31 0 7)) rfl hg43 dX8_sort_43 (fun H locs hw => ?_)
      rw [← eσ43] at hw
      refine y_aload_n C dX8_sort_44 (lv_at hl 0 rfl) ?_
      refine g8 C hw km_0 11 (by decide) wd_882 rfl dX8_sort_45 ?_
      refine y_aload_n C dX8_sort_48 (lv_at hl 0 rfl) ?_
      refine g8 C hw km_0 7 (by decide) wd_878 rfl dX8_sort_49 ?_
      refine y_iconst C dX8_sort_52 ?_
      obtain ⟨hg53, h⟩ := gd_some h
      obtain ⟨σ53, eσ53, h⟩ := nx_some h
      refine y_iast C hw km_11 (i' := zm (σ43 0 7)) rfl hg53 dX8_sort_53 (fun H locs hw => ?_)
      rw [← eσ53] at hw
      refine y_aload_n C dX8_sort_54 (lv_at hl 0 rfl) ?_
      refine g8 C hw km_0 12 (by decide) wd_883 rfl dX8_sort_55 ?_
      refine y_aload_n C dX8_sort_58 (lv_at hl 0 rfl) ?_
      refine g8 C hw km_0 7 (by decide) wd_878 rfl dX8_sort_59 ?_
      refine y_iconst C dX8_sort_62 ?_
      obtain ⟨hg63, h⟩ := gd_some h
      obtain ⟨σ63, eσ63, h⟩ := nx_some h
      refine y_iast C hw km_12 (i' := zm (σ53 0 7)) rfl hg63 dX8_sort_63 (fun H locs hw => ?_)
      rw [← eσ63] at hw
      refine y_aload_n C dX8_sort_64 (lv_at hl 0 rfl) ?_
      refine y_iconst C dX8_sort_65 ?_
      obtain ⟨σ66, eσ66, h⟩ := nx_some h
      refine q8 C hw km_0 22 (by decide) wd_893 rfl rfl rfl (by decide) 0 22 rfl rfl dX8_sort_66 (fun H locs hw => ?_)
      rw [← eσ66] at hw
      refine y_iconst C dX8_sort_69 ?_
      refine y_istore_n (lv' := [(1, .int (zI 0)), (0, .ref (ad 0))]) C dX8_sort_70 hl (by decide) rfl (fun ls hl => ?_)
      exact k_X8_sort_71 C  FU _ _ _ _ _  hw (lv_sub hl [1, 0] rfl) h
  · rw [if_neg hc] at h
    refine y_ldc C (z := (-1000000003)) wd_1121 (by decide) dX8_sort_10 ?_
    exact y_iret C hw h dX8_sort_12
theorem c_X8_sort {l : Launch} {D : va_G} {cA : Nat → ClassId} {adK adV : Nat → Nat} {A : Nat → Prop} {ad : Int → Nat} {R : va_W} {σ : St} {res : Int × St}   (h : p_X8_sort  σ = some res) : Met l yX8_sort (wsU yX8_sort cX8_sort 2 (some .int)) (rmU 4 93) (va_Pc [.ref (ad 0)] (Pr D cA adK adV ad kM 31 R A σ)) (QI D cA ad kM 31 R A res) 0 0 A :=
  y_met (own := RX8) (by decide) rfl _ (Nat.le_of_ble_eq_true rfl) (fun p e s m args below meth c ls C hl hw => k_X8_sort_0 C  hw hl h)
/-! RungHouseModel.oddsOf -/
set_option maxRecDepth 100000 in
set_option maxHeartbeats 4000000 in
theorem k_X8_oddsOf_0  {v1 : Int} {v2 : Int} {v3 : Int} (C : Cx cX8_oddsOf RX8 4 (some .int) D cA adK adV A p s m args meth c)  {σ : St} {H : Heap} {locs : List Loc} {ls : Array Slot}  (hw : At D cA ad kM 31 R A s σ H locs) (hl : lv_has ls 4 [(0, .ref (ad 0)), (1, .int (zI v1)), (2, .int (zI v2)), (3, .int (zI v3))]) (h : p_X8_oddsOf  v1 v2 v3 σ = some res) : W p l e (rmU 0 0) s m args below meth c H locs 0 0 (MQ below (QI D cA ad kM 31 R A res) args s 0 0 A) (F0 m 0 ls []) := by
  have h := h
  unfold p_X8_oddsOf at h
  refine y_iload_n C dX8_oddsOf_0 (lv_at hl 3 rfl) ?_
  refine y_if_eq (tgt := 31) C (a' := zm v3) rfl dX8_oddsOf_1 (by decide) (fun hc => ?_) (fun hc => ?_)
  · rw [if_pos hc] at h
    refine y_aload_n C dX8_oddsOf_31 (lv_at hl 0 rfl) ?_
    refine g8 C hw km_0 10 (by decide) wd_881 rfl dX8_oddsOf_32 ?_
    refine y_bipush C dX8_oddsOf_35 (by decide) ?_
    refine y_iload_n C dX8_oddsOf_37 (lv_at hl 1 rfl) ?_
    refine y_imul C dX8_oddsOf_38 ?_
    refine y_iload_n C dX8_oddsOf_39 (lv_at hl 2 rfl) ?_
    refine y_iadd C dX8_oddsOf_40 ?_
    obtain ⟨hg41, h⟩ := gd_some h
    refine y_iald C hw km_10 (i' := zm ((8 * v1) + v2)) rfl hg41 dX8_oddsOf_41 ?_
    exact y_iret C hw h dX8_oddsOf_42
  · rw [if_neg hc] at h
    refine y_aload_n C dX8_oddsOf_4 (lv_at hl 0 rfl) ?_
    refine g8 C hw km_0 10 (by decide) wd_881 rfl dX8_oddsOf_5 ?_
    refine y_bipush C dX8_oddsOf_8 (by decide) ?_
    refine y_iload_n C dX8_oddsOf_10 (lv_at hl 1 rfl) ?_
    refine y_imul C dX8_oddsOf_11 ?_
    refine y_iload_n C dX8_oddsOf_12 (lv_at hl 2 rfl) ?_
    refine y_iadd C dX8_oddsOf_13 ?_
    obtain ⟨hg14, h⟩ := gd_some h
    refine y_iald C hw km_10 (i' := zm ((8 * v1) + v2)) rfl hg14 dX8_oddsOf_14 ?_
    refine y_bipush C dX8_oddsOf_15 (by decide) ?_
    refine y_aload_n C dX8_oddsOf_17 (lv_at hl 0 rfl) ?_
    refine g8 C hw km_0 12 (by decide) wd_883 rfl dX8_oddsOf_18 ?_
    refine y_iload_n C dX8_oddsOf_21 (lv_at hl 1 rfl) ?_
    obtain ⟨hg22, h⟩ := gd_some h
    refine y_iald C hw km_12 (i' := zm v1) rfl hg22 dX8_oddsOf_22 ?_
    refine y_isub C dX8_oddsOf_23 ?_
    refine y_imul C dX8_oddsOf_24 ?_
    refine y_bipush C dX8_oddsOf_25 (by decide) ?_
    refine y_idiv C (b' := 100) (by decide) (by decide) dX8_oddsOf_27 ?_
    refine y_goto (tgt := 42) C dX8_oddsOf_28 (by decide) ?_
    exact y_iret C hw h dX8_oddsOf_42
theorem c_X8_oddsOf {l : Launch} {D : va_G} {cA : Nat → ClassId} {adK adV : Nat → Nat} {A : Nat → Prop} {ad : Int → Nat} {R : va_W} {σ : St} {res : Int × St} {v1 : Int} {v2 : Int} {v3 : Int}  (h : p_X8_oddsOf v1 v2 v3 σ = some res) : Met l yX8_oddsOf (wsU yX8_oddsOf cX8_oddsOf 4 (some .int)) (rmU 0 0) (va_Pc [.ref (ad 0), .int (zI v1), .int (zI v2), .int (zI v3)] (Pr D cA adK adV ad kM 31 R A σ)) (QI D cA ad kM 31 R A res) 0 0 A :=
  y_met (own := RX8) (by decide) rfl _ (Nat.le_of_ble_eq_true rfl) (fun p e s m args below meth c ls C hl hw => k_X8_oddsOf_0 C  hw hl h)
/-! RungHouseModel.sumOdds -/
set_option maxRecDepth 100000 in
set_option maxHeartbeats 4000000 in
theorem k_X8_sumOdds_5b {K5 : Int → Int → Int → Int → St → Option (Int × St)} {v1 : Int} {v2 : Int} {v3 : Int} {v4 : Int} (C : Cx cX8_sumOdds RX8 5 (some .int) D cA adK adV A p s m args meth c)  (hK5 : ∀ (v1 : Int) (v2 : Int) (v3 : Int) (v4 : Int) (σ : St) (H : Heap) (locs : List Loc) (ls : Array Slot) , At D cA ad kM 31 R A s σ H locs → lv_has ls 5 [(0, .ref (ad 0)), (1, .int (zI v1)), (2, .int (zI v2)), (3, .int (zI v3)), (4, .int (zI v4))] → K5 v1 v2 v3 v4 σ = some res → W p l e (rmU 1 23) s m args below meth c H locs 0 0 (MQ below (QI D cA ad kM 31 R A res) args s 0 0 A) (F0 m 5 ls [])) {σ : St} {H : Heap} {locs : List Loc} {ls : Array Slot}  (hw : At D cA ad kM 31 R A s σ H locs) (hl : lv_has ls 5 [(0, .ref (ad 0)), (1, .int (zI v1)), (2, .int (zI v2)), (3, .int (zI v3)), (4, .int (zI v4))]) (h : p_X8_sumOdds_5b K5 v1 v2 v3 v4 σ = some res) : W p l e (rmU 1 23) s m args below meth c H locs 0 0 (MQ below (QI D cA ad kM 31 R A res) args s 0 0 A) (F0 m 5 ls []) := by
  have h := h
  unfold p_X8_sumOdds_5b at h
  refine y_iload C dX8_sumOdds_5 (lv_at hl 4 rfl) ?_
  refine y_aload_n C dX8_sumOdds_7 (lv_at hl 0 rfl) ?_
  refine g8 C hw km_0 8 (by decide) wd_879 rfl dX8_sumOdds_8 ?_
  refine y_iload_n C dX8_sumOdds_11 (lv_at hl 1 rfl) ?_
  obtain ⟨hg12, h⟩ := gd_some h
  refine y_iald C hw km_8 (i' := zm v1) rfl hg12 dX8_sumOdds_12 ?_
  refine y_icmp_ge (tgt := 33) C (a' := zm v4) (b' := zm (σ 8 (zm v1))) rfl rfl dX8_sumOdds_13 (by decide) (fun hc => ?_) (fun hc => ?_)
  · rw [if_pos hc] at h
    refine y_iload_n C dX8_sumOdds_33 (lv_at hl 3 rfl) ?_
    exact y_iret C hw h dX8_sumOdds_34
  · rw [if_neg hc] at h
    refine y_iload_n C dX8_sumOdds_16 (lv_at hl 3 rfl) ?_
    refine y_aload_n C dX8_sumOdds_17 (lv_at hl 0 rfl) ?_
    refine y_iload_n C dX8_sumOdds_18 (lv_at hl 1 rfl) ?_
    refine y_iload C dX8_sumOdds_19 (lv_at hl 4 rfl) ?_
    refine y_iload_n C dX8_sumOdds_21 (lv_at hl 2 rfl) ?_
    obtain ⟨x22, hc22, h⟩ := bd_some h
    refine y_ci (rest := [.int (zI v3)]) hw (y_rV C hw km_0 (by decide) rfl rfl (c_X8_oddsOf  hc22) mi_X8_oddsOf wd_1147 wd_1149 ws_41 rfl ⟨by decide, by decide⟩ hl rfl (Nat.le_of_ble_eq_true rfl) dX8_sumOdds_22) (fun H locs hw => ?_)
    refine y_iadd C dX8_sumOdds_25 ?_
    refine y_istore_n (lv' := [(3, .int (zI (v3 + x22.1))), (0, .ref (ad 0)), (1, .int (zI v1)), (2, .int (zI v2)), (4, .int (zI v4))]) C dX8_sumOdds_26 hl (by decide) rfl (fun ls hl => ?_)
    refine y_iinc (lv' := [(4, .int (zI (v4 + 1))), (3, .int (zI (v3 + x22.1))), (0, .ref (ad 0)), (1, .int (zI v1)), (2, .int (zI v2))]) C dX8_sumOdds_27 hl (k := 4) rfl (by decide) rfl (fun ls hl => ?_)
    refine y_goto (tgt := 5) C dX8_sumOdds_30 (by decide) ?_
    exact hK5 _ _ _ _ _ _ _ _  hw (lv_sub hl [2, 3, 4, 1, 0] rfl) h
set_option maxRecDepth 100000 in
theorem k_X8_sumOdds_5  (C : Cx cX8_sumOdds RX8 5 (some .int) D cA adK adV A p s m args meth c)  : ∀ (n : Nat) (v1 : Int) (v2 : Int) (v3 : Int) (v4 : Int) (σ : St) (H : Heap) (locs : List Loc) (ls : Array Slot) , At D cA ad kM 31 R A s σ H locs → lv_has ls 5 [(0, .ref (ad 0)), (1, .int (zI v1)), (2, .int (zI v2)), (3, .int (zI v3)), (4, .int (zI v4))] → p_X8_sumOdds_5  n v1 v2 v3 v4 σ = some res → W p l e (rmU 1 23) s m args below meth c H locs 0 0 (MQ below (QI D cA ad kM 31 R A res) args s 0 0 A) (F0 m 5 ls []) := by
  intro n
  induction n with
  | zero =>
    intro v1 v2 v3 v4 σ H locs ls  hw hl h
    have h : none = some res := h
    cases h
  | succ n ih =>
    intro v1 v2 v3 v4 σ H locs ls  hw hl h
    exact k_X8_sumOdds_5b C  ih  hw hl h
set_option maxRecDepth 100000 in
set_option maxHeartbeats 4000000 in
theorem k_X8_sumOdds_0  {v1 : Int} {v2 : Int} (C : Cx cX8_sumOdds RX8 5 (some .int) D cA adK adV A p s m args meth c)  {σ : St} {H : Heap} {locs : List Loc} {ls : Array Slot}  (hw : At D cA ad kM 31 R A s σ H locs) (hl : lv_has ls 5 [(0, .ref (ad 0)), (1, .int (zI v1)), (2, .int (zI v2))]) (h : p_X8_sumOdds  v1 v2 σ = some res) : W p l e (rmU 1 23) s m args below meth c H locs 0 0 (MQ below (QI D cA ad kM 31 R A res) args s 0 0 A) (F0 m 0 ls []) := by
  have h := h
  unfold p_X8_sumOdds at h
  refine y_iconst C dX8_sumOdds_0 ?_
  refine y_istore_n (lv' := [(3, .int (zI 0)), (0, .ref (ad 0)), (1, .int (zI v1)), (2, .int (zI v2))]) C dX8_sumOdds_1 hl (by decide) rfl (fun ls hl => ?_)
  refine y_iconst C dX8_sumOdds_2 ?_
  refine y_istore (lv' := [(4, .int (zI 0)), (3, .int (zI 0)), (0, .ref (ad 0)), (1, .int (zI v1)), (2, .int (zI v2))]) C dX8_sumOdds_3 hl (by decide) rfl (fun ls hl => ?_)
  exact k_X8_sumOdds_5 C  FU _ _ _ _ _ _ _ _  hw (lv_sub hl [2, 3, 4, 1, 0] rfl) h
theorem c_X8_sumOdds {l : Launch} {D : va_G} {cA : Nat → ClassId} {adK adV : Nat → Nat} {A : Nat → Prop} {ad : Int → Nat} {R : va_W} {σ : St} {res : Int × St} {v1 : Int} {v2 : Int}  (h : p_X8_sumOdds v1 v2 σ = some res) : Met l yX8_sumOdds (wsU yX8_sumOdds cX8_sumOdds 5 (some .int)) (rmU 1 23) (va_Pc [.ref (ad 0), .int (zI v1), .int (zI v2)] (Pr D cA adK adV ad kM 31 R A σ)) (QI D cA ad kM 31 R A res) 0 0 A :=
  y_met (own := RX8) (by decide) rfl _ (Nat.le_of_ble_eq_true rfl) (fun p e s m args below meth c ls C hl hw => k_X8_sumOdds_0 C  hw hl h)
/-! RungHouseModel.scrapes -/
set_option maxRecDepth 100000 in
set_option maxHeartbeats 4000000 in
theorem k_X8_scrapes_0  {v1 : Int} {v2 : Int} (C : Cx cX8_scrapes RX8 4 (some .int) D cA adK adV A p s m args meth c)  {σ : St} {H : Heap} {locs : List Loc} {ls : Array Slot}  (hw : At D cA ad kM 31 R A s σ H locs) (hl : lv_has ls 4 [(0, .ref (ad 0)), (1, .int (zI v1)), (2, .int (zI v2))]) (h : p_X8_scrapes  v1 v2 σ = some res) : W p l e (rmU 2 47) s m args below meth c H locs 0 0 (MQ below (QI D cA ad kM 31 R A res) args s 0 0 A) (F0 m 0 ls []) := by
  have h := h
  unfold p_X8_scrapes at h
  refine y_aload_n C dX8_scrapes_0 (lv_at hl 0 rfl) ?_
  refine y_iload_n C dX8_scrapes_1 (lv_at hl 1 rfl) ?_
  obtain ⟨x2, hc2, h⟩ := bd_some h
  refine y_ci (rest := []) hw (y_rV C hw km_0 (by decide) rfl rfl (c_X8_isSort  hc2) mi_X8_isSort wd_1138 wd_1140 ws_39 rfl ⟨by decide, by decide⟩ hl rfl (Nat.le_of_ble_eq_true rfl) dX8_scrapes_2) (fun H locs hw => ?_)
  refine y_if_ne (tgt := 11) C (a' := zm x2.1) rfl dX8_scrapes_5 (by decide) (fun hc => ?_) (fun hc => ?_)
  · rw [if_pos hc] at h
    refine y_ldc C (z := (-1000000001)) wd_1037 (by decide) dX8_scrapes_8 ?_
    exact y_iret C hw h dX8_scrapes_10
  · rw [if_neg hc] at h
    refine y_iload_n C dX8_scrapes_11 (lv_at hl 2 rfl) ?_
    refine y_i2l C rfl dX8_scrapes_12 ?_
    refine y_lconst C (z' := 0) dX8_scrapes_13 (by decide) ?_
    refine y_ldc2 C (z := 19) wd_1142 (by decide) dX8_scrapes_14 ?_
    obtain ⟨x17, hc17, h⟩ := bd_some h
    refine y_ci (rest := []) hw (y_rS C hw (c_X8_within  hc17) mi_X8_within wd_1027 wd_1028 rfl ⟨by decide, by decide⟩ hl rfl (Nat.le_of_ble_eq_true rfl) dX8_scrapes_17) (fun H locs hw => ?_)
    refine y_if_ne (tgt := 26) C (a' := zm x17.1) rfl dX8_scrapes_20 (by decide) (fun hc => ?_) (fun hc => ?_)
    · rw [if_pos hc] at h
      refine y_ldc C (z := (-1000000002)) wd_1030 (by decide) dX8_scrapes_23 ?_
      exact y_iret C hw h dX8_scrapes_25
    · rw [if_neg hc] at h
      refine y_iload_n C dX8_scrapes_26 (lv_at hl 2 rfl) ?_
      refine y_iconst C dX8_scrapes_27 ?_
      refine y_icmp_ge (tgt := 79) C (a' := zm v2) (b' := 4) rfl (by decide) dX8_scrapes_28 (by decide) (fun hc => ?_) (fun hc => ?_)
      · rw [if_pos hc] at h
        refine y_iload_n C dX8_scrapes_79 (lv_at hl 2 rfl) ?_
        refine y_iconst C dX8_scrapes_80 ?_
        refine y_isub C dX8_scrapes_81 ?_
        refine y_bipush C dX8_scrapes_82 (by decide) ?_
        refine y_irem C (b' := 8) (by decide) (by decide) dX8_scrapes_84 ?_
        refine y_istore_n (lv' := [(3, .int (zI ((zm (v2 - 4)).tmod 8))), (0, .ref (ad 0)), (1, .int (zI v1)), (2, .int (zI v2))]) C dX8_scrapes_85 hl (by decide) rfl (fun ls hl => ?_)
        refine y_iload_n C dX8_scrapes_86 (lv_at hl 0 rfl) ?_
        refine y_aload_n C dX8_scrapes_87 (lv_at hl 1 rfl) ?_
        refine g8 C hw km_0 8 (by decide) wd_879 rfl dX8_scrapes_88 ?_
        refine y_iload_n C dX8_scrapes_91 (lv_at hl 2 rfl) ?_
        obtain ⟨hg92, h⟩ := gd_some h
        refine y_iald C hw km_8 (i' := zm v1) rfl hg92 dX8_scrapes_92 ?_
        refine y_icmp_lt (tgt := 100) C (a' := zm ((zm (v2 - 4)).tmod 8)) (b' := zm (x17.2 8 (zm v1))) rfl rfl dX8_scrapes_93 (by decide) (fun hc => ?_) (fun hc => ?_)
        · rw [if_pos hc] at h
          refine y_iload_n C dX8_scrapes_100 (lv_at hl 3 rfl) ?_
          refine y_bipush C dX8_scrapes_101 (by decide) ?_
          refine y_icmp_ge (tgt := 120) C (a' := zm v2) (b' := 12) rfl (by decide) dX8_scrapes_103 (by decide) (fun hc => ?_) (fun hc => ?_)
          · rw [if_pos hc] at h
            refine y_aload_n C dX8_scrapes_120 (lv_at hl 1 rfl) ?_
            refine g8 C hw km_0 10 (by decide) wd_881 rfl dX8_scrapes_121 ?_
            refine y_bipush C dX8_scrapes_124 (by decide) ?_
            refine y_iload_n C dX8_scrapes_126 (lv_at hl 2 rfl) ?_
            refine y_imul C dX8_scrapes_127 ?_
            refine y_iload_n C dX8_scrapes_128 (lv_at hl 0 rfl) ?_
            refine y_iadd C dX8_scrapes_129 ?_
            obtain ⟨hg130, h⟩ := gd_some h
            refine y_iald C hw km_10 (i' := zm ((8 * v1) + ((zm (v2 - 4)).tmod 8))) rfl hg130 dX8_scrapes_130 ?_
            exact y_iret C hw h dX8_scrapes_131
          · rw [if_neg hc] at h
            refine y_aload_n C dX8_scrapes_106 (lv_at hl 1 rfl) ?_
            refine g8 C hw km_0 9 (by decide) wd_880 rfl dX8_scrapes_107 ?_
            refine y_bipush C dX8_scrapes_110 (by decide) ?_
            refine y_iload_n C dX8_scrapes_112 (lv_at hl 2 rfl) ?_
            refine y_imul C dX8_scrapes_113 ?_
            refine y_iload_n C dX8_scrapes_114 (lv_at hl 0 rfl) ?_
            refine y_iadd C dX8_scrapes_115 ?_
            obtain ⟨hg116, h⟩ := gd_some h
            refine y_iald C hw km_9 (i' := zm ((8 * v1) + ((zm (v2 - 4)).tmod 8))) rfl hg116 dX8_scrapes_116 ?_
            refine y_goto (tgt := 131) C dX8_scrapes_117 (by decide) ?_
            exact y_iret C hw h dX8_scrapes_131
        · rw [if_neg hc] at h
          refine y_iconst C dX8_scrapes_96 ?_
          refine y_goto (tgt := 131) C dX8_scrapes_97 (by decide) ?_
          exact y_iret C hw h dX8_scrapes_131
      · rw [if_neg hc] at h
        refine y_iload_n C dX8_scrapes_31 (lv_at hl 2 rfl) ?_
        refine y_if_ne (tgt := 44) C (a' := zm v2) rfl dX8_scrapes_32 (by decide) (fun hc => ?_) (fun hc => ?_)
        · rw [if_pos hc] at h
          refine y_aload_n C dX8_scrapes_35 (lv_at hl 0 rfl) ?_
          refine g8 C hw km_0 8 (by decide) wd_879 rfl dX8_scrapes_36 ?_
          refine y_iload_n C dX8_scrapes_39 (lv_at hl 1 rfl) ?_
          obtain ⟨hg40, h⟩ := gd_some h
          refine y_iald C hw km_8 (i' := zm v1) rfl hg40 dX8_scrapes_40 ?_
          refine y_goto (tgt := 78) C dX8_scrapes_41 (by decide) ?_
          exact y_iret C hw h dX8_scrapes_78
        · rw [if_neg hc] at h
          refine y_iload_n C dX8_scrapes_44 (lv_at hl 2 rfl) ?_
          refine y_iconst C dX8_scrapes_45 ?_
          refine y_icmp_ne (tgt := 58) C (a' := zm v2) (b' := 1) rfl (by decide) dX8_scrapes_46 (by decide) (fun hc => ?_) (fun hc => ?_)
          · rw [if_pos hc] at h
            refine y_aload_n C dX8_scrapes_49 (lv_at hl 0 rfl) ?_
            refine y_iload_n C dX8_scrapes_50 (lv_at hl 1 rfl) ?_
            refine y_iconst C dX8_scrapes_51 ?_
            obtain ⟨x52, hc52, h⟩ := bd_some h
            refine y_ci (rest := []) hw (y_rV C hw km_0 (by decide) rfl rfl (c_X8_sumOdds  hc52) mi_X8_sumOdds wd_1143 wd_1145 ws_40 rfl ⟨by decide, by decide⟩ hl rfl (Nat.le_of_ble_eq_true rfl) dX8_scrapes_52) (fun H locs hw => ?_)
            refine y_goto (tgt := 78) C dX8_scrapes_55 (by decide) ?_
            exact y_iret C hw h dX8_scrapes_78
          · rw [if_neg hc] at h
            refine y_iload_n C dX8_scrapes_58 (lv_at hl 2 rfl) ?_
            refine y_iconst C dX8_scrapes_59 ?_
            refine y_icmp_ne (tgt := 72) C (a' := zm v2) (b' := 2) rfl (by decide) dX8_scrapes_60 (by decide) (fun hc => ?_) (fun hc => ?_)
            · rw [if_pos hc] at h
              refine y_aload_n C dX8_scrapes_63 (lv_at hl 0 rfl) ?_
              refine g8 C hw km_0 11 (by decide) wd_882 rfl dX8_scrapes_64 ?_
              refine y_iload_n C dX8_scrapes_67 (lv_at hl 1 rfl) ?_
              obtain ⟨hg68, h⟩ := gd_some h
              refine y_iald C hw km_11 (i' := zm v1) rfl hg68 dX8_scrapes_68 ?_
              refine y_goto (tgt := 78) C dX8_scrapes_69 (by decide) ?_
              exact y_iret C hw h dX8_scrapes_78
            · rw [if_neg hc] at h
              refine y_aload_n C dX8_scrapes_72 (lv_at hl 0 rfl) ?_
              refine g8 C hw km_0 12 (by decide) wd_883 rfl dX8_scrapes_73 ?_
              refine y_iload_n C dX8_scrapes_76 (lv_at hl 1 rfl) ?_
              obtain ⟨hg77, h⟩ := gd_some h
              refine y_iald C hw km_12 (i' := zm v1) rfl hg77 dX8_scrapes_77 ?_
              exact y_iret C hw h dX8_scrapes_78
theorem c_X8_scrapes {l : Launch} {D : va_G} {cA : Nat → ClassId} {adK adV : Nat → Nat} {A : Nat → Prop} {ad : Int → Nat} {R : va_W} {σ : St} {res : Int × St} {v1 : Int} {v2 : Int}  (h : p_X8_scrapes v1 v2 σ = some res) : Met l yX8_scrapes (wsU yX8_scrapes cX8_scrapes 4 (some .int)) (rmU 2 47) (va_Pc [.ref (ad 0), .int (zI v1), .int (zI v2)] (Pr D cA adK adV ad kM 31 R A σ)) (QI D cA ad kM 31 R A res) 0 0 A :=
  y_met (own := RX8) (by decide) rfl _ (Nat.le_of_ble_eq_true rfl) (fun p e s m args below meth c ls C hl hw => k_X8_scrapes_0 C  hw hl h)
/-! RungHouseModel.takeSpan -/
set_option maxRecDepth 100000 in
set_option maxHeartbeats 4000000 in
theorem k_X8_takeSpan_36  {v1 : Int} {vs0 : Int} (C : Cx cX8_takeSpan RX8 4 (some .int) D cA adK adV A p s m args meth c)  {σ : St} {H : Heap} {locs : List Loc} {ls : Array Slot}  (hw : At D cA ad kM 31 R A s σ H locs) (hl : lv_has ls 4 [(0, .ref (ad 0)), (1, .int (zI v1))]) (h : p_X8_takeSpan_36  v1 vs0 σ = some res) : W p l e (rmU 2 48) s m args below meth c H locs 0 0 (MQ below (QI D cA ad kM 31 R A res) args s 0 0 A) (F0 m 36 ls [.int (zI vs0)]) := by
  have h := h
  unfold p_X8_takeSpan_36 at h
  refine y_istore_n (lv' := [(3, .int (zI vs0)), (0, .ref (ad 0)), (1, .int (zI v1))]) C dX8_takeSpan_36 hl (by decide) rfl (fun ls hl => ?_)
  refine y_aload_n C dX8_takeSpan_37 (lv_at hl 1 rfl) ?_
  refine g8 C hw km_0 25 (by decide) wd_896 rfl dX8_takeSpan_38 ?_
  refine y_iload_n C dX8_takeSpan_41 (lv_at hl 2 rfl) ?_
  refine y_iconst C dX8_takeSpan_42 ?_
  refine y_iadd C dX8_takeSpan_43 ?_
  refine y_aload_n C dX8_takeSpan_44 (lv_at hl 1 rfl) ?_
  refine g8 C hw km_0 19 (by decide) wd_890 rfl dX8_takeSpan_45 ?_
  obtain ⟨hg48, h⟩ := gd_some h
  obtain ⟨σ48, eσ48, h⟩ := nx_some h
  refine y_iast C hw km_15 (i' := zm (v1 + 1)) rfl hg48 dX8_takeSpan_48 (fun H locs hw => ?_)
  rw [← eσ48] at hw
  refine y_iload_n C dX8_takeSpan_49 (lv_at hl 0 rfl) ?_
  exact y_iret C hw h dX8_takeSpan_50
set_option maxRecDepth 100000 in
set_option maxHeartbeats 4000000 in
theorem k_X8_takeSpan_0  {v1 : Int} {v2 : Int} (C : Cx cX8_takeSpan RX8 4 (some .int) D cA adK adV A p s m args meth c)  {σ : St} {H : Heap} {locs : List Loc} {ls : Array Slot}  (hw : At D cA ad kM 31 R A s σ H locs) (hl : lv_has ls 4 [(0, .ref (ad 0)), (1, .int (zI v1)), (2, .int (zI v2))]) (h : p_X8_takeSpan  v1 v2 σ = some res) : W p l e (rmU 2 48) s m args below meth c H locs 0 0 (MQ below (QI D cA ad kM 31 R A res) args s 0 0 A) (F0 m 0 ls []) := by
  have h := h
  unfold p_X8_takeSpan at h
  refine y_aload_n C dX8_takeSpan_0 (lv_at hl 0 rfl) ?_
  refine y_iconst C dX8_takeSpan_1 ?_
  refine y_iload_n C dX8_takeSpan_2 (lv_at hl 2 rfl) ?_
  obtain ⟨x3, hc3, h⟩ := bd_some h
  refine y_ci (rest := []) hw (y_rV C hw km_0 (by decide) rfl rfl (c_X8_takeNumber  hc3) mi_X8_takeNumber wd_1074 wd_1076 ws_30 rfl ⟨by decide, by decide⟩ hl rfl (Nat.le_of_ble_eq_true rfl) dX8_takeSpan_3) (fun H locs hw => ?_)
  refine y_istore_n (lv' := [(3, .int (zI x3.1)), (0, .ref (ad 0)), (1, .int (zI v1)), (2, .int (zI v2))]) C dX8_takeSpan_6 hl (by decide) rfl (fun ls hl => ?_)
  refine y_aload_n C dX8_takeSpan_7 (lv_at hl 1 rfl) ?_
  refine g8 C hw km_0 25 (by decide) wd_896 rfl dX8_takeSpan_8 ?_
  refine y_iload_n C dX8_takeSpan_11 (lv_at hl 2 rfl) ?_
  refine y_aload_n C dX8_takeSpan_12 (lv_at hl 1 rfl) ?_
  refine g8 C hw km_0 19 (by decide) wd_890 rfl dX8_takeSpan_13 ?_
  obtain ⟨hg16, h⟩ := gd_some h
  obtain ⟨σ16, eσ16, h⟩ := nx_some h
  refine y_iast C hw km_15 (i' := zm v1) rfl hg16 dX8_takeSpan_16 (fun H locs hw => ?_)
  rw [← eσ16] at hw
  refine y_iload_n C dX8_takeSpan_17 (lv_at hl 0 rfl) ?_
  refine y_if_le (tgt := 25) C (a' := zm x3.1) rfl dX8_takeSpan_18 (by decide) (fun hc => ?_) (fun hc => ?_)
  · rw [if_pos hc] at h
    refine y_aload_n C dX8_takeSpan_25 (lv_at hl 1 rfl) ?_
    refine y_aload_n C dX8_takeSpan_26 (lv_at hl 1 rfl) ?_
    refine g8 C hw km_0 25 (by decide) wd_896 rfl dX8_takeSpan_27 ?_
    refine y_iload_n C dX8_takeSpan_30 (lv_at hl 2 rfl) ?_
    refine y_iald C hw km_15 (i' := zm v1) rfl hg16 dX8_takeSpan_31 ?_
    refine y_iload_n C dX8_takeSpan_32 (lv_at hl 3 rfl) ?_
    obtain ⟨x33, hc33, h⟩ := bd_some h
    refine y_ci (rest := []) hw (y_rV C hw km_0 (by decide) rfl rfl (c_X8_takeNumber  hc33) mi_X8_takeNumber wd_1074 wd_1076 ws_30 rfl ⟨by decide, by decide⟩ hl rfl (Nat.le_of_ble_eq_true rfl) dX8_takeSpan_33) (fun H locs hw => ?_)
    exact k_X8_takeSpan_36 C   hw (lv_sub hl [1, 2] rfl) h
  · rw [if_neg hc] at h
    refine y_iload_n C dX8_takeSpan_21 (lv_at hl 0 rfl) ?_
    refine y_goto (tgt := 36) C dX8_takeSpan_22 (by decide) ?_
    exact k_X8_takeSpan_36 C   hw (lv_sub hl [1, 2] rfl) h
theorem c_X8_takeSpan {l : Launch} {D : va_G} {cA : Nat → ClassId} {adK adV : Nat → Nat} {A : Nat → Prop} {ad : Int → Nat} {R : va_W} {σ : St} {res : Int × St} {v1 : Int} {v2 : Int}  (h : p_X8_takeSpan v1 v2 σ = some res) : Met l yX8_takeSpan (wsU yX8_takeSpan cX8_takeSpan 4 (some .int)) (rmU 2 48) (va_Pc [.ref (ad 0), .int (zI v1), .int (zI v2)] (Pr D cA adK adV ad kM 31 R A σ)) (QI D cA ad kM 31 R A res) 0 0 A :=
  y_met (own := RX8) (by decide) rfl _ (Nat.le_of_ble_eq_true rfl) (fun p e s m args below meth c ls C hl hw => k_X8_takeSpan_0 C  hw hl h)
/-! RungHouseModel.takeRule -/
set_option maxRecDepth 100000 in
set_option maxHeartbeats 4000000 in
theorem k_X8_takeRule_289  {v4 : Int} (C : Cx cX8_takeRule RX8 7 (some .int) D cA adK adV A p s m args meth c)  {σ : St} {H : Heap} {locs : List Loc} {ls : Array Slot}  (hw : At D cA ad kM 31 R A s σ H locs) (hl : lv_has ls 7 [(0, .ref (ad 0)), (4, .int (zI v4))]) (h : p_X8_takeRule_289  v4 σ = some res) : W p l e (rmU 3 71) s m args below meth c H locs 0 0 (MQ below (QI D cA ad kM 31 R A res) args s 0 0 A) (F0 m 289 ls []) := by
  have h := h
  unfold p_X8_takeRule_289 at h
  refine y_aload_n C dX8_takeRule_289 (lv_at hl 0 rfl) ?_
  refine g8 C hw km_0 24 (by decide) wd_895 rfl dX8_takeRule_290 ?_
  refine y_aload_n C dX8_takeRule_293 (lv_at hl 0 rfl) ?_
  refine g8 C hw km_0 23 (by decide) wd_894 rfl dX8_takeRule_294 ?_
  refine y_dup2 C dX8_takeRule_297 rfl rfl ?_
  obtain ⟨hg298, h⟩ := gd_some h
  refine y_iald C hw km_14 (i' := zm (σ 0 23)) rfl hg298 dX8_takeRule_298 ?_
  refine y_iconst C dX8_takeRule_299 ?_
  refine y_iadd C dX8_takeRule_300 ?_
  obtain ⟨σ301, eσ301, h⟩ := nx_some h
  refine y_iast C hw km_14 (i' := zm (σ 0 23)) rfl hg298 dX8_takeRule_301 (fun H locs hw => ?_)
  rw [← eσ301] at hw
  refine y_iload C dX8_takeRule_302 (lv_at hl 1 rfl) ?_
  refine y_if_le (tgt := 312) C (a' := zm v4) rfl dX8_takeRule_304 (by decide) (fun hc => ?_) (fun hc => ?_)
  · rw [if_pos hc] at h
    refine y_aload_n C dX8_takeRule_312 (lv_at hl 0 rfl) ?_
    obtain ⟨x313, hc313, h⟩ := bd_some h
    refine y_ci (rest := []) hw (y_rV C hw km_0 (by decide) rfl rfl (c_X8_takeStop  hc313) mi_X8_takeStop wd_1080 wd_1082 ws_31 rfl ⟨by decide, by decide⟩ hl rfl (Nat.le_of_ble_eq_true rfl) dX8_takeRule_313) (fun H locs hw => ?_)
    exact y_iret C hw h dX8_takeRule_316
  · rw [if_neg hc] at h
    refine y_iload C dX8_takeRule_307 (lv_at hl 1 rfl) ?_
    refine y_goto (tgt := 316) C dX8_takeRule_309 (by decide) ?_
    exact y_iret C hw h dX8_takeRule_316
set_option maxRecDepth 100000 in
set_option maxHeartbeats 4000000 in
theorem k_X8_takeRule_281 {K143 : Int → Int → Int → St → Option (Int × St)} {v3 : Int} {v5 : Int} {vs1 : Int} {vs2 : Int} (C : Cx cX8_takeRule RX8 7 (some .int) D cA adK adV A p s m args meth c) (hK143 : ∀ (v3 : Int) (v4 : Int) (v5 : Int) (σ : St) (H : Heap) (locs : List Loc) (ls : Array Slot) , At D cA ad kM 31 R A s σ H locs → lv_has ls 7 [(0, .ref (ad 0)), (3, .int (zI v3)), (4, .int (zI v4)), (5, .int (zI v5))] → K143 v3 v4 v5 σ = some res → W p l e (rmU 3 71) s m args below meth c H locs 0 0 (MQ below (QI D cA ad kM 31 R A res) args s 0 0 A) (F0 m 143 ls [])) {σ : St} {H : Heap} {locs : List Loc} {ls : Array Slot}  (hw : At D cA ad kM 31 R A s σ H locs) (hl : lv_has ls 7 [(0, .ref (ad 0)), (3, .int (zI v3)), (5, .int (zI v5))]) (h : p_X8_takeRule_281 K143 v3 v5 vs1 vs2 σ = some res) : W p l e (rmU 3 71) s m args below meth c H locs 0 0 (MQ below (QI D cA ad kM 31 R A res) args s 0 0 A) (F0 m 281 ls [.int (zI vs2), .int (zI vs1), .ref (ad 0)]) := by
  have h := h
  unfold p_X8_takeRule_281 at h
  obtain ⟨x281, hc281, h⟩ := bd_some h
  refine y_ci (rest := []) hw (y_rV C hw km_0 (by decide) rfl rfl (c_X8_takeSpan  hc281) mi_X8_takeSpan wd_1160 wd_1162 ws_43 rfl ⟨by decide, by decide⟩ hl rfl (Nat.le_of_ble_eq_true rfl) dX8_takeRule_281) (fun H locs hw => ?_)
  refine y_istore (lv' := [(4, .int (zI x281.1)), (0, .ref (ad 0)), (3, .int (zI v3)), (5, .int (zI v5))]) C dX8_takeRule_284 hl (by decide) rfl (fun ls hl => ?_)
  refine y_goto (tgt := 143) C dX8_takeRule_286 (by decide) ?_
  exact hK143 _ _ _ _ _ _ _  hw (lv_sub hl [1, 2, 0, 3] rfl) h
set_option maxRecDepth 100000 in
set_option maxHeartbeats 4000000 in
theorem k_X8_takeRule_267 {K143 : Int → Int → Int → St → Option (Int × St)} {v3 : Int} {v5 : Int} {v6 : Int} {vs1 : Int} {vs2 : Int} (C : Cx cX8_takeRule RX8 7 (some .int) D cA adK adV A p s m args meth c) (hK143 : ∀ (v3 : Int) (v4 : Int) (v5 : Int) (σ : St) (H : Heap) (locs : List Loc) (ls : Array Slot) , At D cA ad kM 31 R A s σ H locs → lv_has ls 7 [(0, .ref (ad 0)), (3, .int (zI v3)), (4, .int (zI v4)), (5, .int (zI v5))] → K143 v3 v4 v5 σ = some res → W p l e (rmU 3 71) s m args below meth c H locs 0 0 (MQ below (QI D cA ad kM 31 R A res) args s 0 0 A) (F0 m 143 ls [])) {σ : St} {H : Heap} {locs : List Loc} {ls : Array Slot}  (hw : At D cA ad kM 31 R A s σ H locs) (hl : lv_has ls 7 [(0, .ref (ad 0)), (3, .int (zI v3)), (5, .int (zI v5)), (6, .int (zI v6))]) (h : p_X8_takeRule_267 K143 v3 v5 v6 vs1 vs2 σ = some res) : W p l e (rmU 3 71) s m args below meth c H locs 0 0 (MQ below (QI D cA ad kM 31 R A res) args s 0 0 A) (F0 m 267 ls [.int (zI vs2), .int (zI vs1), .ref (ad 0)]) := by
  have h := h
  unfold p_X8_takeRule_267 at h
  refine y_iadd C dX8_takeRule_267 ?_
  refine y_iload C dX8_takeRule_268 (lv_at hl 3 rfl) ?_
  refine y_iconst C dX8_takeRule_270 ?_
  refine y_icmp_ne (tgt := 279) C (a' := zm v6) (b' := 1) rfl (by decide) dX8_takeRule_271 (by decide) (fun hc => ?_) (fun hc => ?_)
  · rw [if_pos hc] at h
    refine y_bipush C dX8_takeRule_274 (by decide) ?_
    refine y_goto (tgt := 281) C dX8_takeRule_276 (by decide) ?_
    exact k_X8_takeRule_281 C hK143  hw (lv_sub hl [0, 1, 2] rfl) h
  · rw [if_neg hc] at h
    refine y_bipush C dX8_takeRule_279 (by decide) ?_
    exact k_X8_takeRule_281 C hK143  hw (lv_sub hl [0, 1, 2] rfl) h
set_option maxRecDepth 100000 in
set_option maxHeartbeats 4000000 in
theorem k_X8_takeRule_223 {K143 : Int → Int → Int → St → Option (Int × St)} {v3 : Int} {v5 : Int} {vs0 : Int} (C : Cx cX8_takeRule RX8 7 (some .int) D cA adK adV A p s m args meth c) (hK143 : ∀ (v3 : Int) (v4 : Int) (v5 : Int) (σ : St) (H : Heap) (locs : List Loc) (ls : Array Slot) , At D cA ad kM 31 R A s σ H locs → lv_has ls 7 [(0, .ref (ad 0)), (3, .int (zI v3)), (4, .int (zI v4)), (5, .int (zI v5))] → K143 v3 v4 v5 σ = some res → W p l e (rmU 3 71) s m args below meth c H locs 0 0 (MQ below (QI D cA ad kM 31 R A res) args s 0 0 A) (F0 m 143 ls [])) {σ : St} {H : Heap} {locs : List Loc} {ls : Array Slot}  (hw : At D cA ad kM 31 R A s σ H locs) (hl : lv_has ls 7 [(0, .ref (ad 0)), (3, .int (zI v3)), (5, .int (zI v5))]) (h : p_X8_takeRule_223 K143 v3 v5 vs0 σ = some res) : W p l e (rmU 3 71) s m args below meth c H locs 0 0 (MQ below (QI D cA ad kM 31 R A res) args s 0 0 A) (F0 m 223 ls [.int (zI vs0)]) := by
  have h := h
  unfold p_X8_takeRule_223 at h
  refine y_istore (lv' := [(6, .int (zI vs0)), (0, .ref (ad 0)), (3, .int (zI v3)), (5, .int (zI v5))]) C dX8_takeRule_223 hl (by decide) rfl (fun ls hl => ?_)
  refine y_iload C dX8_takeRule_225 (lv_at hl 0 rfl) ?_
  refine y_iload C dX8_takeRule_227 (lv_at hl 3 rfl) ?_
  refine y_icmp_gt (tgt := 242) C (a' := zm vs0) (b' := zm v5) rfl rfl dX8_takeRule_229 (by decide) (fun hc => ?_) (fun hc => ?_)
  · rw [if_pos hc] at h
    refine y_iload C dX8_takeRule_242 (lv_at hl 0 rfl) ?_
    refine y_istore (lv' := [(5, .int (zI vs0)), (6, .int (zI vs0)), (0, .ref (ad 0)), (3, .int (zI v3))]) C dX8_takeRule_244 hl (by decide) rfl (fun ls hl => ?_)
    refine y_aload_n C dX8_takeRule_246 (lv_at hl 2 rfl) ?_
    refine y_aload_n C dX8_takeRule_247 (lv_at hl 2 rfl) ?_
    refine g8 C hw km_0 18 (by decide) wd_889 rfl dX8_takeRule_248 ?_
    obtain ⟨σ251, eσ251, h⟩ := nx_some h
    refine q8 C hw km_0 16 (by decide) wd_887 rfl rfl rfl (by decide) (σ 0 18) 16 rfl rfl dX8_takeRule_251 (fun H locs hw => ?_)
    rw [← eσ251] at hw
    refine y_aload_n C dX8_takeRule_254 (lv_at hl 2 rfl) ?_
    refine y_iload_n C dX8_takeRule_255 (lv_at hl 3 rfl) ?_
    refine y_iload C dX8_takeRule_256 (lv_at hl 1 rfl) ?_
    refine y_iconst C dX8_takeRule_258 ?_
    refine y_icmp_ne (tgt := 266) C (a' := zm vs0) (b' := 1) rfl (by decide) dX8_takeRule_259 (by decide) (fun hc => ?_) (fun hc => ?_)
    · rw [if_pos hc] at h
      refine y_iconst C dX8_takeRule_262 ?_
      refine y_goto (tgt := 267) C dX8_takeRule_263 (by decide) ?_
      exact k_X8_takeRule_267 C hK143  hw (lv_sub hl [2, 3, 0, 1] rfl) h
    · rw [if_neg hc] at h
      refine y_iconst C dX8_takeRule_266 ?_
      exact k_X8_takeRule_267 C hK143  hw (lv_sub hl [2, 3, 0, 1] rfl) h
  · rw [if_neg hc] at h
    refine y_aload_n C dX8_takeRule_232 (lv_at hl 1 rfl) ?_
    refine y_iconst C dX8_takeRule_233 ?_
    refine y_aload_n C dX8_takeRule_234 (lv_at hl 1 rfl) ?_
    refine g8 C hw km_0 16 (by decide) wd_887 rfl dX8_takeRule_235 ?_
    obtain ⟨x238, hc238, h⟩ := bd_some h
    refine y_ci (rest := []) hw (y_rV C hw km_0 (by decide) rfl rfl (c_X8_fails  hc238) mi_X8_fails wd_1070 wd_1072 ws_29 rfl ⟨by decide, by decide⟩ hl rfl (Nat.le_of_ble_eq_true rfl) dX8_takeRule_238) (fun H locs hw => ?_)
    exact y_iret C hw h dX8_takeRule_241
set_option maxRecDepth 100000 in
set_option maxHeartbeats 4000000 in
theorem k_X8_takeRule_143b {K143 : Int → Int → Int → St → Option (Int × St)} {v3 : Int} {v4 : Int} {v5 : Int} (C : Cx cX8_takeRule RX8 7 (some .int) D cA adK adV A p s m args meth c)  (hK143 : ∀ (v3 : Int) (v4 : Int) (v5 : Int) (σ : St) (H : Heap) (locs : List Loc) (ls : Array Slot) , At D cA ad kM 31 R A s σ H locs → lv_has ls 7 [(0, .ref (ad 0)), (3, .int (zI v3)), (4, .int (zI v4)), (5, .int (zI v5))] → K143 v3 v4 v5 σ = some res → W p l e (rmU 3 71) s m args below meth c H locs 0 0 (MQ below (QI D cA ad kM 31 R A res) args s 0 0 A) (F0 m 143 ls [])) {σ : St} {H : Heap} {locs : List Loc} {ls : Array Slot}  (hw : At D cA ad kM 31 R A s σ H locs) (hl : lv_has ls 7 [(0, .ref (ad 0)), (3, .int (zI v3)), (4, .int (zI v4)), (5, .int (zI v5))]) (h : p_X8_takeRule_143b K143 v3 v4 v5 σ = some res) : W p l e (rmU 3 71) s m args below meth c H locs 0 0 (MQ below (QI D cA ad kM 31 R A res) args s 0 0 A) (F0 m 143 ls []) := by
  have h := h
  unfold p_X8_takeRule_143b at h
  refine y_iload C dX8_takeRule_143 (lv_at hl 2 rfl) ?_
  refine y_if_ne (tgt := 289) C (a' := zm v4) rfl dX8_takeRule_145 (by decide) (fun hc => ?_) (fun hc => ?_)
  · rw [if_pos hc] at h
    refine y_aload_n C dX8_takeRule_148 (lv_at hl 0 rfl) ?_
    obtain ⟨x149, hc149, h⟩ := bd_some h
    refine y_ci (rest := []) hw (y_rV C hw km_0 (by decide) rfl rfl (c_X8_here  hc149) mi_X8_here wd_1038 wd_1040 ws_25 rfl ⟨by decide, by decide⟩ hl rfl (Nat.le_of_ble_eq_true rfl) dX8_takeRule_149) (fun H locs hw => ?_)
    refine y_bipush C dX8_takeRule_152 (by decide) ?_
    refine y_icmp_eq (tgt := 289) C (a' := zm x149.1) (b' := 59) rfl (by decide) dX8_takeRule_154 (by decide) (fun hc => ?_) (fun hc => ?_)
    · rw [if_pos hc] at h
      exact k_X8_takeRule_289 C   hw (lv_sub hl [0, 2] rfl) h
    · rw [if_neg hc] at h
      refine y_aload_n C dX8_takeRule_157 (lv_at hl 0 rfl) ?_
      obtain ⟨x158, hc158, h⟩ := bd_some h
      refine y_cv (rest := []) hw (y_rV C hw km_0 (by decide) rfl rfl (c_X8_readWord  hc158) mi_X8_readWord wd_1046 wd_1048 ws_27 rfl ⟨by decide, by decide⟩ hl rfl (Nat.le_of_ble_eq_true rfl) dX8_takeRule_158) (fun H locs hw => ?_)
      refine y_aload_n C dX8_takeRule_161 (lv_at hl 0 rfl) ?_
      refine g8 C hw km_0 17 (by decide) wd_888 rfl dX8_takeRule_162 ?_
      refine y_bipush C dX8_takeRule_165 (by decide) ?_
      refine y_bipush C dX8_takeRule_167 (by decide) ?_
      refine y_bipush C dX8_takeRule_169 (by decide) ?_
      refine y_bipush C dX8_takeRule_171 (by decide) ?_
      obtain ⟨x173, hc173, h⟩ := bd_some h
      refine y_cl (rest := [.long (zJ (x158.2 0 17))]) hw (y_rS C hw (c_X8_code  hc173) mi_X8_code wd_1061 wd_1062 rfl ⟨by decide, by decide⟩ hl rfl (Nat.le_of_ble_eq_true rfl) dX8_takeRule_173) (fun H locs hw => ?_)
      refine y_bipush C dX8_takeRule_176 (by decide) ?_
      obtain ⟨x178, hc178, h⟩ := bd_some h
      refine y_cl (rest := [.long (zJ (x158.2 0 17))]) hw (y_rS C hw (c_X8_longer  hc178) mi_X8_longer wd_1064 wd_1065 rfl ⟨by decide, by decide⟩ hl rfl (Nat.le_of_ble_eq_true rfl) dX8_takeRule_178) (fun H locs hw => ?_)
      refine y_lcmp C dX8_takeRule_181 ?_
      refine y_if_ne (tgt := 189) C (a' := zm (zcmp (x158.2 0 17) x178.1)) rfl dX8_takeRule_182 (by decide) (fun hc => ?_) (fun hc => ?_)
      · rw [if_pos hc] at h
        refine y_iconst C dX8_takeRule_185 ?_
        refine y_goto (tgt := 223) C dX8_takeRule_186 (by decide) ?_
        exact k_X8_takeRule_223 C hK143  hw (lv_sub hl [0, 1, 3] rfl) h
      · rw [if_neg hc] at h
        refine y_aload_n C dX8_takeRule_189 (lv_at hl 0 rfl) ?_
        refine g8 C hw km_0 17 (by decide) wd_888 rfl dX8_takeRule_190 ?_
        refine y_bipush C dX8_takeRule_193 (by decide) ?_
        refine y_bipush C dX8_takeRule_195 (by decide) ?_
        refine y_bipush C dX8_takeRule_197 (by decide) ?_
        refine y_bipush C dX8_takeRule_199 (by decide) ?_
        obtain ⟨x201, hc201, h⟩ := bd_some h
        refine y_cl (rest := [.long (zJ (x178.2 0 17))]) hw (y_rS C hw (c_X8_code  hc201) mi_X8_code wd_1061 wd_1062 rfl ⟨by decide, by decide⟩ hl rfl (Nat.le_of_ble_eq_true rfl) dX8_takeRule_201) (fun H locs hw => ?_)
        refine y_bipush C dX8_takeRule_204 (by decide) ?_
        obtain ⟨x206, hc206, h⟩ := bd_some h
        refine y_cl (rest := [.long (zJ (x178.2 0 17))]) hw (y_rS C hw (c_X8_longer  hc206) mi_X8_longer wd_1064 wd_1065 rfl ⟨by decide, by decide⟩ hl rfl (Nat.le_of_ble_eq_true rfl) dX8_takeRule_206) (fun H locs hw => ?_)
        refine y_bipush C dX8_takeRule_209 (by decide) ?_
        obtain ⟨x211, hc211, h⟩ := bd_some h
        refine y_cl (rest := [.long (zJ (x178.2 0 17))]) hw (y_rS C hw (c_X8_longer  hc211) mi_X8_longer wd_1064 wd_1065 rfl ⟨by decide, by decide⟩ hl rfl (Nat.le_of_ble_eq_true rfl) dX8_takeRule_211) (fun H locs hw => ?_)
        refine y_lcmp C dX8_takeRule_214 ?_
        refine y_if_ne (tgt := 222) C (a' := zm (zcmp (x178.2 0 17) x211.1)) rfl dX8_takeRule_215 (by decide) (fun hc => ?_) (fun hc => ?_)
        · rw [if_pos hc] at h
          refine y_iconst C dX8_takeRule_218 ?_
          refine y_goto (tgt := 223) C dX8_takeRule_219 (by decide) ?_
          exact k_X8_takeRule_223 C hK143  hw (lv_sub hl [0, 1, 3] rfl) h
        · rw [if_neg hc] at h
          refine y_iconst C dX8_takeRule_222 ?_
          exact k_X8_takeRule_223 C hK143  hw (lv_sub hl [0, 1, 3] rfl) h
  · rw [if_neg hc] at h
    exact k_X8_takeRule_289 C   hw (lv_sub hl [0, 2] rfl) h
set_option maxRecDepth 100000 in
theorem k_X8_takeRule_143  (C : Cx cX8_takeRule RX8 7 (some .int) D cA adK adV A p s m args meth c)  : ∀ (n : Nat) (v3 : Int) (v4 : Int) (v5 : Int) (σ : St) (H : Heap) (locs : List Loc) (ls : Array Slot) , At D cA ad kM 31 R A s σ H locs → lv_has ls 7 [(0, .ref (ad 0)), (3, .int (zI v3)), (4, .int (zI v4)), (5, .int (zI v5))] → p_X8_takeRule_143  n v3 v4 v5 σ = some res → W p l e (rmU 3 71) s m args below meth c H locs 0 0 (MQ below (QI D cA ad kM 31 R A res) args s 0 0 A) (F0 m 143 ls []) := by
  intro n
  induction n with
  | zero =>
    intro v3 v4 v5 σ H locs ls  hw hl h
    have h : none = some res := h
    cases h
  | succ n ih =>
    intro v3 v4 v5 σ H locs ls  hw hl h
    exact k_X8_takeRule_143b C  ih  hw hl h
set_option maxRecDepth 100000 in
set_option maxHeartbeats 4000000 in
theorem k_X8_takeRule_46  {vs1 : Int} (C : Cx cX8_takeRule RX8 7 (some .int) D cA adK adV A p s m args meth c)  {σ : St} {H : Heap} {locs : List Loc} {ls : Array Slot}  (hw : At D cA ad kM 31 R A s σ H locs) (hl : lv_has ls 7 [(0, .ref (ad 0))]) (h : p_X8_takeRule_46  vs1 σ = some res) : W p l e (rmU 3 71) s m args below meth c H locs 0 0 (MQ below (QI D cA ad kM 31 R A res) args s 0 0 A) (F0 m 46 ls [.int (zI vs1), .ref (ad 0)]) := by
  have h := h
  unfold p_X8_takeRule_46 at h
  refine y_aload_n C dX8_takeRule_46 (lv_at hl 0 rfl) ?_
  refine g8 C hw km_0 16 (by decide) wd_887 rfl dX8_takeRule_47 ?_
  obtain ⟨x50, hc50, h⟩ := bd_some h
  refine y_ci (rest := []) hw (y_rV C hw km_0 (by decide) rfl rfl (c_X8_fails  hc50) mi_X8_fails wd_1070 wd_1072 ws_29 rfl ⟨by decide, by decide⟩ hl rfl (Nat.le_of_ble_eq_true rfl) dX8_takeRule_50) (fun H locs hw => ?_)
  exact y_iret C hw h dX8_takeRule_53
set_option maxRecDepth 100000 in
set_option maxHeartbeats 4000000 in
theorem k_X8_takeRule_31  {v1 : Int} (C : Cx cX8_takeRule RX8 7 (some .int) D cA adK adV A p s m args meth c)  {σ : St} {H : Heap} {locs : List Loc} {ls : Array Slot}  (hw : At D cA ad kM 31 R A s σ H locs) (hl : lv_has ls 7 [(0, .ref (ad 0)), (1, .long (zJ v1))]) (h : p_X8_takeRule_31  v1 σ = some res) : W p l e (rmU 3 71) s m args below meth c H locs 0 0 (MQ below (QI D cA ad kM 31 R A res) args s 0 0 A) (F0 m 31 ls []) := by
  have h := h
  unfold p_X8_takeRule_31 at h
  refine y_aload_n C dX8_takeRule_31 (lv_at hl 0 rfl) ?_
  refine y_aload_n C dX8_takeRule_32 (lv_at hl 0 rfl) ?_
  refine g8 C hw km_0 17 (by decide) wd_888 rfl dX8_takeRule_33 ?_
  refine y_lload_n C dX8_takeRule_36 (lv_at hl 1 rfl) ?_
  refine y_lcmp C dX8_takeRule_37 ?_
  refine y_if_eq (tgt := 45) C (a' := zm (zcmp (σ 0 17) v1)) rfl dX8_takeRule_38 (by decide) (fun hc => ?_) (fun hc => ?_)
  · rw [if_pos hc] at h
    refine y_iconst C dX8_takeRule_45 ?_
    exact k_X8_takeRule_46 C   hw (lv_sub hl [0] rfl) h
  · rw [if_neg hc] at h
    refine y_iconst C dX8_takeRule_41 ?_
    refine y_goto (tgt := 46) C dX8_takeRule_42 (by decide) ?_
    exact k_X8_takeRule_46 C   hw (lv_sub hl [0] rfl) h
set_option maxRecDepth 100000 in
set_option maxHeartbeats 4000000 in
theorem k_X8_takeRule_0   (C : Cx cX8_takeRule RX8 7 (some .int) D cA adK adV A p s m args meth c)  {σ : St} {H : Heap} {locs : List Loc} {ls : Array Slot}  (hw : At D cA ad kM 31 R A s σ H locs) (hl : lv_has ls 7 [(0, .ref (ad 0))]) (h : p_X8_takeRule   σ = some res) : W p l e (rmU 3 71) s m args below meth c H locs 0 0 (MQ below (QI D cA ad kM 31 R A res) args s 0 0 A) (F0 m 0 ls []) := by
  have h := h
  unfold p_X8_takeRule at h
  refine y_aload_n C dX8_takeRule_0 (lv_at hl 0 rfl) ?_
  obtain ⟨x1, hc1, h⟩ := bd_some h
  refine y_cv (rest := []) hw (y_rV C hw km_0 (by decide) rfl rfl (c_X8_readWord  hc1) mi_X8_readWord wd_1046 wd_1048 ws_27 rfl ⟨by decide, by decide⟩ hl rfl (Nat.le_of_ble_eq_true rfl) dX8_takeRule_1) (fun H locs hw => ?_)
  refine y_ldc2 C (z := 1503) wd_1159 (by decide) dX8_takeRule_4 ?_
  refine y_lstore_n (lv' := [(1, .long (zJ 1503)), (0, .ref (ad 0))]) C dX8_takeRule_7 hl (by decide) rfl (fun ls hl => ?_)
  refine y_aload_n C dX8_takeRule_8 (lv_at hl 1 rfl) ?_
  refine g8 C hw km_0 17 (by decide) wd_888 rfl dX8_takeRule_9 ?_
  refine y_lload_n C dX8_takeRule_12 (lv_at hl 0 rfl) ?_
  refine y_lcmp C dX8_takeRule_13 ?_
  refine y_if_ne (tgt := 31) C (a' := zm (zcmp (x1.2 0 17) 1503)) rfl dX8_takeRule_14 (by decide) (fun hc => ?_) (fun hc => ?_)
  · rw [if_pos hc] at h
    refine y_aload_n C dX8_takeRule_17 (lv_at hl 1 rfl) ?_
    refine g8 C hw km_0 24 (by decide) wd_895 rfl dX8_takeRule_18 ?_
    refine y_aload_n C dX8_takeRule_21 (lv_at hl 1 rfl) ?_
    refine g8 C hw km_0 23 (by decide) wd_894 rfl dX8_takeRule_22 ?_
    obtain ⟨hg25, h⟩ := gd_some h
    refine y_iald C hw km_14 (i' := zm (x1.2 0 23)) rfl hg25 dX8_takeRule_25 ?_
    refine y_bipush C dX8_takeRule_26 (by decide) ?_
    refine y_icmp_ne (tgt := 54) C (a' := zm (x1.2 14 (zm (x1.2 0 23)))) (b' := 6) rfl (by decide) dX8_takeRule_28 (by decide) (fun hc => ?_) (fun hc => ?_)
    · rw [if_pos hc] at h
      exact k_X8_takeRule_31 C   hw (lv_sub hl [1, 0] rfl) h
    · rw [if_neg hc] at h
      refine y_aload_n C dX8_takeRule_54 (lv_at hl 1 rfl) ?_
      refine y_aload_n C dX8_takeRule_55 (lv_at hl 1 rfl) ?_
      refine g8 C hw km_0 18 (by decide) wd_889 rfl dX8_takeRule_56 ?_
      obtain ⟨σ59, eσ59, h⟩ := nx_some h
      refine q8 C hw km_0 16 (by decide) wd_887 rfl rfl rfl (by decide) (x1.2 0 18) 16 rfl rfl dX8_takeRule_59 (fun H locs hw => ?_)
      rw [← eσ59] at hw
      refine y_bipush C dX8_takeRule_62 (by decide) ?_
      refine y_aload_n C dX8_takeRule_64 (lv_at hl 1 rfl) ?_
      refine g8 C hw km_0 23 (by decide) wd_894 rfl dX8_takeRule_65 ?_
      refine y_imul C dX8_takeRule_68 ?_
      refine y_iconst C dX8_takeRule_69 ?_
      refine y_aload_n C dX8_takeRule_70 (lv_at hl 1 rfl) ?_
      refine g8 C hw km_0 24 (by decide) wd_895 rfl dX8_takeRule_71 ?_
      refine y_aload_n C dX8_takeRule_74 (lv_at hl 1 rfl) ?_
      refine g8 C hw km_0 23 (by decide) wd_894 rfl dX8_takeRule_75 ?_
      obtain ⟨hg78, h⟩ := gd_some h
      refine y_iald C hw km_14 (i' := zm (σ59 0 23)) rfl hg78 dX8_takeRule_78 ?_
      refine y_imul C dX8_takeRule_79 ?_
      refine y_iadd C dX8_takeRule_80 ?_
      obtain ⟨z81, ez81, h⟩ := nz_some h
      rw [← ez81]
      refine y_istore_n (lv' := [(3, .int (zI z81)), (1, .long (zJ 1503)), (0, .ref (ad 0))]) C dX8_takeRule_81 hl (by decide) rfl (fun ls hl => ?_)
      refine y_aload_n C dX8_takeRule_82 (lv_at hl 2 rfl) ?_
      refine y_iconst C dX8_takeRule_83 ?_
      refine y_sipush C dX8_takeRule_84 (by decide) ?_
      obtain ⟨x87, hc87, h⟩ := bd_some h
      refine y_ci (rest := []) hw (y_rV C hw km_0 (by decide) rfl rfl (c_X8_takeNumber  hc87) mi_X8_takeNumber wd_1074 wd_1076 ws_30 rfl ⟨by decide, by decide⟩ hl rfl (Nat.le_of_ble_eq_true rfl) dX8_takeRule_87) (fun H locs hw => ?_)
      refine y_istore (lv' := [(4, .int (zI x87.1)), (3, .int (zI z81)), (1, .long (zJ 1503)), (0, .ref (ad 0))]) C dX8_takeRule_90 hl (by decide) rfl (fun ls hl => ?_)
      refine y_aload_n C dX8_takeRule_92 (lv_at hl 3 rfl) ?_
      refine g8 C hw km_0 25 (by decide) wd_896 rfl dX8_takeRule_93 ?_
      refine y_iload_n C dX8_takeRule_96 (lv_at hl 1 rfl) ?_
      refine y_aload_n C dX8_takeRule_97 (lv_at hl 3 rfl) ?_
      refine g8 C hw km_0 19 (by decide) wd_890 rfl dX8_takeRule_98 ?_
      obtain ⟨hg101, h⟩ := gd_some h
      obtain ⟨σ101, eσ101, h⟩ := nx_some h
      refine y_iast C hw km_15 (i' := zm z81) rfl hg101 dX8_takeRule_101 (fun H locs hw => ?_)
      rw [← eσ101] at hw
      refine y_aload_n C dX8_takeRule_102 (lv_at hl 3 rfl) ?_
      refine g8 C hw km_0 25 (by decide) wd_896 rfl dX8_takeRule_103 ?_
      refine y_iload_n C dX8_takeRule_106 (lv_at hl 1 rfl) ?_
      refine y_iconst C dX8_takeRule_107 ?_
      refine y_iadd C dX8_takeRule_108 ?_
      refine y_iconst C dX8_takeRule_109 ?_
      obtain ⟨hg110, h⟩ := gd_some h
      obtain ⟨σ110, eσ110, h⟩ := nx_some h
      refine y_iast C hw km_15 (i' := zm (z81 + 1)) rfl hg110 dX8_takeRule_110 (fun H locs hw => ?_)
      rw [← eσ110] at hw
      refine y_aload_n C dX8_takeRule_111 (lv_at hl 3 rfl) ?_
      refine g8 C hw km_0 25 (by decide) wd_896 rfl dX8_takeRule_112 ?_
      refine y_iload_n C dX8_takeRule_115 (lv_at hl 1 rfl) ?_
      refine y_iconst C dX8_takeRule_116 ?_
      refine y_iadd C dX8_takeRule_117 ?_
      refine y_bipush C dX8_takeRule_118 (by decide) ?_
      obtain ⟨hg120, h⟩ := gd_some h
      obtain ⟨σ120, eσ120, h⟩ := nx_some h
      refine y_iast C hw km_15 (i' := zm (z81 + 2)) rfl hg120 dX8_takeRule_120 (fun H locs hw => ?_)
      rw [← eσ120] at hw
      refine y_aload_n C dX8_takeRule_121 (lv_at hl 3 rfl) ?_
      refine g8 C hw km_0 25 (by decide) wd_896 rfl dX8_takeRule_122 ?_
      refine y_iload_n C dX8_takeRule_125 (lv_at hl 1 rfl) ?_
      refine y_iconst C dX8_takeRule_126 ?_
      refine y_iadd C dX8_takeRule_127 ?_
      refine y_iconst C dX8_takeRule_128 ?_
      obtain ⟨hg129, h⟩ := gd_some h
      obtain ⟨σ129, eσ129, h⟩ := nx_some h
      refine y_iast C hw km_15 (i' := zm (z81 + 3)) rfl hg129 dX8_takeRule_129 (fun H locs hw => ?_)
      rw [← eσ129] at hw
      refine y_aload_n C dX8_takeRule_130 (lv_at hl 3 rfl) ?_
      refine g8 C hw km_0 25 (by decide) wd_896 rfl dX8_takeRule_131 ?_
      refine y_iload_n C dX8_takeRule_134 (lv_at hl 1 rfl) ?_
      refine y_iconst C dX8_takeRule_135 ?_
      refine y_iadd C dX8_takeRule_136 ?_
      refine y_bipush C dX8_takeRule_137 (by decide) ?_
      obtain ⟨hg139, h⟩ := gd_some h
      obtain ⟨σ139, eσ139, h⟩ := nx_some h
      refine y_iast C hw km_15 (i' := zm (z81 + 4)) rfl hg139 dX8_takeRule_139 (fun H locs hw => ?_)
      rw [← eσ139] at hw
      refine y_iconst C dX8_takeRule_140 ?_
      refine y_istore (lv' := [(5, .int (zI 0)), (4, .int (zI x87.1)), (3, .int (zI z81)), (1, .long (zJ 1503)), (0, .ref (ad 0))]) C dX8_takeRule_141 hl (by decide) rfl (fun ls hl => ?_)
      exact k_X8_takeRule_143 C  FU _ _ _ _ _ _ _  hw (lv_sub hl [4, 2, 1, 0] rfl) h
  · rw [if_neg hc] at h
    exact k_X8_takeRule_31 C   hw (lv_sub hl [1, 0] rfl) h
theorem c_X8_takeRule {l : Launch} {D : va_G} {cA : Nat → ClassId} {adK adV : Nat → Nat} {A : Nat → Prop} {ad : Int → Nat} {R : va_W} {σ : St} {res : Int × St}   (h : p_X8_takeRule  σ = some res) : Met l yX8_takeRule (wsU yX8_takeRule cX8_takeRule 7 (some .int)) (rmU 3 71) (va_Pc [.ref (ad 0)] (Pr D cA adK adV ad kM 31 R A σ)) (QI D cA ad kM 31 R A res) 0 0 A :=
  y_met (own := RX8) (by decide) rfl _ (Nat.le_of_ble_eq_true rfl) (fun p e s m args below meth c ls C hl hw => k_X8_takeRule_0 C  hw hl h)
/-! RungHouseModel.rule -/
set_option maxRecDepth 100000 in
set_option maxHeartbeats 4000000 in
theorem k_X8_rule_64  {v1 : Int} (C : Cx cX8_rule RX8 2 (some .int) D cA adK adV A p s m args meth c)  {σ : St} {H : Heap} {locs : List Loc} {ls : Array Slot}  (hw : At D cA ad kM 31 R A s σ H locs) (hl : lv_has ls 2 [(0, .ref (ad 0)), (1, .int (zI v1))]) (h : p_X8_rule_64  v1 σ = some res) : W p l e (rmU 4 97) s m args below meth c H locs 0 0 (MQ below (QI D cA ad kM 31 R A res) args s 0 0 A) (F0 m 64 ls []) := by
  have h := h
  unfold p_X8_rule_64 at h
  refine y_aload_n C dX8_rule_64 (lv_at hl 0 rfl) ?_
  refine y_iconst C dX8_rule_65 ?_
  obtain ⟨σ66, eσ66, h⟩ := nx_some h
  refine q8 C hw km_0 14 (by decide) wd_885 rfl rfl rfl (by decide) 0 14 rfl rfl dX8_rule_66 (fun H locs hw => ?_)
  rw [← eσ66] at hw
  refine y_iload_n C dX8_rule_69 (lv_at hl 1 rfl) ?_
  refine y_if_le (tgt := 78) C (a' := zm v1) rfl dX8_rule_70 (by decide) (fun hc => ?_) (fun hc => ?_)
  · rw [if_pos hc] at h
    refine y_aload_n C dX8_rule_78 (lv_at hl 0 rfl) ?_
    refine y_dup C dX8_rule_79 rfl ?_
    refine g8 C hw km_0 23 (by decide) wd_894 rfl dX8_rule_80 ?_
    refine y_iconst C dX8_rule_83 ?_
    refine y_iadd C dX8_rule_84 ?_
    obtain ⟨σ85, eσ85, h⟩ := nx_some h
    refine q8 C hw km_0 23 (by decide) wd_894 rfl rfl rfl (by decide) ((σ66 0 23) + 1) 23 rfl rfl dX8_rule_85 (fun H locs hw => ?_)
    rw [← eσ85] at hw
    refine y_aload_n C dX8_rule_88 (lv_at hl 0 rfl) ?_
    refine g8 C hw km_0 23 (by decide) wd_894 rfl dX8_rule_89 ?_
    refine y_iconst C dX8_rule_92 ?_
    refine y_isub C dX8_rule_93 ?_
    exact y_iret C hw h dX8_rule_94
  · rw [if_neg hc] at h
    refine y_bipush C dX8_rule_73 (by decide) ?_
    refine y_iload_n C dX8_rule_75 (lv_at hl 1 rfl) ?_
    refine y_isub C dX8_rule_76 ?_
    exact y_iret C hw h dX8_rule_77
set_option maxRecDepth 100000 in
set_option maxHeartbeats 4000000 in
theorem k_X8_rule_45b {K45 : Int → St → Option (Int × St)} {v1 : Int} (C : Cx cX8_rule RX8 2 (some .int) D cA adK adV A p s m args meth c)  (hK45 : ∀ (v1 : Int) (σ : St) (H : Heap) (locs : List Loc) (ls : Array Slot) , At D cA ad kM 31 R A s σ H locs → lv_has ls 2 [(0, .ref (ad 0)), (1, .int (zI v1))] → K45 v1 σ = some res → W p l e (rmU 4 97) s m args below meth c H locs 0 0 (MQ below (QI D cA ad kM 31 R A res) args s 0 0 A) (F0 m 45 ls [])) {σ : St} {H : Heap} {locs : List Loc} {ls : Array Slot}  (hw : At D cA ad kM 31 R A s σ H locs) (hl : lv_has ls 2 [(0, .ref (ad 0)), (1, .int (zI v1))]) (h : p_X8_rule_45b K45 v1 σ = some res) : W p l e (rmU 4 97) s m args below meth c H locs 0 0 (MQ below (QI D cA ad kM 31 R A res) args s 0 0 A) (F0 m 45 ls []) := by
  have h := h
  unfold p_X8_rule_45b at h
  refine y_iload_n C dX8_rule_45 (lv_at hl 1 rfl) ?_
  refine y_if_ne (tgt := 64) C (a' := zm v1) rfl dX8_rule_46 (by decide) (fun hc => ?_) (fun hc => ?_)
  · rw [if_pos hc] at h
    refine y_aload_n C dX8_rule_49 (lv_at hl 0 rfl) ?_
    obtain ⟨x50, hc50, h⟩ := bd_some h
    refine y_ci (rest := []) hw (y_rV C hw km_0 (by decide) rfl rfl (c_X8_here  hc50) mi_X8_here wd_1038 wd_1040 ws_25 rfl ⟨by decide, by decide⟩ hl rfl (Nat.le_of_ble_eq_true rfl) dX8_rule_50) (fun H locs hw => ?_)
    refine y_if_lt (tgt := 64) C (a' := zm x50.1) rfl dX8_rule_53 (by decide) (fun hc => ?_) (fun hc => ?_)
    · rw [if_pos hc] at h
      exact k_X8_rule_64 C   hw hl h
    · rw [if_neg hc] at h
      refine y_aload_n C dX8_rule_56 (lv_at hl 0 rfl) ?_
      obtain ⟨x57, hc57, h⟩ := bd_some h
      refine y_ci (rest := []) hw (y_rV C hw km_0 (by decide) rfl rfl (c_X8_takeRule  hc57) mi_X8_takeRule wd_1155 wd_1157 ws_42 rfl ⟨by decide, by decide⟩ hl rfl (Nat.le_of_ble_eq_true rfl) dX8_rule_57) (fun H locs hw => ?_)
      refine y_istore_n (lv' := [(1, .int (zI x57.1)), (0, .ref (ad 0))]) C dX8_rule_60 hl (by decide) rfl (fun ls hl => ?_)
      refine y_goto (tgt := 45) C dX8_rule_61 (by decide) ?_
      exact hK45 _ _ _ _ _  hw (lv_sub hl [1, 0] rfl) h
  · rw [if_neg hc] at h
    exact k_X8_rule_64 C   hw hl h
set_option maxRecDepth 100000 in
theorem k_X8_rule_45  (C : Cx cX8_rule RX8 2 (some .int) D cA adK adV A p s m args meth c)  : ∀ (n : Nat) (v1 : Int) (σ : St) (H : Heap) (locs : List Loc) (ls : Array Slot) , At D cA ad kM 31 R A s σ H locs → lv_has ls 2 [(0, .ref (ad 0)), (1, .int (zI v1))] → p_X8_rule_45  n v1 σ = some res → W p l e (rmU 4 97) s m args below meth c H locs 0 0 (MQ below (QI D cA ad kM 31 R A res) args s 0 0 A) (F0 m 45 ls []) := by
  intro n
  induction n with
  | zero =>
    intro v1 σ H locs ls  hw hl h
    have h : none = some res := h
    cases h
  | succ n ih =>
    intro v1 σ H locs ls  hw hl h
    exact k_X8_rule_45b C  ih  hw hl h
set_option maxRecDepth 100000 in
set_option maxHeartbeats 4000000 in
theorem k_X8_rule_0   (C : Cx cX8_rule RX8 2 (some .int) D cA adK adV A p s m args meth c)  {σ : St} {H : Heap} {locs : List Loc} {ls : Array Slot}  (hw : At D cA ad kM 31 R A s σ H locs) (hl : lv_has ls 2 [(0, .ref (ad 0))]) (h : p_X8_rule   σ = some res) : W p l e (rmU 4 97) s m args below meth c H locs 0 0 (MQ below (QI D cA ad kM 31 R A res) args s 0 0 A) (F0 m 0 ls []) := by
  have h := h
  unfold p_X8_rule at h
  refine y_aload_n C dX8_rule_0 (lv_at hl 0 rfl) ?_
  refine g8 C hw km_0 14 (by decide) wd_885 rfl dX8_rule_1 ?_
  refine y_bipush C dX8_rule_4 (by decide) ?_
  refine y_icmp_le (tgt := 12) C (a' := zm (σ 0 14)) (b' := 120) rfl (by decide) dX8_rule_6 (by decide) (fun hc => ?_) (fun hc => ?_)
  · rw [if_pos hc] at h
    refine y_aload_n C dX8_rule_12 (lv_at hl 0 rfl) ?_
    refine g8 C hw km_0 23 (by decide) wd_894 rfl dX8_rule_13 ?_
    refine y_iconst C dX8_rule_16 ?_
    refine y_icmp_ne (tgt := 23) C (a' := zm (σ 0 23)) (b' := 4) rfl (by decide) dX8_rule_17 (by decide) (fun hc => ?_) (fun hc => ?_)
    · rw [if_pos hc] at h
      refine y_ldc C (z := (-1000000004)) wd_1031 (by decide) dX8_rule_20 ?_
      exact y_iret C hw h dX8_rule_22
    · rw [if_neg hc] at h
      refine y_aload_n C dX8_rule_23 (lv_at hl 0 rfl) ?_
      refine y_iconst C dX8_rule_24 ?_
      obtain ⟨σ25, eσ25, h⟩ := nx_some h
      refine q8 C hw km_0 15 (by decide) wd_886 rfl rfl rfl (by decide) (-1) 15 rfl rfl dX8_rule_25 (fun H locs hw => ?_)
      rw [← eσ25] at hw
      refine y_aload_n C dX8_rule_28 (lv_at hl 0 rfl) ?_
      refine y_iconst C dX8_rule_29 ?_
      obtain ⟨σ30, eσ30, h⟩ := nx_some h
      refine q8 C hw km_0 16 (by decide) wd_887 rfl rfl rfl (by decide) 0 16 rfl rfl dX8_rule_30 (fun H locs hw => ?_)
      rw [← eσ30] at hw
      refine y_aload_n C dX8_rule_33 (lv_at hl 0 rfl) ?_
      refine g8 C hw km_0 24 (by decide) wd_895 rfl dX8_rule_34 ?_
      refine y_aload_n C dX8_rule_37 (lv_at hl 0 rfl) ?_
      refine g8 C hw km_0 23 (by decide) wd_894 rfl dX8_rule_38 ?_
      refine y_iconst C dX8_rule_41 ?_
      obtain ⟨hg42, h⟩ := gd_some h
      obtain ⟨σ42, eσ42, h⟩ := nx_some h
      refine y_iast C hw km_14 (i' := zm (σ30 0 23)) rfl hg42 dX8_rule_42 (fun H locs hw => ?_)
      rw [← eσ42] at hw
      refine y_iconst C dX8_rule_43 ?_
      refine y_istore_n (lv' := [(1, .int (zI 0)), (0, .ref (ad 0))]) C dX8_rule_44 hl (by decide) rfl (fun ls hl => ?_)
      exact k_X8_rule_45 C  FU _ _ _ _ _  hw (lv_sub hl [1, 0] rfl) h
  · rw [if_neg hc] at h
    refine y_ldc C (z := (-1000000003)) wd_1121 (by decide) dX8_rule_9 ?_
    exact y_iret C hw h dX8_rule_11
theorem c_X8_rule {l : Launch} {D : va_G} {cA : Nat → ClassId} {adK adV : Nat → Nat} {A : Nat → Prop} {ad : Int → Nat} {R : va_W} {σ : St} {res : Int × St}   (h : p_X8_rule  σ = some res) : Met l yX8_rule (wsU yX8_rule cX8_rule 2 (some .int)) (rmU 4 97) (va_Pc [.ref (ad 0)] (Pr D cA adK adV ad kM 31 R A σ)) (QI D cA ad kM 31 R A res) 0 0 A :=
  y_met (own := RX8) (by decide) rfl _ (Nat.le_of_ble_eq_true rfl) (fun p e s m args below meth c ls C hl hw => k_X8_rule_0 C  hw hl h)
/-! RungHouseModel.isRule -/
set_option maxRecDepth 100000 in
set_option maxHeartbeats 4000000 in
theorem k_X8_isRule_0  {v1 : Int} (C : Cx cX8_isRule RX8 2 (some .boolean) D cA adK adV A p s m args meth c)  {σ : St} {H : Heap} {locs : List Loc} {ls : Array Slot}  (hw : At D cA ad kM 31 R A s σ H locs) (hl : lv_has ls 2 [(0, .ref (ad 0)), (1, .int (zI v1))]) (h : p_X8_isRule  v1 σ = some res) : W p l e (rmU 1 25) s m args below meth c H locs 0 0 (MQ below (QI D cA ad kM 31 R A res) args s 0 0 A) (F0 m 0 ls []) := by
  have h := h
  unfold p_X8_isRule at h
  refine y_iload_n C dX8_isRule_0 (lv_at hl 1 rfl) ?_
  refine y_i2l C rfl dX8_isRule_1 ?_
  refine y_lconst C (z' := 0) dX8_isRule_2 (by decide) ?_
  refine y_aload_n C dX8_isRule_3 (lv_at hl 0 rfl) ?_
  refine g8 C hw km_0 23 (by decide) wd_894 rfl dX8_isRule_4 ?_
  refine y_iconst C dX8_isRule_7 ?_
  refine y_isub C dX8_isRule_8 ?_
  refine y_i2l C rfl dX8_isRule_9 ?_
  obtain ⟨x10, hc10, h⟩ := bd_some h
  refine y_ci (rest := []) hw (y_rS C hw (c_X8_within  hc10) mi_X8_within wd_1027 wd_1028 rfl ⟨by decide, by decide⟩ hl rfl (Nat.le_of_ble_eq_true rfl) dX8_isRule_10) (fun H locs hw => ?_)
  obtain ⟨hb, h⟩ := gd_some h
  exact y_zret C hw hb h dX8_isRule_13
theorem c_X8_isRule {l : Launch} {D : va_G} {cA : Nat → ClassId} {adK adV : Nat → Nat} {A : Nat → Prop} {ad : Int → Nat} {R : va_W} {σ : St} {res : Int × St} {v1 : Int}  (h : p_X8_isRule v1 σ = some res) : Met l yX8_isRule (wsU yX8_isRule cX8_isRule 2 (some .boolean)) (rmU 1 25) (va_Pc [.ref (ad 0), .int (zI v1)] (Pr D cA adK adV ad kM 31 R A σ)) (QI D cA ad kM 31 R A res) 0 0 A :=
  y_met (own := RX8) (by decide) rfl _ (Nat.le_of_ble_eq_true rfl) (fun p e s m args below meth c ls C hl hw => k_X8_isRule_0 C  hw hl h)
/-! RungHouseModel.asksBy -/
set_option maxRecDepth 100000 in
set_option maxHeartbeats 4000000 in
theorem k_X8_asksBy_99 {K3 : Int → Int → Int → Int → Int → St → Option (Int × St)} {v1 : Int} {v2 : Int} {v3 : Int} {v4 : Int} {v5 : Int} (C : Cx cX8_asksBy RX8 7 (some .boolean) D cA adK adV A p s m args meth c) (hK3 : ∀ (v1 : Int) (v2 : Int) (v3 : Int) (v4 : Int) (v5 : Int) (σ : St) (H : Heap) (locs : List Loc) (ls : Array Slot) , At D cA ad kM 31 R A s σ H locs → lv_has ls 7 [(0, .ref (ad 0)), (1, .int (zI v1)), (2, .int (zI v2)), (3, .int (zI v3)), (4, .int (zI v4)), (5, .int (zI v5))] → K3 v1 v2 v3 v4 v5 σ = some res → W p l e (rmU 1 25) s m args below meth c H locs 0 0 (MQ below (QI D cA ad kM 31 R A res) args s 0 0 A) (F0 m 3 ls [])) {σ : St} {H : Heap} {locs : List Loc} {ls : Array Slot}  (hw : At D cA ad kM 31 R A s σ H locs) (hl : lv_has ls 7 [(0, .ref (ad 0)), (1, .int (zI v1)), (2, .int (zI v2)), (3, .int (zI v3)), (4, .int (zI v4)), (5, .int (zI v5))]) (h : p_X8_asksBy_99 K3 v1 v2 v3 v4 v5 σ = some res) : W p l e (rmU 1 25) s m args below meth c H locs 0 0 (MQ below (QI D cA ad kM 31 R A res) args s 0 0 A) (F0 m 99 ls []) := by
  have h := h
  unfold p_X8_asksBy_99 at h
  refine y_iinc (lv' := [(5, .int (zI (v5 + 1))), (0, .ref (ad 0)), (1, .int (zI v1)), (2, .int (zI v2)), (3, .int (zI v3)), (4, .int (zI v4))]) C dX8_asksBy_99 hl (k := 5) rfl (by decide) rfl (fun ls hl => ?_)
  refine y_goto (tgt := 3) C dX8_asksBy_102 (by decide) ?_
  exact hK3 _ _ _ _ _ _ _ _ _  hw (lv_sub hl [1, 2, 3, 4, 5, 0] rfl) h
set_option maxRecDepth 100000 in
set_option maxHeartbeats 4000000 in
theorem k_X8_asksBy_3b {K3 : Int → Int → Int → Int → Int → St → Option (Int × St)} {v1 : Int} {v2 : Int} {v3 : Int} {v4 : Int} {v5 : Int} (C : Cx cX8_asksBy RX8 7 (some .boolean) D cA adK adV A p s m args meth c)  (hK3 : ∀ (v1 : Int) (v2 : Int) (v3 : Int) (v4 : Int) (v5 : Int) (σ : St) (H : Heap) (locs : List Loc) (ls : Array Slot) , At D cA ad kM 31 R A s σ H locs → lv_has ls 7 [(0, .ref (ad 0)), (1, .int (zI v1)), (2, .int (zI v2)), (3, .int (zI v3)), (4, .int (zI v4)), (5, .int (zI v5))] → K3 v1 v2 v3 v4 v5 σ = some res → W p l e (rmU 1 25) s m args below meth c H locs 0 0 (MQ below (QI D cA ad kM 31 R A res) args s 0 0 A) (F0 m 3 ls [])) {σ : St} {H : Heap} {locs : List Loc} {ls : Array Slot}  (hw : At D cA ad kM 31 R A s σ H locs) (hl : lv_has ls 7 [(0, .ref (ad 0)), (1, .int (zI v1)), (2, .int (zI v2)), (3, .int (zI v3)), (4, .int (zI v4)), (5, .int (zI v5))]) (h : p_X8_asksBy_3b K3 v1 v2 v3 v4 v5 σ = some res) : W p l e (rmU 1 25) s m args below meth c H locs 0 0 (MQ below (QI D cA ad kM 31 R A res) args s 0 0 A) (F0 m 3 ls []) := by
  have h := h
  unfold p_X8_asksBy_3b at h
  refine y_iload C dX8_asksBy_3 (lv_at hl 5 rfl) ?_
  refine y_aload_n C dX8_asksBy_5 (lv_at hl 0 rfl) ?_
  refine g8 C hw km_0 24 (by decide) wd_895 rfl dX8_asksBy_6 ?_
  refine y_iload_n C dX8_asksBy_9 (lv_at hl 1 rfl) ?_
  obtain ⟨hg10, h⟩ := gd_some h
  refine y_iald C hw km_14 (i' := zm v1) rfl hg10 dX8_asksBy_10 ?_
  refine y_icmp_ge (tgt := 105) C (a' := zm v5) (b' := zm (σ 14 (zm v1))) rfl rfl dX8_asksBy_11 (by decide) (fun hc => ?_) (fun hc => ?_)
  · rw [if_pos hc] at h
    refine y_iconst C dX8_asksBy_105 ?_
    exact y_zret C hw (by decide) h dX8_asksBy_106
  · rw [if_neg hc] at h
    refine y_bipush C dX8_asksBy_14 (by decide) ?_
    refine y_iload_n C dX8_asksBy_16 (lv_at hl 1 rfl) ?_
    refine y_imul C dX8_asksBy_17 ?_
    refine y_iconst C dX8_asksBy_18 ?_
    refine y_iload C dX8_asksBy_19 (lv_at hl 5 rfl) ?_
    refine y_imul C dX8_asksBy_21 ?_
    refine y_iadd C dX8_asksBy_22 ?_
    refine y_istore (lv' := [(6, .int (zI ((30 * v1) + (5 * v5)))), (0, .ref (ad 0)), (1, .int (zI v1)), (2, .int (zI v2)), (3, .int (zI v3)), (4, .int (zI v4)), (5, .int (zI v5))]) C dX8_asksBy_23 hl (by decide) rfl (fun ls hl => ?_)
    refine y_iload_n C dX8_asksBy_25 (lv_at hl 3 rfl) ?_
    refine y_i2l C rfl dX8_asksBy_26 ?_
    refine y_aload_n C dX8_asksBy_27 (lv_at hl 1 rfl) ?_
    refine g8 C hw km_0 25 (by decide) wd_896 rfl dX8_asksBy_28 ?_
    refine y_iload C dX8_asksBy_31 (lv_at hl 0 rfl) ?_
    refine y_iconst C dX8_asksBy_33 ?_
    refine y_iadd C dX8_asksBy_34 ?_
    obtain ⟨hg35, h⟩ := gd_some h
    refine y_iald C hw km_15 (i' := zm (((30 * v1) + (5 * v5)) + 1)) rfl hg35 dX8_asksBy_35 ?_
    refine y_i2l C rfl dX8_asksBy_36 ?_
    refine y_aload_n C dX8_asksBy_37 (lv_at hl 1 rfl) ?_
    refine g8 C hw km_0 25 (by decide) wd_896 rfl dX8_asksBy_38 ?_
    refine y_iload C dX8_asksBy_41 (lv_at hl 0 rfl) ?_
    refine y_iconst C dX8_asksBy_43 ?_
    refine y_iadd C dX8_asksBy_44 ?_
    obtain ⟨hg45, h⟩ := gd_some h
    refine y_iald C hw km_15 (i' := zm (((30 * v1) + (5 * v5)) + 2)) rfl hg45 dX8_asksBy_45 ?_
    refine y_i2l C rfl dX8_asksBy_46 ?_
    obtain ⟨x47, hc47, h⟩ := bd_some h
    refine y_ci (rest := []) hw (y_rS C hw (c_X8_within  hc47) mi_X8_within wd_1027 wd_1028 rfl ⟨by decide, by decide⟩ hl rfl (Nat.le_of_ble_eq_true rfl) dX8_asksBy_47) (fun H locs hw => ?_)
    refine y_if_eq (tgt := 99) C (a' := zm x47.1) rfl dX8_asksBy_50 (by decide) (fun hc => ?_) (fun hc => ?_)
    · rw [if_pos hc] at h
      exact k_X8_asksBy_99 C hK3  hw (lv_sub hl [1, 2, 3, 4, 5, 6] rfl) h
    · rw [if_neg hc] at h
      refine y_iload_n C dX8_asksBy_53 (lv_at hl 4 rfl) ?_
      refine y_i2l C rfl dX8_asksBy_54 ?_
      refine y_aload_n C dX8_asksBy_55 (lv_at hl 1 rfl) ?_
      refine g8 C hw km_0 25 (by decide) wd_896 rfl dX8_asksBy_56 ?_
      refine y_iload C dX8_asksBy_59 (lv_at hl 0 rfl) ?_
      refine y_iconst C dX8_asksBy_61 ?_
      refine y_iadd C dX8_asksBy_62 ?_
      obtain ⟨hg63, h⟩ := gd_some h
      refine y_iald C hw km_15 (i' := zm (((30 * v1) + (5 * v5)) + 3)) rfl hg63 dX8_asksBy_63 ?_
      refine y_i2l C rfl dX8_asksBy_64 ?_
      refine y_aload_n C dX8_asksBy_65 (lv_at hl 1 rfl) ?_
      refine g8 C hw km_0 25 (by decide) wd_896 rfl dX8_asksBy_66 ?_
      refine y_iload C dX8_asksBy_69 (lv_at hl 0 rfl) ?_
      refine y_iconst C dX8_asksBy_71 ?_
      refine y_iadd C dX8_asksBy_72 ?_
      obtain ⟨hg73, h⟩ := gd_some h
      refine y_iald C hw km_15 (i' := zm (((30 * v1) + (5 * v5)) + 4)) rfl hg73 dX8_asksBy_73 ?_
      refine y_i2l C rfl dX8_asksBy_74 ?_
      obtain ⟨x75, hc75, h⟩ := bd_some h
      refine y_ci (rest := []) hw (y_rS C hw (c_X8_within  hc75) mi_X8_within wd_1027 wd_1028 rfl ⟨by decide, by decide⟩ hl rfl (Nat.le_of_ble_eq_true rfl) dX8_asksBy_75) (fun H locs hw => ?_)
      refine y_if_eq (tgt := 99) C (a' := zm x75.1) rfl dX8_asksBy_78 (by decide) (fun hc => ?_) (fun hc => ?_)
      · rw [if_pos hc] at h
        exact k_X8_asksBy_99 C hK3  hw (lv_sub hl [1, 2, 3, 4, 5, 6] rfl) h
      · rw [if_neg hc] at h
        refine y_iload C dX8_asksBy_81 (lv_at hl 5 rfl) ?_
        refine y_aload_n C dX8_asksBy_83 (lv_at hl 1 rfl) ?_
        refine g8 C hw km_0 25 (by decide) wd_896 rfl dX8_asksBy_84 ?_
        refine y_iload C dX8_asksBy_87 (lv_at hl 0 rfl) ?_
        obtain ⟨hg89, h⟩ := gd_some h
        refine y_iald C hw km_15 (i' := zm ((30 * v1) + (5 * v5))) rfl hg89 dX8_asksBy_89 ?_
        refine y_icmp_lt (tgt := 97) C (a' := zm v4) (b' := zm (x75.2 15 (zm ((30 * v1) + (5 * v5))))) rfl rfl dX8_asksBy_90 (by decide) (fun hc => ?_) (fun hc => ?_)
        · rw [if_pos hc] at h
          refine y_iconst C dX8_asksBy_97 ?_
          exact y_zret C hw (by decide) h dX8_asksBy_98
        · rw [if_neg hc] at h
          refine y_iconst C dX8_asksBy_93 ?_
          refine y_goto (tgt := 98) C dX8_asksBy_94 (by decide) ?_
          exact y_zret C hw (by decide) h dX8_asksBy_98
set_option maxRecDepth 100000 in
theorem k_X8_asksBy_3  (C : Cx cX8_asksBy RX8 7 (some .boolean) D cA adK adV A p s m args meth c)  : ∀ (n : Nat) (v1 : Int) (v2 : Int) (v3 : Int) (v4 : Int) (v5 : Int) (σ : St) (H : Heap) (locs : List Loc) (ls : Array Slot) , At D cA ad kM 31 R A s σ H locs → lv_has ls 7 [(0, .ref (ad 0)), (1, .int (zI v1)), (2, .int (zI v2)), (3, .int (zI v3)), (4, .int (zI v4)), (5, .int (zI v5))] → p_X8_asksBy_3  n v1 v2 v3 v4 v5 σ = some res → W p l e (rmU 1 25) s m args below meth c H locs 0 0 (MQ below (QI D cA ad kM 31 R A res) args s 0 0 A) (F0 m 3 ls []) := by
  intro n
  induction n with
  | zero =>
    intro v1 v2 v3 v4 v5 σ H locs ls  hw hl h
    have h : none = some res := h
    cases h
  | succ n ih =>
    intro v1 v2 v3 v4 v5 σ H locs ls  hw hl h
    exact k_X8_asksBy_3b C  ih  hw hl h
set_option maxRecDepth 100000 in
set_option maxHeartbeats 4000000 in
theorem k_X8_asksBy_0  {v1 : Int} {v2 : Int} {v3 : Int} {v4 : Int} (C : Cx cX8_asksBy RX8 7 (some .boolean) D cA adK adV A p s m args meth c)  {σ : St} {H : Heap} {locs : List Loc} {ls : Array Slot}  (hw : At D cA ad kM 31 R A s σ H locs) (hl : lv_has ls 7 [(0, .ref (ad 0)), (1, .int (zI v1)), (2, .int (zI v2)), (3, .int (zI v3)), (4, .int (zI v4))]) (h : p_X8_asksBy  v1 v2 v3 v4 σ = some res) : W p l e (rmU 1 25) s m args below meth c H locs 0 0 (MQ below (QI D cA ad kM 31 R A res) args s 0 0 A) (F0 m 0 ls []) := by
  have h := h
  unfold p_X8_asksBy at h
  refine y_iconst C dX8_asksBy_0 ?_
  refine y_istore (lv' := [(5, .int (zI 0)), (0, .ref (ad 0)), (1, .int (zI v1)), (2, .int (zI v2)), (3, .int (zI v3)), (4, .int (zI v4))]) C dX8_asksBy_1 hl (by decide) rfl (fun ls hl => ?_)
  exact k_X8_asksBy_3 C  FU _ _ _ _ _ _ _ _ _  hw (lv_sub hl [1, 2, 3, 4, 5, 0] rfl) h
theorem c_X8_asksBy {l : Launch} {D : va_G} {cA : Nat → ClassId} {adK adV : Nat → Nat} {A : Nat → Prop} {ad : Int → Nat} {R : va_W} {σ : St} {res : Int × St} {v1 : Int} {v2 : Int} {v3 : Int} {v4 : Int}  (h : p_X8_asksBy v1 v2 v3 v4 σ = some res) : Met l yX8_asksBy (wsU yX8_asksBy cX8_asksBy 7 (some .boolean)) (rmU 1 25) (va_Pc [.ref (ad 0), .int (zI v1), .int (zI v2), .int (zI v3), .int (zI v4)] (Pr D cA adK adV ad kM 31 R A σ)) (QI D cA ad kM 31 R A res) 0 0 A :=
  y_met (own := RX8) (by decide) rfl _ (Nat.le_of_ble_eq_true rfl) (fun p e s m args below meth c ls C hl hw => k_X8_asksBy_0 C  hw hl h)
/-! RungHouseModel.place -/
set_option maxRecDepth 100000 in
set_option maxHeartbeats 4000000 in
theorem k_X8_place_0  {v0 : Int} {v1 : Int} {v2 : Int} {v3 : Int} {v4 : Int} (C : Cx cX8_place RX8 5 (some .int) D cA adK adV A p s m args meth c)  {σ : St} {H : Heap} {locs : List Loc} {ls : Array Slot}  (hw : At D cA ad kM 31 R A s σ H locs) (hl : lv_has ls 5 [(0, .int (zI v0)), (1, .int (zI v1)), (2, .int (zI v2)), (3, .int (zI v3)), (4, .int (zI v4))]) (h : p_X8_place  v0 v1 v2 v3 v4 σ = some res) : W p l e (rmU 0 0) s m args below meth c H locs 0 0 (MQ below (QI D cA ad kM 31 R A res) args s 0 0 A) (F0 m 0 ls []) := by
  have h := h
  unfold p_X8_place at h
  refine y_iload_n C dX8_place_0 (lv_at hl 0 rfl) ?_
  refine y_bipush C dX8_place_1 (by decide) ?_
  refine y_imul C dX8_place_3 ?_
  refine y_iload_n C dX8_place_4 (lv_at hl 1 rfl) ?_
  refine y_iadd C dX8_place_5 ?_
  refine y_bipush C dX8_place_6 (by decide) ?_
  refine y_imul C dX8_place_8 ?_
  refine y_iload_n C dX8_place_9 (lv_at hl 2 rfl) ?_
  refine y_iadd C dX8_place_10 ?_
  refine y_bipush C dX8_place_11 (by decide) ?_
  refine y_imul C dX8_place_13 ?_
  refine y_iconst C dX8_place_14 ?_
  refine y_iload_n C dX8_place_15 (lv_at hl 3 rfl) ?_
  refine y_imul C dX8_place_16 ?_
  refine y_iadd C dX8_place_17 ?_
  refine y_iload C dX8_place_18 (lv_at hl 4 rfl) ?_
  refine y_iadd C dX8_place_20 ?_
  exact y_iret C hw h dX8_place_21
theorem c_X8_place {l : Launch} {D : va_G} {cA : Nat → ClassId} {adK adV : Nat → Nat} {A : Nat → Prop} {ad : Int → Nat} {R : va_W} {σ : St} {res : Int × St} {v0 : Int} {v1 : Int} {v2 : Int} {v3 : Int} {v4 : Int}  (h : p_X8_place v0 v1 v2 v3 v4 σ = some res) : Met l yX8_place (wsU yX8_place cX8_place 5 (some .int)) (rmU 0 0) (va_Pc [.int (zI v0), .int (zI v1), .int (zI v2), .int (zI v3), .int (zI v4)] (Pr D cA adK adV ad kM 31 R A σ)) (QI D cA ad kM 31 R A res) 0 0 A :=
  y_met (own := RX8) (by decide) rfl _ (Nat.le_of_ble_eq_true rfl) (fun p e s m args below meth c ls C hl hw => k_X8_place_0 C  hw hl h)
/-! RungHouseModel.more -/
set_option maxRecDepth 100000 in
set_option maxHeartbeats 4000000 in
theorem k_X8_more_0  {v1 : Int} (C : Cx cX8_more RX8 2 (some .int) D cA adK adV A p s m args meth c)  {σ : St} {H : Heap} {locs : List Loc} {ls : Array Slot}  (hw : At D cA ad kM 31 R A s σ H locs) (hl : lv_has ls 2 [(0, .ref (ad 0)), (1, .int (zI v1))]) (h : p_X8_more  v1 σ = some res) : W p l e (rmU 0 0) s m args below meth c H locs 0 0 (MQ below (QI D cA ad kM 31 R A res) args s 0 0 A) (F0 m 0 ls []) := by
  have h := h
  unfold p_X8_more at h
  refine y_iload_n C dX8_more_0 (lv_at hl 1 rfl) ?_
  refine y_iconst C dX8_more_1 ?_
  refine y_icmp_ne (tgt := 9) C (a' := zm v1) (b' := 3) rfl (by decide) dX8_more_2 (by decide) (fun hc => ?_) (fun hc => ?_)
  · rw [if_pos hc] at h
    refine y_iconst C dX8_more_5 ?_
    refine y_goto (tgt := 12) C dX8_more_6 (by decide) ?_
    exact y_iret C hw h dX8_more_12
  · rw [if_neg hc] at h
    refine y_iload_n C dX8_more_9 (lv_at hl 1 rfl) ?_
    refine y_iconst C dX8_more_10 ?_
    refine y_iadd C dX8_more_11 ?_
    exact y_iret C hw h dX8_more_12
theorem c_X8_more {l : Launch} {D : va_G} {cA : Nat → ClassId} {adK adV : Nat → Nat} {A : Nat → Prop} {ad : Int → Nat} {R : va_W} {σ : St} {res : Int × St} {v1 : Int}  (h : p_X8_more v1 σ = some res) : Met l yX8_more (wsU yX8_more cX8_more 2 (some .int)) (rmU 0 0) (va_Pc [.ref (ad 0), .int (zI v1)] (Pr D cA adK adV ad kM 31 R A σ)) (QI D cA ad kM 31 R A res) 0 0 A :=
  y_met (own := RX8) (by decide) rfl _ (Nat.le_of_ble_eq_true rfl) (fun p e s m args below meth c ls C hl hw => k_X8_more_0 C  hw hl h)
/-! RungHouseModel.bears -/
set_option maxRecDepth 100000 in
set_option maxHeartbeats 4000000 in
theorem k_X8_bears_0  {v1 : Int} (C : Cx cX8_bears RX8 2 (some .int) D cA adK adV A p s m args meth c)  {σ : St} {H : Heap} {locs : List Loc} {ls : Array Slot}  (hw : At D cA ad kM 31 R A s σ H locs) (hl : lv_has ls 2 [(0, .ref (ad 0)), (1, .int (zI v1))]) (h : p_X8_bears  v1 σ = some res) : W p l e (rmU 0 0) s m args below meth c H locs 0 0 (MQ below (QI D cA ad kM 31 R A res) args s 0 0 A) (F0 m 0 ls []) := by
  have h := h
  unfold p_X8_bears at h
  refine y_iload_n C dX8_bears_0 (lv_at hl 1 rfl) ?_
  refine y_aload_n C dX8_bears_1 (lv_at hl 0 rfl) ?_
  refine g8 C hw km_0 5 (by decide) wd_876 rfl dX8_bears_2 ?_
  refine y_aload_n C dX8_bears_5 (lv_at hl 0 rfl) ?_
  refine g8 C hw km_0 29 (by decide) wd_900 rfl dX8_bears_6 ?_
  obtain ⟨hg9, h⟩ := gd_some h
  refine y_iald C hw km_6 (i' := zm (σ 0 29)) rfl hg9 dX8_bears_9 ?_
  refine y_icmp_ge (tgt := 17) C (a' := zm v1) (b' := zm (σ 6 (zm (σ 0 29)))) rfl rfl dX8_bears_10 (by decide) (fun hc => ?_) (fun hc => ?_)
  · rw [if_pos hc] at h
    refine y_aload_n C dX8_bears_17 (lv_at hl 0 rfl) ?_
    refine g8 C hw km_0 5 (by decide) wd_876 rfl dX8_bears_18 ?_
    refine y_aload_n C dX8_bears_21 (lv_at hl 0 rfl) ?_
    refine g8 C hw km_0 29 (by decide) wd_900 rfl dX8_bears_22 ?_
    refine y_iald C hw km_6 (i' := zm (σ 0 29)) rfl hg9 dX8_bears_25 ?_
    exact y_iret C hw h dX8_bears_26
  · rw [if_neg hc] at h
    refine y_iload_n C dX8_bears_13 (lv_at hl 1 rfl) ?_
    refine y_goto (tgt := 26) C dX8_bears_14 (by decide) ?_
    exact y_iret C hw h dX8_bears_26
theorem c_X8_bears {l : Launch} {D : va_G} {cA : Nat → ClassId} {adK adV : Nat → Nat} {A : Nat → Prop} {ad : Int → Nat} {R : va_W} {σ : St} {res : Int × St} {v1 : Int}  (h : p_X8_bears v1 σ = some res) : Met l yX8_bears (wsU yX8_bears cX8_bears 2 (some .int)) (rmU 0 0) (va_Pc [.ref (ad 0), .int (zI v1)] (Pr D cA adK adV ad kM 31 R A σ)) (QI D cA ad kM 31 R A res) 0 0 A :=
  y_met (own := RX8) (by decide) rfl _ (Nat.le_of_ble_eq_true rfl) (fun p e s m args below meth c ls C hl hw => k_X8_bears_0 C  hw hl h)
/-! RungHouseModel.asks -/
set_option maxRecDepth 100000 in
set_option maxHeartbeats 4000000 in
theorem k_X8_asks_0  {v1 : Int} {v2 : Int} {v3 : Int} {v4 : Int} {v5 : Int} {v6 : Int} (C : Cx cX8_asks RX8 8 (some .boolean) D cA adK adV A p s m args meth c)  {σ : St} {H : Heap} {locs : List Loc} {ls : Array Slot}  (hw : At D cA ad kM 31 R A s σ H locs) (hl : lv_has ls 8 [(0, .ref (ad 0)), (1, .int (zI v1)), (2, .int (zI v2)), (3, .int (zI v3)), (4, .int (zI v4)), (5, .int (zI v5)), (6, .int (zI v6))]) (h : p_X8_asks  v1 v2 v3 v4 v5 v6 σ = some res) : W p l e (rmU 2 51) s m args below meth c H locs 0 0 (MQ below (QI D cA ad kM 31 R A res) args s 0 0 A) (F0 m 0 ls []) := by
  have h := h
  unfold p_X8_asks at h
  refine y_aload_n C dX8_asks_0 (lv_at hl 0 rfl) ?_
  refine g8 C hw km_0 30 (by decide) wd_901 rfl dX8_asks_1 ?_
  refine y_if_lt (tgt := 21) C (a' := zm (σ 0 30)) rfl dX8_asks_4 (by decide) (fun hc => ?_) (fun hc => ?_)
  · rw [if_pos hc] at h
    refine y_sipush C dX8_asks_21 (by decide) ?_
    refine y_aload_n C dX8_asks_24 (lv_at hl 0 rfl) ?_
    refine y_iload C dX8_asks_25 (lv_at hl 6 rfl) ?_
    obtain ⟨x27, hc27, h⟩ := bd_some h
    refine y_ci (rest := [.int (zI 1000)]) hw (y_rV C hw km_0 (by decide) rfl rfl (c_X8_bears  hc27) mi_X8_bears wd_1192 wd_1194 ws_48 rfl ⟨by decide, by decide⟩ hl rfl (Nat.le_of_ble_eq_true rfl) dX8_asks_27) (fun H locs hw => ?_)
    refine y_imul C dX8_asks_30 ?_
    refine y_aload_n C dX8_asks_31 (lv_at hl 0 rfl) ?_
    refine g8 C hw km_0 27 (by decide) wd_898 rfl dX8_asks_32 ?_
    refine y_iload_n C dX8_asks_35 (lv_at hl 1 rfl) ?_
    refine y_iload_n C dX8_asks_36 (lv_at hl 2 rfl) ?_
    refine y_iload_n C dX8_asks_37 (lv_at hl 3 rfl) ?_
    refine y_iload C dX8_asks_38 (lv_at hl 4 rfl) ?_
    refine y_iconst C dX8_asks_40 ?_
    refine y_iadd C dX8_asks_41 ?_
    refine y_aload_n C dX8_asks_42 (lv_at hl 0 rfl) ?_
    refine y_iload C dX8_asks_43 (lv_at hl 5 rfl) ?_
    obtain ⟨x45, hc45, h⟩ := bd_some h
    refine y_ci (rest := [.int (zI (v4 + 1)), .int (zI v3), .int (zI v2), .int (zI v1), .ref (ad 17), .int (zI (1000 * x27.1))]) hw (y_rV C hw km_0 (by decide) rfl rfl (c_X8_more  hc45) mi_X8_more wd_1196 wd_1198 ws_49 rfl ⟨by decide, by decide⟩ hl rfl (Nat.le_of_ble_eq_true rfl) dX8_asks_45) (fun H locs hw => ?_)
    obtain ⟨x48, hc48, h⟩ := bd_some h
    refine y_ci (rest := [.ref (ad 17), .int (zI (1000 * x27.1))]) hw (y_rS C hw (c_X8_place  hc48) mi_X8_place wd_1180 wd_1181 rfl ⟨by decide, by decide⟩ hl rfl (Nat.le_of_ble_eq_true rfl) dX8_asks_48) (fun H locs hw => ?_)
    obtain ⟨hg51, h⟩ := gd_some h
    refine y_iald C hw km_17 (i' := zm x48.1) rfl hg51 dX8_asks_51 ?_
    refine y_iadd C dX8_asks_52 ?_
    refine y_istore (lv' := [(7, .int (zI ((1000 * x27.1) + (x48.2 17 (zm x48.1))))), (0, .ref (ad 0)), (1, .int (zI v1)), (2, .int (zI v2)), (3, .int (zI v3)), (4, .int (zI v4)), (5, .int (zI v5)), (6, .int (zI v6))]) C dX8_asks_53 hl (by decide) rfl (fun ls hl => ?_)
    refine y_iload C dX8_asks_55 (lv_at hl 0 rfl) ?_
    refine y_sipush C dX8_asks_57 (by decide) ?_
    refine y_iload C dX8_asks_60 (lv_at hl 7 rfl) ?_
    refine y_imul C dX8_asks_62 ?_
    refine y_aload_n C dX8_asks_63 (lv_at hl 1 rfl) ?_
    refine g8 C hw km_0 27 (by decide) wd_898 rfl dX8_asks_64 ?_
    refine y_iload_n C dX8_asks_67 (lv_at hl 2 rfl) ?_
    refine y_iload_n C dX8_asks_68 (lv_at hl 3 rfl) ?_
    refine y_iload_n C dX8_asks_69 (lv_at hl 4 rfl) ?_
    refine y_iload C dX8_asks_70 (lv_at hl 5 rfl) ?_
    refine y_iconst C dX8_asks_72 ?_
    refine y_iadd C dX8_asks_73 ?_
    refine y_iload C dX8_asks_74 (lv_at hl 6 rfl) ?_
    obtain ⟨x76, hc76, h⟩ := bd_some h
    refine y_ci (rest := [.ref (ad 17), .int (zI (1000 * v6)), .int (zI ((1000 * x27.1) + (x48.2 17 (zm x48.1))))]) hw (y_rS C hw (c_X8_place  hc76) mi_X8_place wd_1180 wd_1181 rfl ⟨by decide, by decide⟩ hl rfl (Nat.le_of_ble_eq_true rfl) dX8_asks_76) (fun H locs hw => ?_)
    obtain ⟨hg79, h⟩ := gd_some h
    refine y_iald C hw km_17 (i' := zm x76.1) rfl hg79 dX8_asks_79 ?_
    refine y_iadd C dX8_asks_80 ?_
    refine y_icmp_ge (tgt := 88) C (a' := zm ((1000 * x27.1) + (x48.2 17 (zm x48.1)))) (b' := zm ((1000 * v6) + (x76.2 17 (zm x76.1)))) rfl rfl dX8_asks_81 (by decide) (fun hc => ?_) (fun hc => ?_)
    · rw [if_pos hc] at h
      refine y_iconst C dX8_asks_88 ?_
      exact y_zret C hw (by decide) h dX8_asks_89
    · rw [if_neg hc] at h
      refine y_iconst C dX8_asks_84 ?_
      refine y_goto (tgt := 89) C dX8_asks_85 (by decide) ?_
      exact y_zret C hw (by decide) h dX8_asks_89
  · rw [if_neg hc] at h
    refine y_aload_n C dX8_asks_7 (lv_at hl 0 rfl) ?_
    refine y_aload_n C dX8_asks_8 (lv_at hl 0 rfl) ?_
    refine g8 C hw km_0 30 (by decide) wd_901 rfl dX8_asks_9 ?_
    refine y_iload_n C dX8_asks_12 (lv_at hl 3 rfl) ?_
    refine y_iload C dX8_asks_13 (lv_at hl 4 rfl) ?_
    refine y_iload C dX8_asks_15 (lv_at hl 6 rfl) ?_
    obtain ⟨x17, hc17, h⟩ := bd_some h
    refine y_ci (rest := []) hw (y_rV C hw km_0 (by decide) rfl rfl (c_X8_asksBy  hc17) mi_X8_asksBy wd_1188 wd_1190 ws_47 rfl ⟨by decide, by decide⟩ hl rfl (Nat.le_of_ble_eq_true rfl) dX8_asks_17) (fun H locs hw => ?_)
    obtain ⟨hb, h⟩ := gd_some h
    exact y_zret C hw hb h dX8_asks_20
theorem c_X8_asks {l : Launch} {D : va_G} {cA : Nat → ClassId} {adK adV : Nat → Nat} {A : Nat → Prop} {ad : Int → Nat} {R : va_W} {σ : St} {res : Int × St} {v1 : Int} {v2 : Int} {v3 : Int} {v4 : Int} {v5 : Int} {v6 : Int}  (h : p_X8_asks v1 v2 v3 v4 v5 v6 σ = some res) : Met l yX8_asks (wsU yX8_asks cX8_asks 8 (some .boolean)) (rmU 2 51) (va_Pc [.ref (ad 0), .int (zI v1), .int (zI v2), .int (zI v3), .int (zI v4), .int (zI v5), .int (zI v6)] (Pr D cA adK adV ad kM 31 R A σ)) (QI D cA ad kM 31 R A res) 0 0 A :=
  y_met (own := RX8) (by decide) rfl _ (Nat.le_of_ble_eq_true rfl) (fun p e s m args below meth c ls C hl hw => k_X8_asks_0 C  hw hl h)
end K
