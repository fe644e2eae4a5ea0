section K
variable {p : Program} {l : Launch} {e : Env} {s : State} {m : MethodId} {args : Array Value} {below : List Frame} {meth : Method} {c : Code} {D : va_G} {cA : Nat → ClassId} {adK adV : Nat → Nat} {A : Nat → Prop} {ad : Int → Nat} {R : va_W} {res : Int × St}
/-! RungHouse.feed -/
set_option maxRecDepth 100000 in
set_option maxHeartbeats 4000000 in
theorem k_X7_feed_36b {K36 : Int → Int → St → Option (Int × St)} {v2 : Int} {v4 : Int} (C : Cx cX7_feed RX7 5 (some .int) D cA adK adV A p s m args meth c)  (hK36 : ∀ (v2 : Int) (v4 : Int) (σ : St) (H : Heap) (locs : List Loc) (ls : Array Slot) , At D cA ad kX 151 R A s σ H locs → lv_has ls 5 [(0, .ref (ad 0)), (2, .long (zJ v2)), (4, .int (zI v4))] → K36 v2 v4 σ = some res → W p l e (rmU 1 22) s m args below meth c H locs 0 0 (MQ below (QI D cA ad kX 151 R A res) args s 0 0 A) (F0 m 36 ls [])) {σ : St} {H : Heap} {locs : List Loc} {ls : Array Slot}  (hw : At D cA ad kX 151 R A s σ H locs) (hl : lv_has ls 5 [(0, .ref (ad 0)), (2, .long (zJ v2)), (4, .int (zI v4))]) (h : p_X7_feed_36b K36 v2 v4 σ = some res) : W p l e (rmU 1 22) s m args below meth c H locs 0 0 (MQ below (QI D cA ad kX 151 R A res) args s 0 0 A) (F0 m 36 ls []) := by
  have h := h
  unfold p_X7_feed_36b at h
  refine y_iload C dX7_feed_36 (lv_at hl 2 rfl) ?_
  refine y_if_lt (tgt := 66) C (a' := zm v4) rfl dX7_feed_38 (by decide) (fun hc => ?_) (fun hc => ?_)
  · rw [if_pos hc] at h
    refine y_aload_n C dX7_feed_66 (lv_at hl 0 rfl) ?_
    refine g7 C hw kx_0 0 (by decide) wd_294 rfl dX7_feed_67 ?_
    refine g4 C hw kx_1 1 (by decide) wd_31 rfl dX7_feed_70 ?_
    exact y_iret C hw h dX7_feed_73
  · rw [if_neg hc] at h
    refine y_aload_n C dX7_feed_41 (lv_at hl 0 rfl) ?_
    refine g7 C hw kx_0 0 (by decide) wd_294 rfl dX7_feed_42 ?_
    refine y_lload_n C dX7_feed_45 (lv_at hl 1 rfl) ?_
    refine y_bipush C dX7_feed_46 (by decide) ?_
    refine y_iload C dX7_feed_48 (lv_at hl 2 rfl) ?_
    refine y_imul C dX7_feed_50 ?_
    refine y_lushr C dX7_feed_51 ?_
    refine y_l2i C dX7_feed_52 ?_
    refine y_sipush C dX7_feed_53 (by decide) ?_
    refine y_iand C dX7_feed_56 ?_
    obtain ⟨x57, hc57, h⟩ := bd_some h
    refine y_cv (rest := []) hw (y_rV C hw kx_1 (by decide) rfl rfl (c_X4_add kx_1 hc57) mi_X4_add wd_346 wd_347 wd_348 rfl ⟨by decide, by decide⟩ hl rfl (Nat.le_of_ble_eq_true rfl) dX7_feed_57) (fun H locs hw => ?_)
    refine y_iinc (lv' := [(4, .int (zI (v4 + (-1)))), (0, .ref (ad 0)), (2, .long (zJ v2))]) C dX7_feed_60 hl (k := 2) rfl (by decide) rfl (fun ls hl => ?_)
    refine y_goto (tgt := 36) C dX7_feed_63 (by decide) ?_
    exact hK36 _ _ _ _ _ _  hw (lv_sub hl [1, 2, 0] rfl) h
set_option maxRecDepth 100000 in
theorem k_X7_feed_36  (C : Cx cX7_feed RX7 5 (some .int) D cA adK adV A p s m args meth c)  : ∀ (n : Nat) (v2 : Int) (v4 : Int) (σ : St) (H : Heap) (locs : List Loc) (ls : Array Slot) , At D cA ad kX 151 R A s σ H locs → lv_has ls 5 [(0, .ref (ad 0)), (2, .long (zJ v2)), (4, .int (zI v4))] → p_X7_feed_36  n v2 v4 σ = some res → W p l e (rmU 1 22) s m args below meth c H locs 0 0 (MQ below (QI D cA ad kX 151 R A res) args s 0 0 A) (F0 m 36 ls []) := by
  intro n
  induction n with
  | zero =>
    intro v2 v4 σ H locs ls  hw hl h
    have h : none = some res := h
    cases h
  | succ n ih =>
    intro v2 v4 σ H locs ls  hw hl h
    exact k_X7_feed_36b C  ih  hw hl h
set_option maxRecDepth 100000 in
set_option maxHeartbeats 4000000 in
theorem k_X7_feed_0  {v1 : Int} {v2 : Int} (C : Cx cX7_feed RX7 5 (some .int) D cA adK adV A p s m args meth c)  {σ : St} {H : Heap} {locs : List Loc} {ls : Array Slot}  (hw : At D cA ad kX 151 R A s σ H locs) (hl : lv_has ls 5 [(0, .ref (ad 0)), (1, .int (zI v1)), (2, .long (zJ v2))]) (h : p_X7_feed  v1 v2 σ = some res) : W p l e (rmU 1 22) s m args below meth c H locs 0 0 (MQ below (QI D cA ad kX 151 R A res) args s 0 0 A) (F0 m 0 ls []) := by
  have h := h
  unfold p_X7_feed at h
  refine y_iload_n C dX7_feed_0 (lv_at hl 1 rfl) ?_
  refine y_iconst C dX7_feed_1 ?_
  refine y_bipush C dX7_feed_2 (by decide) ?_
  obtain ⟨x4, hc4, h⟩ := bd_some h
  refine y_ci (rest := []) hw (y_rS C hw (c_X7_isOut  hc4) mi_X7_isOut wd_341 wd_342 rfl ⟨by decide, by decide⟩ hl rfl (Nat.le_of_ble_eq_true rfl) dX7_feed_4) (fun H locs hw => ?_)
  refine y_if_eq (tgt := 13) C (a' := zm x4.1) rfl dX7_feed_7 (by decide) (fun hc => ?_) (fun hc => ?_)
  · rw [if_pos hc] at h
    refine y_aload_n C dX7_feed_13 (lv_at hl 0 rfl) ?_
    refine g7 C hw kx_0 0 (by decide) wd_294 rfl dX7_feed_14 ?_
    refine g4 C hw kx_1 1 (by decide) wd_31 rfl dX7_feed_17 ?_
    refine y_iload_n C dX7_feed_20 (lv_at hl 1 rfl) ?_
    refine y_iadd C dX7_feed_21 ?_
    refine y_sipush C dX7_feed_22 (by decide) ?_
    refine y_icmp_le (tgt := 31) C (a' := zm ((x4.2 1 1) + v1)) (b' := 300) rfl (by decide) dX7_feed_25 (by decide) (fun hc => ?_) (fun hc => ?_)
    · rw [if_pos hc] at h
      refine y_iload_n C dX7_feed_31 (lv_at hl 1 rfl) ?_
      refine y_iconst C dX7_feed_32 ?_
      refine y_isub C dX7_feed_33 ?_
      refine y_istore (lv' := [(4, .int (zI (v1 - 1))), (0, .ref (ad 0)), (1, .int (zI v1)), (2, .long (zJ v2))]) C dX7_feed_34 hl (by decide) rfl (fun ls hl => ?_)
      exact k_X7_feed_36 C  FU _ _ _ _ _ _  hw (lv_sub hl [1, 3, 0] rfl) h
    · rw [if_neg hc] at h
      refine y_ldc C (z := (-1000000004)) wd_345 (by decide) dX7_feed_28 ?_
      exact y_iret C hw h dX7_feed_30
  · rw [if_neg hc] at h
    refine y_ldc C (z := (-1000000002)) wd_344 (by decide) dX7_feed_10 ?_
    exact y_iret C hw h dX7_feed_12
theorem c_X7_feed {l : Launch} {D : va_G} {cA : Nat → ClassId} {adK adV : Nat → Nat} {A : Nat → Prop} {ad : Int → Nat} {R : va_W} {σ : St} {res : Int × St} {v1 : Int} {v2 : Int}  (h : p_X7_feed v1 v2 σ = some res) : Met l yX7_feed (wsU yX7_feed cX7_feed 5 (some .int)) (rmU 1 22) (va_Pc [.ref (ad 0), .int (zI v1), .long (zJ v2)] (Pr D cA adK adV ad kX 151 R A σ)) (QI D cA ad kX 151 R A res) 0 0 A :=
  y_met (own := RX7) (by decide) rfl _ (Nat.le_of_ble_eq_true rfl) (fun p e s m args below meth c ls C hl hw => k_X7_feed_0 C  hw hl h)
/-! RungHouse.closeText -/
set_option maxRecDepth 100000 in
set_option maxHeartbeats 4000000 in
theorem k_X7_closeText_0  {v1 : Int} (C : Cx cX7_closeText RX7 2 (some .int) D cA adK adV A p s m args meth c)  {σ : St} {H : Heap} {locs : List Loc} {ls : Array Slot}  (hw : At D cA ad kX 151 R A s σ H locs) (hl : lv_has ls 2 [(0, .ref (ad 0)), (1, .int (zI v1))]) (h : p_X7_closeText  v1 σ = some res) : W p l e (rmU 0 0) s m args below meth c H locs 0 0 (MQ below (QI D cA ad kX 151 R A res) args s 0 0 A) (F0 m 0 ls []) := by
  have h := h
  unfold p_X7_closeText at h
  refine y_aload_n C dX7_closeText_0 (lv_at hl 0 rfl) ?_
  refine g7 C hw kx_0 0 (by decide) wd_294 rfl dX7_closeText_1 ?_
  refine y_iconst C dX7_closeText_4 ?_
  obtain ⟨σ5, eσ5, h⟩ := nx_some h
  refine q4 C hw kx_1 1 (by decide) wd_31 rfl rfl rfl (by decide) 0 1 rfl rfl dX7_closeText_5 (fun H locs hw => ?_)
  rw [← eσ5] at hw
  refine y_aload_n C dX7_closeText_8 (lv_at hl 0 rfl) ?_
  refine y_aload_n C dX7_closeText_9 (lv_at hl 0 rfl) ?_
  refine g7 C hw kx_0 0 (by decide) wd_294 rfl dX7_closeText_10 ?_
  refine g4 C hw kx_1 3 (by decide) wd_37 rfl dX7_closeText_13 ?_
  obtain ⟨σ16, eσ16, h⟩ := nx_some h
  refine q7 C hw kx_0 13 (by decide) wd_307 rfl rfl rfl (by decide) (σ5 1 3) 13 rfl rfl dX7_closeText_16 (fun H locs hw => ?_)
  rw [← eσ16] at hw
  refine y_aload_n C dX7_closeText_19 (lv_at hl 0 rfl) ?_
  refine g7 C hw kx_0 0 (by decide) wd_294 rfl dX7_closeText_20 ?_
  refine g4 C hw kx_1 2 (by decide) wd_35 rfl dX7_closeText_23 ?_
  refine y_if_ne (tgt := 33) C (a' := zm (σ16 1 2)) rfl dX7_closeText_26 (by decide) (fun hc => ?_) (fun hc => ?_)
  · rw [if_pos hc] at h
    refine y_iload_n C dX7_closeText_29 (lv_at hl 1 rfl) ?_
    refine y_goto (tgt := 43) C dX7_closeText_30 (by decide) ?_
    exact y_iret C hw h dX7_closeText_43
  · rw [if_neg hc] at h
    refine y_bipush C dX7_closeText_33 (by decide) ?_
    refine y_aload_n C dX7_closeText_35 (lv_at hl 0 rfl) ?_
    refine g7 C hw kx_0 0 (by decide) wd_294 rfl dX7_closeText_36 ?_
    refine g4 C hw kx_1 2 (by decide) wd_35 rfl dX7_closeText_39 ?_
    refine y_isub C dX7_closeText_42 ?_
    exact y_iret C hw h dX7_closeText_43
theorem c_X7_closeText {l : Launch} {D : va_G} {cA : Nat → ClassId} {adK adV : Nat → Nat} {A : Nat → Prop} {ad : Int → Nat} {R : va_W} {σ : St} {res : Int × St} {v1 : Int}  (h : p_X7_closeText v1 σ = some res) : Met l yX7_closeText (wsU yX7_closeText cX7_closeText 2 (some .int)) (rmU 0 0) (va_Pc [.ref (ad 0), .int (zI v1)] (Pr D cA adK adV ad kX 151 R A σ)) (QI D cA ad kX 151 R A res) 0 0 A :=
  y_met (own := RX7) (by decide) rfl _ (Nat.le_of_ble_eq_true rfl) (fun p e s m args below meth c ls C hl hw => k_X7_closeText_0 C  hw hl h)
/-! RungHouse.house -/
set_option maxRecDepth 100000 in
set_option maxHeartbeats 4000000 in
theorem k_X7_house_54b {K54 : Int → Int → Int → St → Option (Int × St)} {v1 : Int} {v2 : Int} {v3 : Int} (C : Cx cX7_house RX7 4 (some .int) D cA adK adV A p s m args meth c)  (hK54 : ∀ (v1 : Int) (v2 : Int) (v3 : Int) (σ : St) (H : Heap) (locs : List Loc) (ls : Array Slot) , At D cA ad kX 151 R A s σ H locs → lv_has ls 4 [(0, .ref (ad 0)), (1, .int (zI v1)), (2, .int (zI v2)), (3, .int (zI v3))] → K54 v1 v2 v3 σ = some res → W p l e (rmU 8 179) s m args below meth c H locs 0 0 (MQ below (QI D cA ad kX 151 R A res) args s 0 0 A) (F0 m 54 ls [])) {σ : St} {H : Heap} {locs : List Loc} {ls : Array Slot}  (hw : At D cA ad kX 151 R A s σ H locs) (hl : lv_has ls 4 [(0, .ref (ad 0)), (1, .int (zI v1)), (2, .int (zI v2)), (3, .int (zI v3))]) (h : p_X7_house_54b K54 v1 v2 v3 σ = some res) : W p l e (rmU 8 179) s m args below meth c H locs 0 0 (MQ below (QI D cA ad kX 151 R A res) args s 0 0 A) (F0 m 54 ls []) := by
  have h := h
  unfold p_X7_house_54b at h
  refine y_iload_n C dX7_house_54 (lv_at hl 3 rfl) ?_
  refine y_iconst C dX7_house_55 ?_
  refine y_icmp_ge (tgt := 78) C (a' := zm v3) (b' := 4) rfl (by decide) dX7_house_56 (by decide) (fun hc => ?_) (fun hc => ?_)
  · rw [if_pos hc] at h
    refine y_iload_n C dX7_house_78 (lv_at hl 2 rfl) ?_
    exact y_iret C hw h dX7_house_79
  · rw [if_neg hc] at h
    refine y_aload_n C dX7_house_59 (lv_at hl 0 rfl) ?_
    refine g7 C hw kx_0 4 (by decide) wd_298 rfl dX7_house_60 ?_
    refine y_iload_n C dX7_house_63 (lv_at hl 3 rfl) ?_
    refine y_iconst C dX7_house_64 ?_
    refine y_imul C dX7_house_65 ?_
    refine y_iload_n C dX7_house_66 (lv_at hl 1 rfl) ?_
    refine y_iadd C dX7_house_67 ?_
    obtain ⟨hg68, h⟩ := gd_some h
    refine y_aald C hw kx_6 (by decide) rfl rfl (i' := zm ((v3 * 2) + v1)) rfl hg68 dX7_house_68 ?_
    obtain ⟨x69, hc69, h⟩ := bd_some h
    refine y_cv (rest := []) hw (y_rV C hw (kr_33 (i := zm ((v3 * 2) + v1)) hg68) (by decide) rfl rfl (c_X3_forget (kr_33 (i := zm ((v3 * 2) + v1)) hg68) hc69) mi_X3_forget wd_481 wd_482 wd_483 rfl ⟨by decide, by decide⟩ hl rfl (Nat.le_of_ble_eq_true rfl) dX7_house_69) (fun H locs hw => ?_)
    refine y_iinc (lv' := [(3, .int (zI (v3 + 1))), (0, .ref (ad 0)), (1, .int (zI v1)), (2, .int (zI v2))]) C dX7_house_72 hl (k := 3) rfl (by decide) rfl (fun ls hl => ?_)
    refine y_goto (tgt := 54) C dX7_house_75 (by decide) ?_
    exact hK54 _ _ _ _ _ _ _  hw (lv_sub hl [1, 2, 3, 0] rfl) h
set_option maxRecDepth 100000 in
theorem k_X7_house_54  (C : Cx cX7_house RX7 4 (some .int) D cA adK adV A p s m args meth c)  : ∀ (n : Nat) (v1 : Int) (v2 : Int) (v3 : Int) (σ : St) (H : Heap) (locs : List Loc) (ls : Array Slot) , At D cA ad kX 151 R A s σ H locs → lv_has ls 4 [(0, .ref (ad 0)), (1, .int (zI v1)), (2, .int (zI v2)), (3, .int (zI v3))] → p_X7_house_54  n v1 v2 v3 σ = some res → W p l e (rmU 8 179) s m args below meth c H locs 0 0 (MQ below (QI D cA ad kX 151 R A res) args s 0 0 A) (F0 m 54 ls []) := by
  intro n
  induction n with
  | zero =>
    intro v1 v2 v3 σ H locs ls  hw hl h
    have h : none = some res := h
    cases h
  | succ n ih =>
    intro v1 v2 v3 σ H locs ls  hw hl h
    exact k_X7_house_54b C  ih  hw hl h
set_option maxRecDepth 100000 in
set_option maxHeartbeats 4000000 in
theorem k_X7_house_0  {v1 : Int} (C : Cx cX7_house RX7 4 (some .int) D cA adK adV A p s m args meth c)  {σ : St} {H : Heap} {locs : List Loc} {ls : Array Slot}  (hw : At D cA ad kX 151 R A s σ H locs) (hl : lv_has ls 4 [(0, .ref (ad 0)), (1, .int (zI v1))]) (h : p_X7_house  v1 σ = some res) : W p l e (rmU 8 179) s m args below meth c H locs 0 0 (MQ below (QI D cA ad kX 151 R A res) args s 0 0 A) (F0 m 0 ls []) := by
  have h := h
  unfold p_X7_house at h
  refine y_iload_n C dX7_house_0 (lv_at hl 1 rfl) ?_
  refine y_iconst C dX7_house_1 ?_
  refine y_iconst C dX7_house_2 ?_
  obtain ⟨x3, hc3, h⟩ := bd_some h
  refine y_ci (rest := []) hw (y_rS C hw (c_X7_isOut  hc3) mi_X7_isOut wd_341 wd_342 rfl ⟨by decide, by decide⟩ hl rfl (Nat.le_of_ble_eq_true rfl) dX7_house_3) (fun H locs hw => ?_)
  refine y_if_eq (tgt := 12) C (a' := zm x3.1) rfl dX7_house_6 (by decide) (fun hc => ?_) (fun hc => ?_)
  · rw [if_pos hc] at h
    refine y_aload_n C dX7_house_12 (lv_at hl 0 rfl) ?_
    refine g7 C hw kx_0 5 (by decide) wd_299 rfl dX7_house_13 ?_
    refine y_aload_n C dX7_house_16 (lv_at hl 0 rfl) ?_
    refine g7 C hw kx_0 0 (by decide) wd_294 rfl dX7_house_17 ?_
    obtain ⟨x20, hc20, h⟩ := bd_some h
    refine y_cv (rest := []) hw (y_rV C hw kx_7 (by decide) rfl rfl (c_X0_readFrom kx_7 kx_1 hc20) mi_X0_readFrom wd_355 wd_356 wd_357 rfl ⟨by decide, by decide⟩ hl rfl (Nat.le_of_ble_eq_true rfl) dX7_house_20) (fun H locs hw => ?_)
    refine y_aload_n C dX7_house_23 (lv_at hl 0 rfl) ?_
    refine y_aload_n C dX7_house_24 (lv_at hl 0 rfl) ?_
    refine g7 C hw kx_0 5 (by decide) wd_299 rfl dX7_house_25 ?_
    refine g0 C hw kx_7 1 (by decide) wd_85 rfl dX7_house_28 ?_
    obtain ⟨x31, hc31, h⟩ := bd_some h
    refine y_ci (rest := []) hw (y_rV C hw kx_0 (by decide) rfl rfl (c_X7_closeText  hc31) mi_X7_closeText wd_473 wd_475 ws_5 rfl ⟨by decide, by decide⟩ hl rfl (Nat.le_of_ble_eq_true rfl) dX7_house_31) (fun H locs hw => ?_)
    refine y_istore_n (lv' := [(2, .int (zI x31.1)), (0, .ref (ad 0)), (1, .int (zI v1))]) C dX7_house_34 hl (by decide) rfl (fun ls hl => ?_)
    refine y_iload_n C dX7_house_35 (lv_at hl 0 rfl) ?_
    refine y_if_lt (tgt := 78) C (a' := zm x31.1) rfl dX7_house_36 (by decide) (fun hc => ?_) (fun hc => ?_)
    · rw [if_pos hc] at h
      refine y_iload_n C dX7_house_78 (lv_at hl 0 rfl) ?_
      exact y_iret C hw h dX7_house_79
    · rw [if_neg hc] at h
      refine y_aload_n C dX7_house_39 (lv_at hl 1 rfl) ?_
      refine g7 C hw kx_0 1 (by decide) wd_295 rfl dX7_house_40 ?_
      refine y_iload_n C dX7_house_43 (lv_at hl 2 rfl) ?_
      obtain ⟨hg44, h⟩ := gd_some h
      refine y_aald C hw kx_3 (by decide) rfl rfl (i' := zm v1) rfl hg44 dX7_house_44 ?_
      refine y_aload_n C dX7_house_45 (lv_at hl 1 rfl) ?_
      refine g7 C hw kx_0 5 (by decide) wd_299 rfl dX7_house_46 ?_
      obtain ⟨x49, hc49, h⟩ := bd_some h
      refine y_cv (rest := []) hw (y_rV C hw (kr_30 (i := zm v1) hg44) (by decide) rfl rfl (c_X0_copyFrom (kr_30 (i := zm v1) hg44) kx_7 hc49) mi_X0_copyFrom wd_477 wd_478 wd_479 rfl ⟨by decide, by decide⟩ hl rfl (Nat.le_of_ble_eq_true rfl) dX7_house_49) (fun H locs hw => ?_)
      refine y_iconst C dX7_house_52 ?_
      refine y_istore_n (lv' := [(3, .int (zI 0)), (2, .int (zI x31.1)), (0, .ref (ad 0)), (1, .int (zI v1))]) C dX7_house_53 hl (by decide) rfl (fun ls hl => ?_)
      exact k_X7_house_54 C  FU _ _ _ _ _ _ _  hw (lv_sub hl [2, 3, 1, 0] rfl) h
  · rw [if_neg hc] at h
    refine y_ldc C (z := (-1000000001)) wd_354 (by decide) dX7_house_9 ?_
    exact y_iret C hw h dX7_house_11
theorem c_X7_house {l : Launch} {D : va_G} {cA : Nat → ClassId} {adK adV : Nat → Nat} {A : Nat → Prop} {ad : Int → Nat} {R : va_W} {σ : St} {res : Int × St} {v1 : Int}  (h : p_X7_house v1 σ = some res) : Met l yX7_house (wsU yX7_house cX7_house 4 (some .int)) (rmU 8 179) (va_Pc [.ref (ad 0), .int (zI v1)] (Pr D cA adK adV ad kX 151 R A σ)) (QI D cA ad kX 151 R A res) 0 0 A :=
  y_met (own := RX7) (by decide) rfl _ (Nat.le_of_ble_eq_true rfl) (fun p e s m args below meth c ls C hl hw => k_X7_house_0 C  hw hl h)
/-! RungHouse.sort -/
set_option maxRecDepth 100000 in
set_option maxHeartbeats 4000000 in
theorem k_X7_sort_0   (C : Cx cX7_sort RX7 2 (some .int) D cA adK adV A p s m args meth c)  {σ : St} {H : Heap} {locs : List Loc} {ls : Array Slot}  (hw : At D cA ad kX 151 R A s σ H locs) (hl : lv_has ls 2 [(0, .ref (ad 0))]) (h : p_X7_sort   σ = some res) : W p l e (rmU 6 134) s m args below meth c H locs 0 0 (MQ below (QI D cA ad kX 151 R A res) args s 0 0 A) (F0 m 0 ls []) := by
  have h := h
  unfold p_X7_sort at h
  refine y_aload_n C dX7_sort_0 (lv_at hl 0 rfl) ?_
  refine g7 C hw kx_0 0 (by decide) wd_294 rfl dX7_sort_1 ?_
  refine g4 C hw kx_1 1 (by decide) wd_31 rfl dX7_sort_4 ?_
  refine y_sipush C dX7_sort_7 (by decide) ?_
  refine y_icmp_le (tgt := 16) C (a' := zm (σ 1 1)) (b' := 200) rfl (by decide) dX7_sort_10 (by decide) (fun hc => ?_) (fun hc => ?_)
  · rw [if_pos hc] at h
    refine y_aload_n C dX7_sort_16 (lv_at hl 0 rfl) ?_
    refine g7 C hw kx_0 11 (by decide) wd_305 rfl dX7_sort_17 ?_
    refine y_iconst C dX7_sort_20 ?_
    refine y_icmp_lt (tgt := 27) C (a' := zm (σ 0 11)) (b' := 4) rfl (by decide) dX7_sort_21 (by decide) (fun hc => ?_) (fun hc => ?_)
    · rw [if_pos hc] at h
      refine y_aload_n C dX7_sort_27 (lv_at hl 0 rfl) ?_
      refine g7 C hw kx_0 2 (by decide) wd_296 rfl dX7_sort_28 ?_
      refine y_aload_n C dX7_sort_31 (lv_at hl 0 rfl) ?_
      refine g7 C hw kx_0 11 (by decide) wd_305 rfl dX7_sort_32 ?_
      obtain ⟨hg35, h⟩ := gd_some h
      refine y_aald C hw kx_4 (by decide) rfl rfl (i' := zm (σ 0 11)) rfl hg35 dX7_sort_35 ?_
      refine y_aload_n C dX7_sort_36 (lv_at hl 0 rfl) ?_
      refine g7 C hw kx_0 0 (by decide) wd_294 rfl dX7_sort_37 ?_
      obtain ⟨x40, hc40, h⟩ := bd_some h
      refine y_cv (rest := []) hw (y_rV C hw (kr_31 (i := zm (σ 0 11)) hg35) (by decide) rfl rfl (c_X6_readFrom (kr_31 (i := zm (σ 0 11)) hg35) kx_1 hc40) mi_X6_readFrom wd_491 wd_492 wd_493 rfl ⟨by decide, by decide⟩ hl rfl (Nat.le_of_ble_eq_true rfl) dX7_sort_40) (fun H locs hw => ?_)
      refine y_aload_n C dX7_sort_43 (lv_at hl 0 rfl) ?_
      refine y_aload_n C dX7_sort_44 (lv_at hl 0 rfl) ?_
      refine g7 C hw kx_0 11 (by decide) wd_305 rfl dX7_sort_45 ?_
      obtain ⟨x48, hc48, h⟩ := bd_some h
      refine y_ci (rest := []) hw (y_rV C hw kx_0 (by decide) rfl rfl (c_X7_closeText  hc48) mi_X7_closeText wd_473 wd_475 ws_5 rfl ⟨by decide, by decide⟩ hl rfl (Nat.le_of_ble_eq_true rfl) dX7_sort_48) (fun H locs hw => ?_)
      refine y_istore_n (lv' := [(1, .int (zI x48.1)), (0, .ref (ad 0))]) C dX7_sort_51 hl (by decide) rfl (fun ls hl => ?_)
      refine y_iload_n C dX7_sort_52 (lv_at hl 0 rfl) ?_
      refine y_if_lt (tgt := 66) C (a' := zm x48.1) rfl dX7_sort_53 (by decide) (fun hc => ?_) (fun hc => ?_)
      · rw [if_pos hc] at h
        refine y_iload_n C dX7_sort_66 (lv_at hl 0 rfl) ?_
        exact y_iret C hw h dX7_sort_67
      · rw [if_neg hc] at h
        refine y_aload_n C dX7_sort_56 (lv_at hl 1 rfl) ?_
        refine y_dup C dX7_sort_57 rfl ?_
        refine g7 C hw kx_0 11 (by decide) wd_305 rfl dX7_sort_58 ?_
        refine y_iconst C dX7_sort_61 ?_
        refine y_iadd C dX7_sort_62 ?_
        obtain ⟨σ63, eσ63, h⟩ := nx_some h
        refine q7 C hw kx_0 11 (by decide) wd_305 rfl rfl rfl (by decide) ((x48.2 0 11) + 1) 11 rfl rfl dX7_sort_63 (fun H locs hw => ?_)
        rw [← eσ63] at hw
        refine y_iload_n C dX7_sort_66 (lv_at hl 0 rfl) ?_
        exact y_iret C hw h dX7_sort_67
    · rw [if_neg hc] at h
      refine y_ldc C (z := (-1000000004)) wd_345 (by decide) dX7_sort_24 ?_
      exact y_iret C hw h dX7_sort_26
  · rw [if_neg hc] at h
    refine y_ldc C (z := (-1000000003)) wd_490 (by decide) dX7_sort_13 ?_
    exact y_iret C hw h dX7_sort_15
theorem c_X7_sort {l : Launch} {D : va_G} {cA : Nat → ClassId} {adK adV : Nat → Nat} {A : Nat → Prop} {ad : Int → Nat} {R : va_W} {σ : St} {res : Int × St}   (h : p_X7_sort  σ = some res) : Met l yX7_sort (wsU yX7_sort cX7_sort 2 (some .int)) (rmU 6 134) (va_Pc [.ref (ad 0)] (Pr D cA adK adV ad kX 151 R A σ)) (QI D cA ad kX 151 R A res) 0 0 A :=
  y_met (own := RX7) (by decide) rfl _ (Nat.le_of_ble_eq_true rfl) (fun p e s m args below meth c ls C hl hw => k_X7_sort_0 C  hw hl h)
/-! RungHouse.rule -/
set_option maxRecDepth 100000 in
set_option maxHeartbeats 4000000 in
theorem k_X7_rule_0   (C : Cx cX7_rule RX7 2 (some .int) D cA adK adV A p s m args meth c)  {σ : St} {H : Heap} {locs : List Loc} {ls : Array Slot}  (hw : At D cA ad kX 151 R A s σ H locs) (hl : lv_has ls 2 [(0, .ref (ad 0))]) (h : p_X7_rule   σ = some res) : W p l e (rmU 7 155) s m args below meth c H locs 0 0 (MQ below (QI D cA ad kX 151 R A res) args s 0 0 A) (F0 m 0 ls []) := by
  have h := h
  unfold p_X7_rule at h
  refine y_aload_n C dX7_rule_0 (lv_at hl 0 rfl) ?_
  refine g7 C hw kx_0 0 (by decide) wd_294 rfl dX7_rule_1 ?_
  refine g4 C hw kx_1 1 (by decide) wd_31 rfl dX7_rule_4 ?_
  refine y_bipush C dX7_rule_7 (by decide) ?_
  refine y_icmp_le (tgt := 15) C (a' := zm (σ 1 1)) (b' := 120) rfl (by decide) dX7_rule_9 (by decide) (fun hc => ?_) (fun hc => ?_)
  · rw [if_pos hc] at h
    refine y_aload_n C dX7_rule_15 (lv_at hl 0 rfl) ?_
    refine g7 C hw kx_0 12 (by decide) wd_306 rfl dX7_rule_16 ?_
    refine y_iconst C dX7_rule_19 ?_
    refine y_icmp_lt (tgt := 26) C (a' := zm (σ 0 12)) (b' := 4) rfl (by decide) dX7_rule_20 (by decide) (fun hc => ?_) (fun hc => ?_)
    · rw [if_pos hc] at h
      refine y_aload_n C dX7_rule_26 (lv_at hl 0 rfl) ?_
      refine g7 C hw kx_0 3 (by decide) wd_297 rfl dX7_rule_27 ?_
      refine y_aload_n C dX7_rule_30 (lv_at hl 0 rfl) ?_
      refine g7 C hw kx_0 12 (by decide) wd_306 rfl dX7_rule_31 ?_
      obtain ⟨hg34, h⟩ := gd_some h
      refine y_aald C hw kx_5 (by decide) rfl rfl (i' := zm (σ 0 12)) rfl hg34 dX7_rule_34 ?_
      refine y_aload_n C dX7_rule_35 (lv_at hl 0 rfl) ?_
      refine g7 C hw kx_0 0 (by decide) wd_294 rfl dX7_rule_36 ?_
      obtain ⟨x39, hc39, h⟩ := bd_some h
      refine y_cv (rest := []) hw (y_rV C hw (kr_32 (i := zm (σ 0 12)) hg34) (by decide) rfl rfl (c_X5_readFrom (kr_32 (i := zm (σ 0 12)) hg34) kx_1 hc39) mi_X5_readFrom wd_520 wd_521 wd_522 rfl ⟨by decide, by decide⟩ hl rfl (Nat.le_of_ble_eq_true rfl) dX7_rule_39) (fun H locs hw => ?_)
      refine y_aload_n C dX7_rule_42 (lv_at hl 0 rfl) ?_
      refine y_aload_n C dX7_rule_43 (lv_at hl 0 rfl) ?_
      refine g7 C hw kx_0 12 (by decide) wd_306 rfl dX7_rule_44 ?_
      obtain ⟨x47, hc47, h⟩ := bd_some h
      refine y_ci (rest := []) hw (y_rV C hw kx_0 (by decide) rfl rfl (c_X7_closeText  hc47) mi_X7_closeText wd_473 wd_475 ws_5 rfl ⟨by decide, by decide⟩ hl rfl (Nat.le_of_ble_eq_true rfl) dX7_rule_47) (fun H locs hw => ?_)
      refine y_istore_n (lv' := [(1, .int (zI x47.1)), (0, .ref (ad 0))]) C dX7_rule_50 hl (by decide) rfl (fun ls hl => ?_)
      refine y_iload_n C dX7_rule_51 (lv_at hl 0 rfl) ?_
      refine y_if_lt (tgt := 65) C (a' := zm x47.1) rfl dX7_rule_52 (by decide) (fun hc => ?_) (fun hc => ?_)
      · rw [if_pos hc] at h
        refine y_iload_n C dX7_rule_65 (lv_at hl 0 rfl) ?_
        exact y_iret C hw h dX7_rule_66
      · rw [if_neg hc] at h
        refine y_aload_n C dX7_rule_55 (lv_at hl 1 rfl) ?_
        refine y_dup C dX7_rule_56 rfl ?_
        refine g7 C hw kx_0 12 (by decide) wd_306 rfl dX7_rule_57 ?_
        refine y_iconst C dX7_rule_60 ?_
        refine y_iadd C dX7_rule_61 ?_
        obtain ⟨σ62, eσ62, h⟩ := nx_some h
        refine q7 C hw kx_0 12 (by decide) wd_306 rfl rfl rfl (by decide) ((x47.2 0 12) + 1) 12 rfl rfl dX7_rule_62 (fun H locs hw => ?_)
        rw [← eσ62] at hw
        refine y_iload_n C dX7_rule_65 (lv_at hl 0 rfl) ?_
        exact y_iret C hw h dX7_rule_66
    · rw [if_neg hc] at h
      refine y_ldc C (z := (-1000000004)) wd_345 (by decide) dX7_rule_23 ?_
      exact y_iret C hw h dX7_rule_25
  · rw [if_neg hc] at h
    refine y_ldc C (z := (-1000000003)) wd_490 (by decide) dX7_rule_12 ?_
    exact y_iret C hw h dX7_rule_14
theorem c_X7_rule {l : Launch} {D : va_G} {cA : Nat → ClassId} {adK adV : Nat → Nat} {A : Nat → Prop} {ad : Int → Nat} {R : va_W} {σ : St} {res : Int × St}   (h : p_X7_rule  σ = some res) : Met l yX7_rule (wsU yX7_rule cX7_rule 2 (some .int)) (rmU 7 155) (va_Pc [.ref (ad 0)] (Pr D cA adK adV ad kX 151 R A σ)) (QI D cA ad kX 151 R A res) 0 0 A :=
  y_met (own := RX7) (by decide) rfl _ (Nat.le_of_ble_eq_true rfl) (fun p e s m args below meth c ls C hl hw => k_X7_rule_0 C  hw hl h)
/-! RungHouse.fault -/
set_option maxRecDepth 100000 in
set_option maxHeartbeats 4000000 in
theorem k_X7_fault_0   (C : Cx cX7_fault RX7 1 (some .int) D cA adK adV A p s m args meth c)  {σ : St} {H : Heap} {locs : List Loc} {ls : Array Slot}  (hw : At D cA ad kX 151 R A s σ H locs) (hl : lv_has ls 1 [(0, .ref (ad 0))]) (h : p_X7_fault   σ = some res) : W p l e (rmU 0 0) s m args below meth c H locs 0 0 (MQ below (QI D cA ad kX 151 R A res) args s 0 0 A) (F0 m 0 ls []) := by
  have h := h
  unfold p_X7_fault at h
  refine y_aload_n C dX7_fault_0 (lv_at hl 0 rfl) ?_
  refine g7 C hw kx_0 13 (by decide) wd_307 rfl dX7_fault_1 ?_
  exact y_iret C hw h dX7_fault_4
theorem c_X7_fault {l : Launch} {D : va_G} {cA : Nat → ClassId} {adK adV : Nat → Nat} {A : Nat → Prop} {ad : Int → Nat} {R : va_W} {σ : St} {res : Int × St}   (h : p_X7_fault  σ = some res) : Met l yX7_fault (wsU yX7_fault cX7_fault 1 (some .int)) (rmU 0 0) (va_Pc [.ref (ad 0)] (Pr D cA adK adV ad kX 151 R A σ)) (QI D cA ad kX 151 R A res) 0 0 A :=
  y_met (own := RX7) (by decide) rfl _ (Nat.le_of_ble_eq_true rfl) (fun p e s m args below meth c ls C hl hw => k_X7_fault_0 C  hw hl h)
/-! RungHouse.isHouse -/
set_option maxRecDepth 100000 in
set_option maxHeartbeats 4000000 in
theorem k_X7_isHouse_0  {v1 : Int} (C : Cx cX7_isHouse RX7 2 (some .boolean) D cA adK adV A p s m args meth c)  {σ : St} {H : Heap} {locs : List Loc} {ls : Array Slot}  (hw : At D cA ad kX 151 R A s σ H locs) (hl : lv_has ls 2 [(0, .ref (ad 0)), (1, .int (zI v1))]) (h : p_X7_isHouse  v1 σ = some res) : W p l e (rmU 1 22) s m args below meth c H locs 0 0 (MQ below (QI D cA ad kX 151 R A res) args s 0 0 A) (F0 m 0 ls []) := by
  have h := h
  unfold p_X7_isHouse at h
  refine y_iload_n C dX7_isHouse_0 (lv_at hl 1 rfl) ?_
  refine y_iconst C dX7_isHouse_1 ?_
  refine y_iconst C dX7_isHouse_2 ?_
  obtain ⟨x3, hc3, h⟩ := bd_some h
  refine y_ci (rest := []) hw (y_rS C hw (c_X7_isOut  hc3) mi_X7_isOut wd_341 wd_342 rfl ⟨by decide, by decide⟩ hl rfl (Nat.le_of_ble_eq_true rfl) dX7_isHouse_3) (fun H locs hw => ?_)
  refine y_if_ne (tgt := 25) C (a' := zm x3.1) rfl dX7_isHouse_6 (by decide) (fun hc => ?_) (fun hc => ?_)
  · rw [if_pos hc] at h
    refine y_aload_n C dX7_isHouse_9 (lv_at hl 0 rfl) ?_
    refine g7 C hw kx_0 1 (by decide) wd_295 rfl dX7_isHouse_10 ?_
    refine y_iload_n C dX7_isHouse_13 (lv_at hl 1 rfl) ?_
    obtain ⟨hg14, h⟩ := gd_some h
    refine y_aald C hw kx_3 (by decide) rfl rfl (i' := zm v1) rfl hg14 dX7_isHouse_14 ?_
    refine g0 C hw (kr_30 (i := zm v1) hg14) 1 (by decide) wd_85 rfl dX7_isHouse_15 ?_
    refine y_if_le (tgt := 25) C (a' := zm (x3.2 (23 + 2 * zm v1) 1)) rfl dX7_isHouse_18 (by decide) (fun hc => ?_) (fun hc => ?_)
    · rw [if_pos hc] at h
      refine y_iconst C dX7_isHouse_25 ?_
      exact y_zret C hw (by decide) h dX7_isHouse_26
    · rw [if_neg hc] at h
      refine y_iconst C dX7_isHouse_21 ?_
      refine y_goto (tgt := 26) C dX7_isHouse_22 (by decide) ?_
      exact y_zret C hw (by decide) h dX7_isHouse_26
  · rw [if_neg hc] at h
    refine y_iconst C dX7_isHouse_25 ?_
    exact y_zret C hw (by decide) h dX7_isHouse_26
theorem c_X7_isHouse {l : Launch} {D : va_G} {cA : Nat → ClassId} {adK adV : Nat → Nat} {A : Nat → Prop} {ad : Int → Nat} {R : va_W} {σ : St} {res : Int × St} {v1 : Int}  (h : p_X7_isHouse v1 σ = some res) : Met l yX7_isHouse (wsU yX7_isHouse cX7_isHouse 2 (some .boolean)) (rmU 1 22) (va_Pc [.ref (ad 0), .int (zI v1)] (Pr D cA adK adV ad kX 151 R A σ)) (QI D cA ad kX 151 R A res) 0 0 A :=
  y_met (own := RX7) (by decide) rfl _ (Nat.le_of_ble_eq_true rfl) (fun p e s m args below meth c ls C hl hw => k_X7_isHouse_0 C  hw hl h)
/-! RungHouse.told -/
set_option maxRecDepth 100000 in
set_option maxHeartbeats 4000000 in
theorem k_X7_told_0  {v1 : Int} {v2 : Int} (C : Cx cX7_told RX7 3 (some .int) D cA adK adV A p s m args meth c)  {σ : St} {H : Heap} {locs : List Loc} {ls : Array Slot}  (hw : At D cA ad kX 151 R A s σ H locs) (hl : lv_has ls 3 [(0, .ref (ad 0)), (1, .int (zI v1)), (2, .int (zI v2))]) (h : p_X7_told  v1 v2 σ = some res) : W p l e (rmU 2 43) s m args below meth c H locs 0 0 (MQ below (QI D cA ad kX 151 R A res) args s 0 0 A) (F0 m 0 ls []) := by
  have h := h
  unfold p_X7_told at h
  refine y_aload_n C dX7_told_0 (lv_at hl 0 rfl) ?_
  refine y_iload_n C dX7_told_1 (lv_at hl 1 rfl) ?_
  obtain ⟨x2, hc2, h⟩ := bd_some h
  refine y_ci (rest := []) hw (y_rV C hw kx_0 (by decide) rfl rfl (c_X7_isHouse  hc2) mi_X7_isHouse wd_546 wd_548 ws_10 rfl ⟨by decide, by decide⟩ hl rfl (Nat.le_of_ble_eq_true rfl) dX7_told_2) (fun H locs hw => ?_)
  refine y_if_ne (tgt := 11) C (a' := zm x2.1) rfl dX7_told_5 (by decide) (fun hc => ?_) (fun hc => ?_)
  · rw [if_pos hc] at h
    refine y_ldc C (z := (-1000000001)) wd_354 (by decide) dX7_told_8 ?_
    exact y_iret C hw h dX7_told_10
  · rw [if_neg hc] at h
    refine y_iload_n C dX7_told_11 (lv_at hl 2 rfl) ?_
    by_cases hc0 : zm v2 = 0
    · rw [if_pos hc0] at h
      refine y_tabIn (tgt := 52) C dX7_told_12 hc0 (by decide) (by decide) rfl (by decide) ?_
      refine y_aload_n C dX7_told_52 (lv_at hl 0 rfl) ?_
      refine g7 C hw kx_0 1 (by decide) wd_295 rfl dX7_told_53 ?_
      refine y_iload_n C dX7_told_56 (lv_at hl 1 rfl) ?_
      obtain ⟨hg57, h⟩ := gd_some h
      refine y_aald C hw kx_3 (by decide) rfl rfl (i' := zm v1) rfl hg57 dX7_told_57 ?_
      refine g0 C hw (kr_30 (i := zm v1) hg57) 1 (by decide) wd_85 rfl dX7_told_58 ?_
      exact y_iret C hw h dX7_told_61
    · rw [if_neg hc0] at h
      by_cases hc1 : zm v2 = 1
      · rw [if_pos hc1] at h
        refine y_tabIn (tgt := 62) C dX7_told_12 hc1 (by decide) (by decide) rfl (by decide) ?_
        refine y_aload_n C dX7_told_62 (lv_at hl 0 rfl) ?_
        refine g7 C hw kx_0 1 (by decide) wd_295 rfl dX7_told_63 ?_
        refine y_iload_n C dX7_told_66 (lv_at hl 1 rfl) ?_
        obtain ⟨hg67, h⟩ := gd_some h
        refine y_aald C hw kx_3 (by decide) rfl rfl (i' := zm v1) rfl hg67 dX7_told_67 ?_
        refine g0 C hw (kr_30 (i := zm v1) hg67) 3 (by decide) wd_90 rfl dX7_told_68 ?_
        exact y_iret C hw h dX7_told_71
      · rw [if_neg hc1] at h
        by_cases hc2 : zm v2 = 2
        · rw [if_pos hc2] at h
          refine y_tabIn (tgt := 72) C dX7_told_12 hc2 (by decide) (by decide) rfl (by decide) ?_
          refine y_aload_n C dX7_told_72 (lv_at hl 0 rfl) ?_
          refine g7 C hw kx_0 1 (by decide) wd_295 rfl dX7_told_73 ?_
          refine y_iload_n C dX7_told_76 (lv_at hl 1 rfl) ?_
          obtain ⟨hg77, h⟩ := gd_some h
          refine y_aald C hw kx_3 (by decide) rfl rfl (i' := zm v1) rfl hg77 dX7_told_77 ?_
          refine g0 C hw (kr_30 (i := zm v1) hg77) 4 (by decide) wd_92 rfl dX7_told_78 ?_
          exact y_iret C hw h dX7_told_81
        · rw [if_neg hc2] at h
          by_cases hc3 : zm v2 = 3
          · rw [if_pos hc3] at h
            refine y_tabIn (tgt := 82) C dX7_told_12 hc3 (by decide) (by decide) rfl (by decide) ?_
            refine y_aload_n C dX7_told_82 (lv_at hl 0 rfl) ?_
            refine g7 C hw kx_0 1 (by decide) wd_295 rfl dX7_told_83 ?_
            refine y_iload_n C dX7_told_86 (lv_at hl 1 rfl) ?_
            obtain ⟨hg87, h⟩ := gd_some h
            refine y_aald C hw kx_3 (by decide) rfl rfl (i' := zm v1) rfl hg87 dX7_told_87 ?_
            refine g0 C hw (kr_30 (i := zm v1) hg87) 5 (by decide) wd_94 rfl dX7_told_88 ?_
            exact y_iret C hw h dX7_told_91
          · rw [if_neg hc3] at h
            by_cases hc4 : zm v2 = 4
            · rw [if_pos hc4] at h
              refine y_tabIn (tgt := 92) C dX7_told_12 hc4 (by decide) (by decide) rfl (by decide) ?_
              refine y_aload_n C dX7_told_92 (lv_at hl 0 rfl) ?_
              refine g7 C hw kx_0 1 (by decide) wd_295 rfl dX7_told_93 ?_
              refine y_iload_n C dX7_told_96 (lv_at hl 1 rfl) ?_
              obtain ⟨hg97, h⟩ := gd_some h
              refine y_aald C hw kx_3 (by decide) rfl rfl (i' := zm v1) rfl hg97 dX7_told_97 ?_
              refine g0 C hw (kr_30 (i := zm v1) hg97) 6 (by decide) wd_97 rfl dX7_told_98 ?_
              exact y_iret C hw h dX7_told_101
            · rw [if_neg hc4] at h
              by_cases hc5 : zm v2 = 5
              · rw [if_pos hc5] at h
                refine y_tabIn (tgt := 102) C dX7_told_12 hc5 (by decide) (by decide) rfl (by decide) ?_
                refine y_aload_n C dX7_told_102 (lv_at hl 0 rfl) ?_
                refine g7 C hw kx_0 1 (by decide) wd_295 rfl dX7_told_103 ?_
                refine y_iload_n C dX7_told_106 (lv_at hl 1 rfl) ?_
                obtain ⟨hg107, h⟩ := gd_some h
                refine y_aald C hw kx_3 (by decide) rfl rfl (i' := zm v1) rfl hg107 dX7_told_107 ?_
                refine g0 C hw (kr_30 (i := zm v1) hg107) 2 (by decide) wd_88 rfl dX7_told_108 ?_
                exact y_iret C hw h dX7_told_111
              · rw [if_neg hc5] at h
                refine y_tabOut (tgt := 112) C dX7_told_12 (by omega) (by decide) ?_
                refine y_ldc C (z := (-1000000002)) wd_344 (by decide) dX7_told_112 ?_
                exact y_iret C hw h dX7_told_114
theorem c_X7_told {l : Launch} {D : va_G} {cA : Nat → ClassId} {adK adV : Nat → Nat} {A : Nat → Prop} {ad : Int → Nat} {R : va_W} {σ : St} {res : Int × St} {v1 : Int} {v2 : Int}  (h : p_X7_told v1 v2 σ = some res) : Met l yX7_told (wsU yX7_told cX7_told 3 (some .int)) (rmU 2 43) (va_Pc [.ref (ad 0), .int (zI v1), .int (zI v2)] (Pr D cA adK adV ad kX 151 R A σ)) (QI D cA ad kX 151 R A res) 0 0 A :=
  y_met (own := RX7) (by decide) rfl _ (Nat.le_of_ble_eq_true rfl) (fun p e s m args below meth c ls C hl hw => k_X7_told_0 C  hw hl h)
/-! RungHouse.isRung -/
set_option maxRecDepth 100000 in
set_option maxHeartbeats 4000000 in
theorem k_X7_isRung_0  {v1 : Int} {v2 : Int} (C : Cx cX7_isRung RX7 3 (some .boolean) D cA adK adV A p s m args meth c)  {σ : St} {H : Heap} {locs : List Loc} {ls : Array Slot}  (hw : At D cA ad kX 151 R A s σ H locs) (hl : lv_has ls 3 [(0, .ref (ad 0)), (1, .int (zI v1)), (2, .int (zI v2))]) (h : p_X7_isRung  v1 v2 σ = some res) : W p l e (rmU 2 43) s m args below meth c H locs 0 0 (MQ below (QI D cA ad kX 151 R A res) args s 0 0 A) (F0 m 0 ls []) := by
  have h := h
  unfold p_X7_isRung at h
  refine y_aload_n C dX7_isRung_0 (lv_at hl 0 rfl) ?_
  refine y_iload_n C dX7_isRung_1 (lv_at hl 1 rfl) ?_
  obtain ⟨x2, hc2, h⟩ := bd_some h
  refine y_ci (rest := []) hw (y_rV C hw kx_0 (by decide) rfl rfl (c_X7_isHouse  hc2) mi_X7_isHouse wd_546 wd_548 ws_10 rfl ⟨by decide, by decide⟩ hl rfl (Nat.le_of_ble_eq_true rfl) dX7_isRung_2) (fun H locs hw => ?_)
  refine y_if_eq (tgt := 31) C (a' := zm x2.1) rfl dX7_isRung_5 (by decide) (fun hc => ?_) (fun hc => ?_)
  · rw [if_pos hc] at h
    refine y_iconst C dX7_isRung_31 ?_
    exact y_zret C hw (by decide) h dX7_isRung_32
  · rw [if_neg hc] at h
    refine y_iload_n C dX7_isRung_8 (lv_at hl 2 rfl) ?_
    refine y_iconst C dX7_isRung_9 ?_
    refine y_aload_n C dX7_isRung_10 (lv_at hl 0 rfl) ?_
    refine g7 C hw kx_0 1 (by decide) wd_295 rfl dX7_isRung_11 ?_
    refine y_iload_n C dX7_isRung_14 (lv_at hl 1 rfl) ?_
    obtain ⟨hg15, h⟩ := gd_some h
    refine y_aald C hw kx_3 (by decide) rfl rfl (i' := zm v1) rfl hg15 dX7_isRung_15 ?_
    refine g0 C hw (kr_30 (i := zm v1) hg15) 1 (by decide) wd_85 rfl dX7_isRung_16 ?_
    refine y_iconst C dX7_isRung_19 ?_
    refine y_isub C dX7_isRung_20 ?_
    obtain ⟨x21, hc21, h⟩ := bd_some h
    refine y_ci (rest := []) hw (y_rS C hw (c_X7_isOut  hc21) mi_X7_isOut wd_341 wd_342 rfl ⟨by decide, by decide⟩ hl rfl (Nat.le_of_ble_eq_true rfl) dX7_isRung_21) (fun H locs hw => ?_)
    refine y_if_ne (tgt := 31) C (a' := zm x21.1) rfl dX7_isRung_24 (by decide) (fun hc => ?_) (fun hc => ?_)
    · rw [if_pos hc] at h
      refine y_iconst C dX7_isRung_27 ?_
      refine y_goto (tgt := 32) C dX7_isRung_28 (by decide) ?_
      exact y_zret C hw (by decide) h dX7_isRung_32
    · rw [if_neg hc] at h
      refine y_iconst C dX7_isRung_31 ?_
      exact y_zret C hw (by decide) h dX7_isRung_32
theorem c_X7_isRung {l : Launch} {D : va_G} {cA : Nat → ClassId} {adK adV : Nat → Nat} {A : Nat → Prop} {ad : Int → Nat} {R : va_W} {σ : St} {res : Int × St} {v1 : Int} {v2 : Int}  (h : p_X7_isRung v1 v2 σ = some res) : Met l yX7_isRung (wsU yX7_isRung cX7_isRung 3 (some .boolean)) (rmU 2 43) (va_Pc [.ref (ad 0), .int (zI v1), .int (zI v2)] (Pr D cA adK adV ad kX 151 R A σ)) (QI D cA ad kX 151 R A res) 0 0 A :=
  y_met (own := RX7) (by decide) rfl _ (Nat.le_of_ble_eq_true rfl) (fun p e s m args below meth c ls C hl hw => k_X7_isRung_0 C  hw hl h)
/-! RungHouse.pays -/
set_option maxRecDepth 100000 in
set_option maxHeartbeats 4000000 in
theorem k_X7_pays_0  {v1 : Int} {v2 : Int} (C : Cx cX7_pays RX7 3 (some .int) D cA adK adV A p s m args meth c)  {σ : St} {H : Heap} {locs : List Loc} {ls : Array Slot}  (hw : At D cA ad kX 151 R A s σ H locs) (hl : lv_has ls 3 [(0, .ref (ad 0)), (1, .int (zI v1)), (2, .int (zI v2))]) (h : p_X7_pays  v1 v2 σ = some res) : W p l e (rmU 3 65) s m args below meth c H locs 0 0 (MQ below (QI D cA ad kX 151 R A res) args s 0 0 A) (F0 m 0 ls []) := by
  have h := h
  unfold p_X7_pays at h
  refine y_aload_n C dX7_pays_0 (lv_at hl 0 rfl) ?_
  refine y_iload_n C dX7_pays_1 (lv_at hl 1 rfl) ?_
  refine y_iload_n C dX7_pays_2 (lv_at hl 2 rfl) ?_
  obtain ⟨x3, hc3, h⟩ := bd_some h
  refine y_ci (rest := []) hw (y_rV C hw kx_0 (by decide) rfl rfl (c_X7_isRung  hc3) mi_X7_isRung wd_554 wd_556 ws_11 rfl ⟨by decide, by decide⟩ hl rfl (Nat.le_of_ble_eq_true rfl) dX7_pays_3) (fun H locs hw => ?_)
  refine y_if_eq (tgt := 23) C (a' := zm x3.1) rfl dX7_pays_6 (by decide) (fun hc => ?_) (fun hc => ?_)
  · rw [if_pos hc] at h
    refine y_ldc C (z := (-1000000001)) wd_354 (by decide) dX7_pays_23 ?_
    exact y_iret C hw h dX7_pays_25
  · rw [if_neg hc] at h
    refine y_aload_n C dX7_pays_9 (lv_at hl 0 rfl) ?_
    refine g7 C hw kx_0 1 (by decide) wd_295 rfl dX7_pays_10 ?_
    refine y_iload_n C dX7_pays_13 (lv_at hl 1 rfl) ?_
    obtain ⟨hg14, h⟩ := gd_some h
    refine y_aald C hw kx_3 (by decide) rfl rfl (i' := zm v1) rfl hg14 dX7_pays_14 ?_
    refine g0 C hw (kr_30 (i := zm v1) hg14) 0 (by decide) wd_81 rfl dX7_pays_15 ?_
    refine y_iload_n C dX7_pays_18 (lv_at hl 2 rfl) ?_
    obtain ⟨hg19, h⟩ := gd_some h
    refine y_iald C hw (ka0_prices (kr_30 (i := zm v1) hg14)) (i' := zm v2) rfl hg19 dX7_pays_19 ?_
    refine y_goto (tgt := 25) C dX7_pays_20 (by decide) ?_
    exact y_iret C hw h dX7_pays_25
theorem c_X7_pays {l : Launch} {D : va_G} {cA : Nat → ClassId} {adK adV : Nat → Nat} {A : Nat → Prop} {ad : Int → Nat} {R : va_W} {σ : St} {res : Int × St} {v1 : Int} {v2 : Int}  (h : p_X7_pays v1 v2 σ = some res) : Met l yX7_pays (wsU yX7_pays cX7_pays 3 (some .int)) (rmU 3 65) (va_Pc [.ref (ad 0), .int (zI v1), .int (zI v2)] (Pr D cA adK adV ad kX 151 R A σ)) (QI D cA ad kX 151 R A res) 0 0 A :=
  y_met (own := RX7) (by decide) rfl _ (Nat.le_of_ble_eq_true rfl) (fun p e s m args below meth c ls C hl hw => k_X7_pays_0 C  hw hl h)
/-! RungHouse.next -/
set_option maxRecDepth 100000 in
set_option maxHeartbeats 4000000 in
theorem k_X7_next_0  {v1 : Int} {v2 : Int} {v3 : Int} (C : Cx cX7_next RX7 4 (some .int) D cA adK adV A p s m args meth c)  {σ : St} {H : Heap} {locs : List Loc} {ls : Array Slot}  (hw : At D cA ad kX 151 R A s σ H locs) (hl : lv_has ls 4 [(0, .ref (ad 0)), (1, .int (zI v1)), (2, .int (zI v2)), (3, .int (zI v3))]) (h : p_X7_next  v1 v2 v3 σ = some res) : W p l e (rmU 3 65) s m args below meth c H locs 0 0 (MQ below (QI D cA ad kX 151 R A res) args s 0 0 A) (F0 m 0 ls []) := by
  have h := h
  unfold p_X7_next at h
  refine y_aload_n C dX7_next_0 (lv_at hl 0 rfl) ?_
  refine y_iload_n C dX7_next_1 (lv_at hl 1 rfl) ?_
  refine y_iload_n C dX7_next_2 (lv_at hl 2 rfl) ?_
  obtain ⟨x3, hc3, h⟩ := bd_some h
  refine y_ci (rest := []) hw (y_rV C hw kx_0 (by decide) rfl rfl (c_X7_isRung  hc3) mi_X7_isRung wd_554 wd_556 ws_11 rfl ⟨by decide, by decide⟩ hl rfl (Nat.le_of_ble_eq_true rfl) dX7_next_3) (fun H locs hw => ?_)
  refine y_if_ne (tgt := 12) C (a' := zm x3.1) rfl dX7_next_6 (by decide) (fun hc => ?_) (fun hc => ?_)
  · rw [if_pos hc] at h
    refine y_ldc C (z := (-1000000001)) wd_354 (by decide) dX7_next_9 ?_
    exact y_iret C hw h dX7_next_11
  · rw [if_neg hc] at h
    refine y_iload_n C dX7_next_12 (lv_at hl 3 rfl) ?_
    refine y_iconst C dX7_next_13 ?_
    refine y_iconst C dX7_next_14 ?_
    obtain ⟨x15, hc15, h⟩ := bd_some h
    refine y_ci (rest := []) hw (y_rS C hw (c_X7_isOut  hc15) mi_X7_isOut wd_341 wd_342 rfl ⟨by decide, by decide⟩ hl rfl (Nat.le_of_ble_eq_true rfl) dX7_next_15) (fun H locs hw => ?_)
    refine y_if_eq (tgt := 26) C (a' := zm x15.1) rfl dX7_next_18 (by decide) (fun hc => ?_) (fun hc => ?_)
    · rw [if_pos hc] at h
      refine y_aload_n C dX7_next_26 (lv_at hl 0 rfl) ?_
      refine g7 C hw kx_0 1 (by decide) wd_295 rfl dX7_next_27 ?_
      refine y_iload_n C dX7_next_30 (lv_at hl 1 rfl) ?_
      obtain ⟨hg31, h⟩ := gd_some h
      refine y_aald C hw kx_3 (by decide) rfl rfl (i' := zm v1) rfl hg31 dX7_next_31 ?_
      refine y_iload_n C dX7_next_32 (lv_at hl 2 rfl) ?_
      refine y_iload_n C dX7_next_33 (lv_at hl 3 rfl) ?_
      obtain ⟨x34, hc34, h⟩ := bd_some h
      refine y_ci (rest := []) hw (y_rV C hw (kr_30 (i := zm v1) hg31) (by decide) rfl rfl (c_X0_rungAfter (kr_30 (i := zm v1) hg31) hc34) mi_X0_rungAfter wd_562 wd_563 wd_564 rfl ⟨by decide, by decide⟩ hl rfl (Nat.le_of_ble_eq_true rfl) dX7_next_34) (fun H locs hw => ?_)
      exact y_iret C hw h dX7_next_37
    · rw [if_neg hc] at h
      refine y_ldc C (z := (-1000000002)) wd_344 (by decide) dX7_next_21 ?_
      refine y_goto (tgt := 37) C dX7_next_23 (by decide) ?_
      exact y_iret C hw h dX7_next_37
theorem c_X7_next {l : Launch} {D : va_G} {cA : Nat → ClassId} {adK adV : Nat → Nat} {A : Nat → Prop} {ad : Int → Nat} {R : va_W} {σ : St} {res : Int × St} {v1 : Int} {v2 : Int} {v3 : Int}  (h : p_X7_next v1 v2 v3 σ = some res) : Met l yX7_next (wsU yX7_next cX7_next 4 (some .int)) (rmU 3 65) (va_Pc [.ref (ad 0), .int (zI v1), .int (zI v2), .int (zI v3)] (Pr D cA adK adV ad kX 151 R A σ)) (QI D cA ad kX 151 R A res) 0 0 A :=
  y_met (own := RX7) (by decide) rfl _ (Nat.le_of_ble_eq_true rfl) (fun p e s m args below meth c ls C hl hw => k_X7_next_0 C  hw hl h)
/-! RungHouse.isSort -/
set_option maxRecDepth 100000 in
set_option maxHeartbeats 4000000 in
theorem k_X7_isSort_0  {v1 : Int} (C : Cx cX7_isSort RX7 2 (some .boolean) D cA adK adV A p s m args meth c)  {σ : St} {H : Heap} {locs : List Loc} {ls : Array Slot}  (hw : At D cA ad kX 151 R A s σ H locs) (hl : lv_has ls 2 [(0, .ref (ad 0)), (1, .int (zI v1))]) (h : p_X7_isSort  v1 σ = some res) : W p l e (rmU 1 22) s m args below meth c H locs 0 0 (MQ below (QI D cA ad kX 151 R A res) args s 0 0 A) (F0 m 0 ls []) := by
  have h := h
  unfold p_X7_isSort at h
  refine y_iload_n C dX7_isSort_0 (lv_at hl 1 rfl) ?_
  refine y_iconst C dX7_isSort_1 ?_
  refine y_aload_n C dX7_isSort_2 (lv_at hl 0 rfl) ?_
  refine g7 C hw kx_0 11 (by decide) wd_305 rfl dX7_isSort_3 ?_
  refine y_iconst C dX7_isSort_6 ?_
  refine y_isub C dX7_isSort_7 ?_
  obtain ⟨x8, hc8, h⟩ := bd_some h
  refine y_ci (rest := []) hw (y_rS C hw (c_X7_isOut  hc8) mi_X7_isOut wd_341 wd_342 rfl ⟨by decide, by decide⟩ hl rfl (Nat.le_of_ble_eq_true rfl) dX7_isSort_8) (fun H locs hw => ?_)
  refine y_if_ne (tgt := 18) C (a' := zm x8.1) rfl dX7_isSort_11 (by decide) (fun hc => ?_) (fun hc => ?_)
  · rw [if_pos hc] at h
    refine y_iconst C dX7_isSort_14 ?_
    refine y_goto (tgt := 19) C dX7_isSort_15 (by decide) ?_
    exact y_zret C hw (by decide) h dX7_isSort_19
  · rw [if_neg hc] at h
    refine y_iconst C dX7_isSort_18 ?_
    exact y_zret C hw (by decide) h dX7_isSort_19
theorem c_X7_isSort {l : Launch} {D : va_G} {cA : Nat → ClassId} {adK adV : Nat → Nat} {A : Nat → Prop} {ad : Int → Nat} {R : va_W} {σ : St} {res : Int × St} {v1 : Int}  (h : p_X7_isSort v1 σ = some res) : Met l yX7_isSort (wsU yX7_isSort cX7_isSort 2 (some .boolean)) (rmU 1 22) (va_Pc [.ref (ad 0), .int (zI v1)] (Pr D cA adK adV ad kX 151 R A σ)) (QI D cA ad kX 151 R A res) 0 0 A :=
  y_met (own := RX7) (by decide) rfl _ (Nat.le_of_ble_eq_true rfl) (fun p e s m args below meth c ls C hl hw => k_X7_isSort_0 C  hw hl h)
/-! RungHouse.scrapes -/
set_option maxRecDepth 100000 in
set_option maxHeartbeats 4000000 in
theorem k_X7_scrapes_0  {v1 : Int} {v2 : Int} (C : Cx cX7_scrapes RX7 5 (some .int) D cA adK adV A p s m args meth c)  {σ : St} {H : Heap} {locs : List Loc} {ls : Array Slot}  (hw : At D cA ad kX 151 R A s σ H locs) (hl : lv_has ls 5 [(0, .ref (ad 0)), (1, .int (zI v1)), (2, .int (zI v2))]) (h : p_X7_scrapes  v1 v2 σ = some res) : W p l e (rmU 2 43) s m args below meth c H locs 0 0 (MQ below (QI D cA ad kX 151 R A res) args s 0 0 A) (F0 m 0 ls []) := by
  have h := h
  unfold p_X7_scrapes at h
  refine y_aload_n C dX7_scrapes_0 (lv_at hl 0 rfl) ?_
  refine y_iload_n C dX7_scrapes_1 (lv_at hl 1 rfl) ?_
  obtain ⟨x2, hc2, h⟩ := bd_some h
  refine y_ci (rest := []) hw (y_rV C hw kx_0 (by decide) rfl rfl (c_X7_isSort  hc2) mi_X7_isSort wd_580 wd_582 ws_12 rfl ⟨by decide, by decide⟩ hl rfl (Nat.le_of_ble_eq_true rfl) dX7_scrapes_2) (fun H locs hw => ?_)
  refine y_if_ne (tgt := 11) C (a' := zm x2.1) rfl dX7_scrapes_5 (by decide) (fun hc => ?_) (fun hc => ?_)
  · rw [if_pos hc] at h
    refine y_ldc C (z := (-1000000001)) wd_354 (by decide) dX7_scrapes_8 ?_
    exact y_iret C hw h dX7_scrapes_10
  · rw [if_neg hc] at h
    refine y_iload_n C dX7_scrapes_11 (lv_at hl 2 rfl) ?_
    refine y_iconst C dX7_scrapes_12 ?_
    refine y_bipush C dX7_scrapes_13 (by decide) ?_
    obtain ⟨x15, hc15, h⟩ := bd_some h
    refine y_ci (rest := []) hw (y_rS C hw (c_X7_isOut  hc15) mi_X7_isOut wd_341 wd_342 rfl ⟨by decide, by decide⟩ hl rfl (Nat.le_of_ble_eq_true rfl) dX7_scrapes_15) (fun H locs hw => ?_)
    refine y_if_eq (tgt := 24) C (a' := zm x15.1) rfl dX7_scrapes_18 (by decide) (fun hc => ?_) (fun hc => ?_)
    · rw [if_pos hc] at h
      refine y_aload_n C dX7_scrapes_24 (lv_at hl 0 rfl) ?_
      refine g7 C hw kx_0 2 (by decide) wd_296 rfl dX7_scrapes_25 ?_
      refine y_iload_n C dX7_scrapes_28 (lv_at hl 1 rfl) ?_
      obtain ⟨hg29, h⟩ := gd_some h
      refine y_aald C hw kx_4 (by decide) rfl rfl (i' := zm v1) rfl hg29 dX7_scrapes_29 ?_
      refine y_astore_n (lv' := [(3, .ref (ad (27 + 4 * zm v1))), (0, .ref (ad 0)), (1, .int (zI v1)), (2, .int (zI v2))]) C dX7_scrapes_30 hl (by decide) rfl (fun ls hl => ?_)
      refine y_iload_n C dX7_scrapes_31 (lv_at hl 3 rfl) ?_
      by_cases hc0 : zm v2 = 0
      · rw [if_pos hc0] at h
        refine y_tabIn (tgt := 64) C dX7_scrapes_32 hc0 (by decide) (by decide) rfl (by decide) ?_
        refine y_aload_n C dX7_scrapes_64 (lv_at hl 0 rfl) ?_
        refine g6 C hw (kr_31 (i := zm v1) hg29) 3 (by decide) wd_195 rfl dX7_scrapes_65 ?_
        exact y_iret C hw h dX7_scrapes_68
      · rw [if_neg hc0] at h
        by_cases hc1 : zm v2 = 1
        · rw [if_pos hc1] at h
          refine y_tabIn (tgt := 69) C dX7_scrapes_32 hc1 (by decide) (by decide) rfl (by decide) ?_
          refine y_aload_n C dX7_scrapes_69 (lv_at hl 0 rfl) ?_
          refine g6 C hw (kr_31 (i := zm v1) hg29) 4 (by decide) wd_197 rfl dX7_scrapes_70 ?_
          exact y_iret C hw h dX7_scrapes_73
        · rw [if_neg hc1] at h
          by_cases hc2 : zm v2 = 2
          · rw [if_pos hc2] at h
            refine y_tabIn (tgt := 74) C dX7_scrapes_32 hc2 (by decide) (by decide) rfl (by decide) ?_
            refine y_aload_n C dX7_scrapes_74 (lv_at hl 0 rfl) ?_
            refine g6 C hw (kr_31 (i := zm v1) hg29) 5 (by decide) wd_200 rfl dX7_scrapes_75 ?_
            refine y_if_eq (tgt := 88) C (a' := zm (x15.2 (27 + 4 * zm v1) 5)) rfl dX7_scrapes_78 (by decide) (fun hc => ?_) (fun hc => ?_)
            · rw [if_pos hc] at h
              refine y_iconst C dX7_scrapes_88 ?_
              exact y_iret C hw h dX7_scrapes_89
            · rw [if_neg hc] at h
              refine y_aload_n C dX7_scrapes_81 (lv_at hl 0 rfl) ?_
              refine g6 C hw (kr_31 (i := zm v1) hg29) 6 (by decide) wd_202 rfl dX7_scrapes_82 ?_
              refine y_goto (tgt := 89) C dX7_scrapes_85 (by decide) ?_
              exact y_iret C hw h dX7_scrapes_89
          · rw [if_neg hc2] at h
            by_cases hc3 : zm v2 = 3
            · rw [if_pos hc3] at h
              refine y_tabIn (tgt := 90) C dX7_scrapes_32 hc3 (by decide) (by decide) rfl (by decide) ?_
              refine y_aload_n C dX7_scrapes_90 (lv_at hl 0 rfl) ?_
              refine g6 C hw (kr_31 (i := zm v1) hg29) 5 (by decide) wd_200 rfl dX7_scrapes_91 ?_
              refine y_if_eq (tgt := 104) C (a' := zm (x15.2 (27 + 4 * zm v1) 5)) rfl dX7_scrapes_94 (by decide) (fun hc => ?_) (fun hc => ?_)
              · rw [if_pos hc] at h
                refine y_iconst C dX7_scrapes_104 ?_
                exact y_iret C hw h dX7_scrapes_105
              · rw [if_neg hc] at h
                refine y_aload_n C dX7_scrapes_97 (lv_at hl 0 rfl) ?_
                refine g6 C hw (kr_31 (i := zm v1) hg29) 7 (by decide) wd_205 rfl dX7_scrapes_98 ?_
                refine y_goto (tgt := 105) C dX7_scrapes_101 (by decide) ?_
                exact y_iret C hw h dX7_scrapes_105
            · rw [if_neg hc3] at h
              refine y_tabOut (tgt := 106) C dX7_scrapes_32 (by omega) (by decide) ?_
              refine y_iload_n C dX7_scrapes_106 (lv_at hl 3 rfl) ?_
              refine y_iconst C dX7_scrapes_107 ?_
              refine y_isub C dX7_scrapes_108 ?_
              refine y_bipush C dX7_scrapes_109 (by decide) ?_
              refine y_irem C (b' := 8) (by decide) (by decide) dX7_scrapes_111 ?_
              refine y_istore (lv' := [(4, .int (zI ((zm (v2 - 4)).tmod 8))), (3, .ref (ad (27 + 4 * zm v1))), (0, .ref (ad 0)), (1, .int (zI v1)), (2, .int (zI v2))]) C dX7_scrapes_112 hl (by decide) rfl (fun ls hl => ?_)
              refine y_iload C dX7_scrapes_114 (lv_at hl 0 rfl) ?_
              refine y_aload_n C dX7_scrapes_116 (lv_at hl 1 rfl) ?_
              refine g6 C hw (kr_31 (i := zm v1) hg29) 3 (by decide) wd_195 rfl dX7_scrapes_117 ?_
              refine y_icmp_lt (tgt := 125) C (a' := zm ((zm (v2 - 4)).tmod 8)) (b' := zm (x15.2 (27 + 4 * zm v1) 3)) rfl rfl dX7_scrapes_120 (by decide) (fun hc => ?_) (fun hc => ?_)
              · rw [if_pos hc] at h
                refine y_iload_n C dX7_scrapes_125 (lv_at hl 4 rfl) ?_
                refine y_bipush C dX7_scrapes_126 (by decide) ?_
                refine y_icmp_ge (tgt := 141) C (a' := zm v2) (b' := 12) rfl (by decide) dX7_scrapes_128 (by decide) (fun hc => ?_) (fun hc => ?_)
                · rw [if_pos hc] at h
                  refine y_aload_n C dX7_scrapes_141 (lv_at hl 1 rfl) ?_
                  refine g6 C hw (kr_31 (i := zm v1) hg29) 1 (by decide) wd_191 rfl dX7_scrapes_142 ?_
                  refine y_iload C dX7_scrapes_145 (lv_at hl 0 rfl) ?_
                  obtain ⟨hg147, h⟩ := gd_some h
                  refine y_iald C hw (ka6_chances (kr_31 (i := zm v1) hg29)) (i' := zm ((zm (v2 - 4)).tmod 8)) rfl hg147 dX7_scrapes_147 ?_
                  exact y_iret C hw h dX7_scrapes_148
                · rw [if_neg hc] at h
                  refine y_aload_n C dX7_scrapes_131 (lv_at hl 1 rfl) ?_
                  refine g6 C hw (kr_31 (i := zm v1) hg29) 0 (by decide) wd_189 rfl dX7_scrapes_132 ?_
                  refine y_iload C dX7_scrapes_135 (lv_at hl 0 rfl) ?_
                  obtain ⟨hg137, h⟩ := gd_some h
                  refine y_iald C hw (ka6_sums (kr_31 (i := zm v1) hg29)) (i' := zm ((zm (v2 - 4)).tmod 8)) rfl hg137 dX7_scrapes_137 ?_
                  refine y_goto (tgt := 148) C dX7_scrapes_138 (by decide) ?_
                  exact y_iret C hw h dX7_scrapes_148
              · rw [if_neg hc] at h
                refine y_iconst C dX7_scrapes_123 ?_
                exact y_iret C hw h dX7_scrapes_124
    · rw [if_neg hc] at h
      refine y_ldc C (z := (-1000000002)) wd_344 (by decide) dX7_scrapes_21 ?_
      exact y_iret C hw h dX7_scrapes_23
theorem c_X7_scrapes {l : Launch} {D : va_G} {cA : Nat → ClassId} {adK adV : Nat → Nat} {A : Nat → Prop} {ad : Int → Nat} {R : va_W} {σ : St} {res : Int × St} {v1 : Int} {v2 : Int}  (h : p_X7_scrapes v1 v2 σ = some res) : Met l yX7_scrapes (wsU yX7_scrapes cX7_scrapes 5 (some .int)) (rmU 2 43) (va_Pc [.ref (ad 0), .int (zI v1), .int (zI v2)] (Pr D cA adK adV ad kX 151 R A σ)) (QI D cA ad kX 151 R A res) 0 0 A :=
  y_met (own := RX7) (by decide) rfl _ (Nat.le_of_ble_eq_true rfl) (fun p e s m args below meth c ls C hl hw => k_X7_scrapes_0 C  hw hl h)
/-! RungHouse.planOf -/
set_option maxRecDepth 100000 in
set_option maxHeartbeats 4000000 in
theorem k_X7_planOf_0  {v1 : Int} {v2 : Int} {v3 : Int} (C : Cx cX7_planOf RX7 5 (some (.object "RungHouse$Plan")) D cA adK adV A p s m args meth c)  {σ : St} {H : Heap} {locs : List Loc} {ls : Array Slot}  (hw : At D cA ad kX 151 R A s σ H locs) (hl : lv_has ls 5 [(0, .ref (ad 0)), (1, .int (zI v1)), (2, .int (zI v2)), (3, .int (zI v3))]) (h : p_X7_planOf  v1 v2 v3 σ = some res) : W p l e (rmU 5 123) s m args below meth c H locs 0 0 (MQ below (QR D cA ad kX 151 R A res) args s 0 0 A) (F0 m 0 ls []) := by
  have h := h
  unfold p_X7_planOf at h
  refine y_aload_n C dX7_planOf_0 (lv_at hl 0 rfl) ?_
  refine g7 C hw kx_0 4 (by decide) wd_298 rfl dX7_planOf_1 ?_
  refine y_iload_n C dX7_planOf_4 (lv_at hl 1 rfl) ?_
  refine y_iconst C dX7_planOf_5 ?_
  refine y_imul C dX7_planOf_6 ?_
  refine y_iload_n C dX7_planOf_7 (lv_at hl 2 rfl) ?_
  refine y_iadd C dX7_planOf_8 ?_
  obtain ⟨hg9, h⟩ := gd_some h
  refine y_aald C hw kx_6 (by decide) rfl rfl (i' := zm ((v1 * 2) + v2)) rfl hg9 dX7_planOf_9 ?_
  refine y_astore (lv' := [(4, .ref (ad (43 + 8 * zm ((v1 * 2) + v2)))), (0, .ref (ad 0)), (1, .int (zI v1)), (2, .int (zI v2)), (3, .int (zI v3))]) C dX7_planOf_10 hl (by decide) rfl (fun ls hl => ?_)
  refine y_aload C dX7_planOf_12 (lv_at hl 0 rfl) ?_
  refine y_iload_n C dX7_planOf_14 (lv_at hl 4 rfl) ?_
  obtain ⟨x15, hc15, h⟩ := bd_some h
  refine y_cv (rest := []) hw (y_rV C hw (kr_33 (i := zm ((v1 * 2) + v2)) hg9) (by decide) rfl rfl (c_X3_know (kr_33 (i := zm ((v1 * 2) + v2)) hg9) hc15) mi_X3_know wd_592 wd_593 wd_594 rfl ⟨by decide, by decide⟩ hl rfl (Nat.le_of_ble_eq_true rfl) dX7_planOf_15) (fun H locs hw => ?_)
  refine y_aload C dX7_planOf_18 (lv_at hl 0 rfl) ?_
  exact y_aret C hw h dX7_planOf_20
theorem c_X7_planOf {l : Launch} {D : va_G} {cA : Nat → ClassId} {adK adV : Nat → Nat} {A : Nat → Prop} {ad : Int → Nat} {R : va_W} {σ : St} {res : Int × St} {v1 : Int} {v2 : Int} {v3 : Int}  (h : p_X7_planOf v1 v2 v3 σ = some res) : Met l yX7_planOf (wsU yX7_planOf cX7_planOf 5 (some (.object "RungHouse$Plan"))) (rmU 5 123) (va_Pc [.ref (ad 0), .int (zI v1), .int (zI v2), .int (zI v3)] (Pr D cA adK adV ad kX 151 R A σ)) (QR D cA ad kX 151 R A res) 0 0 A :=
  y_met (own := RX7) (by decide) rfl _ (Nat.le_of_ble_eq_true rfl) (fun p e s m args below meth c ls C hl hw => k_X7_planOf_0 C  hw hl h)
/-! RungHouse.cost -/
set_option maxRecDepth 100000 in
set_option maxHeartbeats 4000000 in
theorem k_X7_cost_0  {v1 : Int} {v2 : Int} {v3 : Int} {v4 : Int} {v5 : Int} (C : Cx cX7_cost RX7 6 (some .int) D cA adK adV A p s m args meth c)  {σ : St} {H : Heap} {locs : List Loc} {ls : Array Slot}  (hw : At D cA ad kX 151 R A s σ H locs) (hl : lv_has ls 6 [(0, .ref (ad 0)), (1, .int (zI v1)), (2, .int (zI v2)), (3, .int (zI v3)), (4, .int (zI v4)), (5, .int (zI v5))]) (h : p_X7_cost  v1 v2 v3 v4 v5 σ = some res) : W p l e (rmU 6 147) s m args below meth c H locs 0 0 (MQ below (QI D cA ad kX 151 R A res) args s 0 0 A) (F0 m 0 ls []) := by
  have h := h
  unfold p_X7_cost at h
  refine y_aload_n C dX7_cost_0 (lv_at hl 0 rfl) ?_
  refine y_iload_n C dX7_cost_1 (lv_at hl 1 rfl) ?_
  obtain ⟨x2, hc2, h⟩ := bd_some h
  refine y_ci (rest := []) hw (y_rV C hw kx_0 (by decide) rfl rfl (c_X7_isSort  hc2) mi_X7_isSort wd_580 wd_582 ws_12 rfl ⟨by decide, by decide⟩ hl rfl (Nat.le_of_ble_eq_true rfl) dX7_cost_2) (fun H locs hw => ?_)
  refine y_if_eq (tgt := 18) C (a' := zm x2.1) rfl dX7_cost_5 (by decide) (fun hc => ?_) (fun hc => ?_)
  · rw [if_pos hc] at h
    refine y_ldc C (z := (-1000000001)) wd_354 (by decide) dX7_cost_18 ?_
    exact y_iret C hw h dX7_cost_20
  · rw [if_neg hc] at h
    refine y_aload_n C dX7_cost_8 (lv_at hl 0 rfl) ?_
    refine y_iload_n C dX7_cost_9 (lv_at hl 2 rfl) ?_
    refine y_iload C dX7_cost_10 (lv_at hl 5 rfl) ?_
    obtain ⟨x12, hc12, h⟩ := bd_some h
    refine y_ci (rest := []) hw (y_rV C hw kx_0 (by decide) rfl rfl (c_X7_isRung  hc12) mi_X7_isRung wd_554 wd_556 ws_11 rfl ⟨by decide, by decide⟩ hl rfl (Nat.le_of_ble_eq_true rfl) dX7_cost_12) (fun H locs hw => ?_)
    refine y_if_ne (tgt := 21) C (a' := zm x12.1) rfl dX7_cost_15 (by decide) (fun hc => ?_) (fun hc => ?_)
    · rw [if_pos hc] at h
      refine y_ldc C (z := (-1000000001)) wd_354 (by decide) dX7_cost_18 ?_
      exact y_iret C hw h dX7_cost_20
    · rw [if_neg hc] at h
      refine y_iload_n C dX7_cost_21 (lv_at hl 3 rfl) ?_
      refine y_iconst C dX7_cost_22 ?_
      refine y_bipush C dX7_cost_23 (by decide) ?_
      obtain ⟨x25, hc25, h⟩ := bd_some h
      refine y_ci (rest := []) hw (y_rS C hw (c_X7_isOut  hc25) mi_X7_isOut wd_341 wd_342 rfl ⟨by decide, by decide⟩ hl rfl (Nat.le_of_ble_eq_true rfl) dX7_cost_25) (fun H locs hw => ?_)
      refine y_if_ne (tgt := 41) C (a' := zm x25.1) rfl dX7_cost_28 (by decide) (fun hc => ?_) (fun hc => ?_)
      · rw [if_pos hc] at h
        refine y_iload C dX7_cost_31 (lv_at hl 4 rfl) ?_
        refine y_iconst C dX7_cost_33 ?_
        refine y_iload_n C dX7_cost_34 (lv_at hl 3 rfl) ?_
        obtain ⟨x35, hc35, h⟩ := bd_some h
        refine y_ci (rest := []) hw (y_rS C hw (c_X7_isOut  hc35) mi_X7_isOut wd_341 wd_342 rfl ⟨by decide, by decide⟩ hl rfl (Nat.le_of_ble_eq_true rfl) dX7_cost_35) (fun H locs hw => ?_)
        refine y_if_eq (tgt := 44) C (a' := zm x35.1) rfl dX7_cost_38 (by decide) (fun hc => ?_) (fun hc => ?_)
        · rw [if_pos hc] at h
          refine y_aload_n C dX7_cost_44 (lv_at hl 0 rfl) ?_
          refine y_iload_n C dX7_cost_45 (lv_at hl 1 rfl) ?_
          refine y_iload_n C dX7_cost_46 (lv_at hl 2 rfl) ?_
          refine y_iload_n C dX7_cost_47 (lv_at hl 3 rfl) ?_
          obtain ⟨x48, hc48, h⟩ := bd_some h
          refine y_cr (rest := []) hw (y_rV C hw kx_0 (by decide) rfl rfl (c_X7_planOf  hc48) mi_X7_planOf wd_588 wd_590 ws_13 rfl ⟨by decide, by decide⟩ hl rfl (Nat.le_of_ble_eq_true rfl) dX7_cost_48) (fun H locs hw => ?_)
          obtain ⟨hg48, h⟩ := gd_some h
          refine y_iload_n C dX7_cost_51 (lv_at hl 3 rfl) ?_
          refine y_iload C dX7_cost_52 (lv_at hl 4 rfl) ?_
          refine y_isub C dX7_cost_54 ?_
          refine y_iload C dX7_cost_55 (lv_at hl 5 rfl) ?_
          obtain ⟨x57, hc57, h⟩ := bd_some h
          refine y_ci (rest := []) hw (y_rV C hw hg48 (by decide) rfl rfl (c_X3_costWith hg48 hc57) mi_X3_costWith wd_634 wd_635 wd_636 rfl ⟨by decide, by decide⟩ hl rfl (Nat.le_of_ble_eq_true rfl) dX7_cost_57) (fun H locs hw => ?_)
          exact y_iret C hw h dX7_cost_60
        · rw [if_neg hc] at h
          refine y_ldc C (z := (-1000000002)) wd_344 (by decide) dX7_cost_41 ?_
          exact y_iret C hw h dX7_cost_43
      · rw [if_neg hc] at h
        refine y_ldc C (z := (-1000000002)) wd_344 (by decide) dX7_cost_41 ?_
        exact y_iret C hw h dX7_cost_43
theorem c_X7_cost {l : Launch} {D : va_G} {cA : Nat → ClassId} {adK adV : Nat → Nat} {A : Nat → Prop} {ad : Int → Nat} {R : va_W} {σ : St} {res : Int × St} {v1 : Int} {v2 : Int} {v3 : Int} {v4 : Int} {v5 : Int}  (h : p_X7_cost v1 v2 v3 v4 v5 σ = some res) : Met l yX7_cost (wsU yX7_cost cX7_cost 6 (some .int)) (rmU 6 147) (va_Pc [.ref (ad 0), .int (zI v1), .int (zI v2), .int (zI v3), .int (zI v4), .int (zI v5)] (Pr D cA adK adV ad kX 151 R A σ)) (QI D cA ad kX 151 R A res) 0 0 A :=
  y_met (own := RX7) (by decide) rfl _ (Nat.le_of_ble_eq_true rfl) (fun p e s m args below meth c ls C hl hw => k_X7_cost_0 C  hw hl h)
/-! RungHouse.isNoYear -/
set_option maxRecDepth 100000 in
set_option maxHeartbeats 4000000 in
theorem k_X7_isNoYear_21   (C : Cx cX7_isNoYear RX7 2 (some .boolean) D cA adK adV A p s m args meth c)  {σ : St} {H : Heap} {locs : List Loc} {ls : Array Slot}  (hw : At D cA ad kX 151 R A s σ H locs) (hl : lv_has ls 2 []) (h : p_X7_isNoYear_21   σ = some res) : W p l e (rmU 1 22) s m args below meth c H locs 0 0 (MQ below (QI D cA ad kX 151 R A res) args s 0 0 A) (F0 m 21 ls []) := by
  have h := h
  unfold p_X7_isNoYear_21 at h
  refine y_iconst C dX7_isNoYear_21 ?_
  refine y_goto (tgt := 26) C dX7_isNoYear_22 (by decide) ?_
  exact y_zret C hw (by decide) h dX7_isNoYear_26
set_option maxRecDepth 100000 in
set_option maxHeartbeats 4000000 in
theorem k_X7_isNoYear_0  {v0 : Int} {v1 : Int} (C : Cx cX7_isNoYear RX7 2 (some .boolean) D cA adK adV A p s m args meth c)  {σ : St} {H : Heap} {locs : List Loc} {ls : Array Slot}  (hw : At D cA ad kX 151 R A s σ H locs) (hl : lv_has ls 2 [(0, .int (zI v0)), (1, .int (zI v1))]) (h : p_X7_isNoYear  v0 v1 σ = some res) : W p l e (rmU 1 22) s m args below meth c H locs 0 0 (MQ below (QI D cA ad kX 151 R A res) args s 0 0 A) (F0 m 0 ls []) := by
  have h := h
  unfold p_X7_isNoYear at h
  refine y_iload_n C dX7_isNoYear_0 (lv_at hl 0 rfl) ?_
  refine y_iconst C dX7_isNoYear_1 ?_
  refine y_bipush C dX7_isNoYear_2 (by decide) ?_
  obtain ⟨x4, hc4, h⟩ := bd_some h
  refine y_ci (rest := []) hw (y_rS C hw (c_X7_isOut  hc4) mi_X7_isOut wd_341 wd_342 rfl ⟨by decide, by decide⟩ hl rfl (Nat.le_of_ble_eq_true rfl) dX7_isNoYear_4) (fun H locs hw => ?_)
  refine y_if_ne (tgt := 21) C (a' := zm x4.1) rfl dX7_isNoYear_7 (by decide) (fun hc => ?_) (fun hc => ?_)
  · rw [if_pos hc] at h
    refine y_iload_n C dX7_isNoYear_10 (lv_at hl 1 rfl) ?_
    refine y_iconst C dX7_isNoYear_11 ?_
    refine y_iload_n C dX7_isNoYear_12 (lv_at hl 0 rfl) ?_
    refine y_iconst C dX7_isNoYear_13 ?_
    refine y_isub C dX7_isNoYear_14 ?_
    obtain ⟨x15, hc15, h⟩ := bd_some h
    refine y_ci (rest := []) hw (y_rS C hw (c_X7_isOut  hc15) mi_X7_isOut wd_341 wd_342 rfl ⟨by decide, by decide⟩ hl rfl (Nat.le_of_ble_eq_true rfl) dX7_isNoYear_15) (fun H locs hw => ?_)
    refine y_if_eq (tgt := 25) C (a' := zm x15.1) rfl dX7_isNoYear_18 (by decide) (fun hc => ?_) (fun hc => ?_)
    · rw [if_pos hc] at h
      refine y_iconst C dX7_isNoYear_25 ?_
      exact y_zret C hw (by decide) h dX7_isNoYear_26
    · rw [if_neg hc] at h
      exact k_X7_isNoYear_21 C   hw (lv_sub hl [] rfl) h
  · rw [if_neg hc] at h
    exact k_X7_isNoYear_21 C   hw (lv_sub hl [] rfl) h
theorem c_X7_isNoYear {l : Launch} {D : va_G} {cA : Nat → ClassId} {adK adV : Nat → Nat} {A : Nat → Prop} {ad : Int → Nat} {R : va_W} {σ : St} {res : Int × St} {v0 : Int} {v1 : Int}  (h : p_X7_isNoYear v0 v1 σ = some res) : Met l yX7_isNoYear (wsU yX7_isNoYear cX7_isNoYear 2 (some .boolean)) (rmU 1 22) (va_Pc [.int (zI v0), .int (zI v1)] (Pr D cA adK adV ad kX 151 R A σ)) (QI D cA ad kX 151 R A res) 0 0 A :=
  y_met (own := RX7) (by decide) rfl _ (Nat.le_of_ble_eq_true rfl) (fun p e s m args below meth c ls C hl hw => k_X7_isNoYear_0 C  hw hl h)
/-! RungHouse.in -/
set_option maxRecDepth 100000 in
set_option maxHeartbeats 4000000 in
theorem k_X7_in_0  {v1 : Int} {v2 : Int} {v3 : Int} {v4 : Int} {v5 : Int} {v6 : Int} {v7 : Int} {v8 : Int} (C : Cx cX7_in RX7 10 (some .int) D cA adK adV A p s m args meth c)  {σ : St} {H : Heap} {locs : List Loc} {ls : Array Slot}  (hw : At D cA ad kX 151 R A s σ H locs) (hl : lv_has ls 10 [(0, .ref (ad 0)), (1, .int (zI v1)), (2, .int (zI v2)), (3, .int (zI v3)), (4, .int (zI v4)), (5, .int (zI v5)), (6, .int (zI v6)), (7, .int (zI v7)), (8, .int (zI v8))]) (h : p_X7_in  v1 v2 v3 v4 v5 v6 v7 v8 σ = some res) : W p l e (rmU 6 147) s m args below meth c H locs 0 0 (MQ below (QI D cA ad kX 151 R A res) args s 0 0 A) (F0 m 0 ls []) := by
  have h := h
  unfold p_X7_in at h
  refine y_aload_n C dX7_in_0 (lv_at hl 0 rfl) ?_
  refine y_iload_n C dX7_in_1 (lv_at hl 1 rfl) ?_
  obtain ⟨x2, hc2, h⟩ := bd_some h
  refine y_ci (rest := []) hw (y_rV C hw kx_0 (by decide) rfl rfl (c_X7_isSort  hc2) mi_X7_isSort wd_580 wd_582 ws_12 rfl ⟨by decide, by decide⟩ hl rfl (Nat.le_of_ble_eq_true rfl) dX7_in_2) (fun H locs hw => ?_)
  refine y_if_eq (tgt := 18) C (a' := zm x2.1) rfl dX7_in_5 (by decide) (fun hc => ?_) (fun hc => ?_)
  · rw [if_pos hc] at h
    refine y_ldc C (z := (-1000000001)) wd_354 (by decide) dX7_in_18 ?_
    exact y_iret C hw h dX7_in_20
  · rw [if_neg hc] at h
    refine y_aload_n C dX7_in_8 (lv_at hl 0 rfl) ?_
    refine y_iload_n C dX7_in_9 (lv_at hl 2 rfl) ?_
    refine y_iload C dX7_in_10 (lv_at hl 5 rfl) ?_
    obtain ⟨x12, hc12, h⟩ := bd_some h
    refine y_ci (rest := []) hw (y_rV C hw kx_0 (by decide) rfl rfl (c_X7_isRung  hc12) mi_X7_isRung wd_554 wd_556 ws_11 rfl ⟨by decide, by decide⟩ hl rfl (Nat.le_of_ble_eq_true rfl) dX7_in_12) (fun H locs hw => ?_)
    refine y_if_ne (tgt := 21) C (a' := zm x12.1) rfl dX7_in_15 (by decide) (fun hc => ?_) (fun hc => ?_)
    · rw [if_pos hc] at h
      refine y_ldc C (z := (-1000000001)) wd_354 (by decide) dX7_in_18 ?_
      exact y_iret C hw h dX7_in_20
    · rw [if_neg hc] at h
      refine y_iload_n C dX7_in_21 (lv_at hl 3 rfl) ?_
      refine y_iload C dX7_in_22 (lv_at hl 4 rfl) ?_
      obtain ⟨x24, hc24, h⟩ := bd_some h
      refine y_ci (rest := []) hw (y_rS C hw (c_X7_isNoYear  hc24) mi_X7_isNoYear wd_642 wd_643 rfl ⟨by decide, by decide⟩ hl rfl (Nat.le_of_ble_eq_true rfl) dX7_in_24) (fun H locs hw => ?_)
      refine y_if_ne (tgt := 51) C (a' := zm x24.1) rfl dX7_in_27 (by decide) (fun hc => ?_) (fun hc => ?_)
      · rw [if_pos hc] at h
        refine y_iload C dX7_in_30 (lv_at hl 6 rfl) ?_
        refine y_iconst C dX7_in_32 ?_
        refine y_bipush C dX7_in_33 (by decide) ?_
        obtain ⟨x35, hc35, h⟩ := bd_some h
        refine y_ci (rest := []) hw (y_rS C hw (c_X7_isOut  hc35) mi_X7_isOut wd_341 wd_342 rfl ⟨by decide, by decide⟩ hl rfl (Nat.le_of_ble_eq_true rfl) dX7_in_35) (fun H locs hw => ?_)
        refine y_if_ne (tgt := 51) C (a' := zm x35.1) rfl dX7_in_38 (by decide) (fun hc => ?_) (fun hc => ?_)
        · rw [if_pos hc] at h
          refine y_iload C dX7_in_41 (lv_at hl 7 rfl) ?_
          refine y_iconst C dX7_in_43 ?_
          refine y_iconst C dX7_in_44 ?_
          obtain ⟨x45, hc45, h⟩ := bd_some h
          refine y_ci (rest := []) hw (y_rS C hw (c_X7_isOut  hc45) mi_X7_isOut wd_341 wd_342 rfl ⟨by decide, by decide⟩ hl rfl (Nat.le_of_ble_eq_true rfl) dX7_in_45) (fun H locs hw => ?_)
          refine y_if_eq (tgt := 54) C (a' := zm x45.1) rfl dX7_in_48 (by decide) (fun hc => ?_) (fun hc => ?_)
          · rw [if_pos hc] at h
            refine y_aload_n C dX7_in_54 (lv_at hl 0 rfl) ?_
            refine y_iload_n C dX7_in_55 (lv_at hl 1 rfl) ?_
            refine y_iload_n C dX7_in_56 (lv_at hl 2 rfl) ?_
            refine y_iload_n C dX7_in_57 (lv_at hl 3 rfl) ?_
            obtain ⟨x58, hc58, h⟩ := bd_some h
            refine y_cr (rest := []) hw (y_rV C hw kx_0 (by decide) rfl rfl (c_X7_planOf  hc58) mi_X7_planOf wd_588 wd_590 ws_13 rfl ⟨by decide, by decide⟩ hl rfl (Nat.le_of_ble_eq_true rfl) dX7_in_58) (fun H locs hw => ?_)
            obtain ⟨hg58, h⟩ := gd_some h
            refine y_astore (lv' := [(9, .ref (ad x58.1)), (0, .ref (ad 0)), (1, .int (zI v1)), (2, .int (zI v2)), (3, .int (zI v3)), (4, .int (zI v4)), (5, .int (zI v5)), (6, .int (zI v6)), (7, .int (zI v7)), (8, .int (zI v8))]) C dX7_in_61 hl (by decide) rfl (fun ls hl => ?_)
            refine y_aload C dX7_in_63 (lv_at hl 0 rfl) ?_
            refine y_iload_n C dX7_in_65 (lv_at hl 4 rfl) ?_
            refine y_iload C dX7_in_66 (lv_at hl 5 rfl) ?_
            refine y_isub C dX7_in_68 ?_
            refine y_iload C dX7_in_69 (lv_at hl 6 rfl) ?_
            refine y_iload C dX7_in_71 (lv_at hl 9 rfl) ?_
            obtain ⟨x73, hc73, h⟩ := bd_some h
            refine y_cv (rest := []) hw (y_rV C hw hg58 (by decide) rfl rfl (c_X3_openYear hg58 hc73) mi_X3_openYear wd_645 wd_601 wd_602 rfl ⟨by decide, by decide⟩ hl rfl (Nat.le_of_ble_eq_true rfl) dX7_in_73) (fun H locs hw => ?_)
            refine y_aload C dX7_in_76 (lv_at hl 0 rfl) ?_
            refine y_iload C dX7_in_78 (lv_at hl 7 rfl) ?_
            refine y_iload C dX7_in_80 (lv_at hl 8 rfl) ?_
            obtain ⟨x82, hc82, h⟩ := bd_some h
            refine y_ci (rest := []) hw (y_rV C hw hg58 (by decide) rfl rfl (c_X3_inside hg58 hc82) mi_X3_inside wd_646 wd_630 wd_631 rfl ⟨by decide, by decide⟩ hl rfl (Nat.le_of_ble_eq_true rfl) dX7_in_82) (fun H locs hw => ?_)
            exact y_iret C hw h dX7_in_85
          · rw [if_neg hc] at h
            refine y_ldc C (z := (-1000000002)) wd_344 (by decide) dX7_in_51 ?_
            exact y_iret C hw h dX7_in_53
        · rw [if_neg hc] at h
          refine y_ldc C (z := (-1000000002)) wd_344 (by decide) dX7_in_51 ?_
          exact y_iret C hw h dX7_in_53
      · rw [if_neg hc] at h
        refine y_ldc C (z := (-1000000002)) wd_344 (by decide) dX7_in_51 ?_
        exact y_iret C hw h dX7_in_53
theorem c_X7_in {l : Launch} {D : va_G} {cA : Nat → ClassId} {adK adV : Nat → Nat} {A : Nat → Prop} {ad : Int → Nat} {R : va_W} {σ : St} {res : Int × St} {v1 : Int} {v2 : Int} {v3 : Int} {v4 : Int} {v5 : Int} {v6 : Int} {v7 : Int} {v8 : Int}  (h : p_X7_in v1 v2 v3 v4 v5 v6 v7 v8 σ = some res) : Met l yX7_in (wsU yX7_in cX7_in 10 (some .int)) (rmU 6 147) (va_Pc [.ref (ad 0), .int (zI v1), .int (zI v2), .int (zI v3), .int (zI v4), .int (zI v5), .int (zI v6), .int (zI v7), .int (zI v8)] (Pr D cA adK adV ad kX 151 R A σ)) (QI D cA ad kX 151 R A res) 0 0 A :=
  y_met (own := RX7) (by decide) rfl _ (Nat.le_of_ble_eq_true rfl) (fun p e s m args below meth c ls C hl hw => k_X7_in_0 C  hw hl h)
/-! RungHouse.takes -/
set_option maxRecDepth 100000 in
set_option maxHeartbeats 4000000 in
theorem k_X7_takes_0  {v1 : Int} {v2 : Int} {v3 : Int} {v4 : Int} {v5 : Int} (C : Cx cX7_takes RX7 6 (some .int) D cA adK adV A p s m args meth c)  {σ : St} {H : Heap} {locs : List Loc} {ls : Array Slot}  (hw : At D cA ad kX 151 R A s σ H locs) (hl : lv_has ls 6 [(0, .ref (ad 0)), (1, .int (zI v1)), (2, .int (zI v2)), (3, .int (zI v3)), (4, .int (zI v4)), (5, .int (zI v5))]) (h : p_X7_takes  v1 v2 v3 v4 v5 σ = some res) : W p l e (rmU 6 147) s m args below meth c H locs 0 0 (MQ below (QI D cA ad kX 151 R A res) args s 0 0 A) (F0 m 0 ls []) := by
  have h := h
  unfold p_X7_takes at h
  refine y_aload_n C dX7_takes_0 (lv_at hl 0 rfl) ?_
  refine y_iload_n C dX7_takes_1 (lv_at hl 1 rfl) ?_
  obtain ⟨x2, hc2, h⟩ := bd_some h
  refine y_ci (rest := []) hw (y_rV C hw kx_0 (by decide) rfl rfl (c_X7_isSort  hc2) mi_X7_isSort wd_580 wd_582 ws_12 rfl ⟨by decide, by decide⟩ hl rfl (Nat.le_of_ble_eq_true rfl) dX7_takes_2) (fun H locs hw => ?_)
  refine y_if_eq (tgt := 18) C (a' := zm x2.1) rfl dX7_takes_5 (by decide) (fun hc => ?_) (fun hc => ?_)
  · rw [if_pos hc] at h
    refine y_ldc C (z := (-1000000001)) wd_354 (by decide) dX7_takes_18 ?_
    exact y_iret C hw h dX7_takes_20
  · rw [if_neg hc] at h
    refine y_aload_n C dX7_takes_8 (lv_at hl 0 rfl) ?_
    refine y_iload_n C dX7_takes_9 (lv_at hl 2 rfl) ?_
    refine y_iload C dX7_takes_10 (lv_at hl 5 rfl) ?_
    obtain ⟨x12, hc12, h⟩ := bd_some h
    refine y_ci (rest := []) hw (y_rV C hw kx_0 (by decide) rfl rfl (c_X7_isRung  hc12) mi_X7_isRung wd_554 wd_556 ws_11 rfl ⟨by decide, by decide⟩ hl rfl (Nat.le_of_ble_eq_true rfl) dX7_takes_12) (fun H locs hw => ?_)
    refine y_if_ne (tgt := 21) C (a' := zm x12.1) rfl dX7_takes_15 (by decide) (fun hc => ?_) (fun hc => ?_)
    · rw [if_pos hc] at h
      refine y_ldc C (z := (-1000000001)) wd_354 (by decide) dX7_takes_18 ?_
      exact y_iret C hw h dX7_takes_20
    · rw [if_neg hc] at h
      refine y_iload_n C dX7_takes_21 (lv_at hl 3 rfl) ?_
      refine y_iload C dX7_takes_22 (lv_at hl 4 rfl) ?_
      obtain ⟨x24, hc24, h⟩ := bd_some h
      refine y_ci (rest := []) hw (y_rS C hw (c_X7_isNoYear  hc24) mi_X7_isNoYear wd_642 wd_643 rfl ⟨by decide, by decide⟩ hl rfl (Nat.le_of_ble_eq_true rfl) dX7_takes_24) (fun H locs hw => ?_)
      refine y_if_eq (tgt := 33) C (a' := zm x24.1) rfl dX7_takes_27 (by decide) (fun hc => ?_) (fun hc => ?_)
      · rw [if_pos hc] at h
        refine y_aload_n C dX7_takes_33 (lv_at hl 0 rfl) ?_
        refine y_iload_n C dX7_takes_34 (lv_at hl 1 rfl) ?_
        refine y_iload_n C dX7_takes_35 (lv_at hl 2 rfl) ?_
        refine y_iload_n C dX7_takes_36 (lv_at hl 3 rfl) ?_
        obtain ⟨x37, hc37, h⟩ := bd_some h
        refine y_cr (rest := []) hw (y_rV C hw kx_0 (by decide) rfl rfl (c_X7_planOf  hc37) mi_X7_planOf wd_588 wd_590 ws_13 rfl ⟨by decide, by decide⟩ hl rfl (Nat.le_of_ble_eq_true rfl) dX7_takes_37) (fun H locs hw => ?_)
        obtain ⟨hg37, h⟩ := gd_some h
        refine y_iload_n C dX7_takes_40 (lv_at hl 3 rfl) ?_
        refine y_iload C dX7_takes_41 (lv_at hl 4 rfl) ?_
        refine y_isub C dX7_takes_43 ?_
        refine y_iload C dX7_takes_44 (lv_at hl 5 rfl) ?_
        obtain ⟨x46, hc46, h⟩ := bd_some h
        refine y_ci (rest := []) hw (y_rV C hw hg37 (by decide) rfl rfl (c_X3_isPained hg37 hc46) mi_X3_isPained wd_651 wd_652 wd_653 rfl ⟨by decide, by decide⟩ hl rfl (Nat.le_of_ble_eq_true rfl) dX7_takes_46) (fun H locs hw => ?_)
        refine y_if_eq (tgt := 56) C (a' := zm x46.1) rfl dX7_takes_49 (by decide) (fun hc => ?_) (fun hc => ?_)
        · rw [if_pos hc] at h
          refine y_iconst C dX7_takes_56 ?_
          exact y_iret C hw h dX7_takes_57
        · rw [if_neg hc] at h
          refine y_iconst C dX7_takes_52 ?_
          refine y_goto (tgt := 57) C dX7_takes_53 (by decide) ?_
          exact y_iret C hw h dX7_takes_57
      · rw [if_neg hc] at h
        refine y_ldc C (z := (-1000000002)) wd_344 (by decide) dX7_takes_30 ?_
        exact y_iret C hw h dX7_takes_32
theorem c_X7_takes {l : Launch} {D : va_G} {cA : Nat → ClassId} {adK adV : Nat → Nat} {A : Nat → Prop} {ad : Int → Nat} {R : va_W} {σ : St} {res : Int × St} {v1 : Int} {v2 : Int} {v3 : Int} {v4 : Int} {v5 : Int}  (h : p_X7_takes v1 v2 v3 v4 v5 σ = some res) : Met l yX7_takes (wsU yX7_takes cX7_takes 6 (some .int)) (rmU 6 147) (va_Pc [.ref (ad 0), .int (zI v1), .int (zI v2), .int (zI v3), .int (zI v4), .int (zI v5)] (Pr D cA adK adV ad kX 151 R A σ)) (QI D cA ad kX 151 R A res) 0 0 A :=
  y_met (own := RX7) (by decide) rfl _ (Nat.le_of_ble_eq_true rfl) (fun p e s m args below meth c ls C hl hw => k_X7_takes_0 C  hw hl h)
/-! RungHouse.bar -/
set_option maxRecDepth 100000 in
set_option maxHeartbeats 4000000 in
theorem k_X7_bar_0  {v1 : Int} {v2 : Int} {v3 : Int} {v4 : Int} {v5 : Int} {v6 : Int} {v7 : Int} {v8 : Int} (C : Cx cX7_bar RX7 10 (some .int) D cA adK adV A p s m args meth c)  {σ : St} {H : Heap} {locs : List Loc} {ls : Array Slot}  (hw : At D cA ad kX 151 R A s σ H locs) (hl : lv_has ls 10 [(0, .ref (ad 0)), (1, .int (zI v1)), (2, .int (zI v2)), (3, .int (zI v3)), (4, .int (zI v4)), (5, .int (zI v5)), (6, .int (zI v6)), (7, .int (zI v7)), (8, .int (zI v8))]) (h : p_X7_bar  v1 v2 v3 v4 v5 v6 v7 v8 σ = some res) : W p l e (rmU 6 147) s m args below meth c H locs 0 0 (MQ below (QI D cA ad kX 151 R A res) args s 0 0 A) (F0 m 0 ls []) := by
  have h := h
  unfold p_X7_bar at h
  refine y_aload_n C dX7_bar_0 (lv_at hl 0 rfl) ?_
  refine y_iload_n C dX7_bar_1 (lv_at hl 1 rfl) ?_
  obtain ⟨x2, hc2, h⟩ := bd_some h
  refine y_ci (rest := []) hw (y_rV C hw kx_0 (by decide) rfl rfl (c_X7_isSort  hc2) mi_X7_isSort wd_580 wd_582 ws_12 rfl ⟨by decide, by decide⟩ hl rfl (Nat.le_of_ble_eq_true rfl) dX7_bar_2) (fun H locs hw => ?_)
  refine y_if_eq (tgt := 18) C (a' := zm x2.1) rfl dX7_bar_5 (by decide) (fun hc => ?_) (fun hc => ?_)
  · rw [if_pos hc] at h
    refine y_ldc C (z := (-1000000001)) wd_354 (by decide) dX7_bar_18 ?_
    exact y_iret C hw h dX7_bar_20
  · rw [if_neg hc] at h
    refine y_aload_n C dX7_bar_8 (lv_at hl 0 rfl) ?_
    refine y_iload_n C dX7_bar_9 (lv_at hl 2 rfl) ?_
    refine y_iload C dX7_bar_10 (lv_at hl 5 rfl) ?_
    obtain ⟨x12, hc12, h⟩ := bd_some h
    refine y_ci (rest := []) hw (y_rV C hw kx_0 (by decide) rfl rfl (c_X7_isRung  hc12) mi_X7_isRung wd_554 wd_556 ws_11 rfl ⟨by decide, by decide⟩ hl rfl (Nat.le_of_ble_eq_true rfl) dX7_bar_12) (fun H locs hw => ?_)
    refine y_if_ne (tgt := 21) C (a' := zm x12.1) rfl dX7_bar_15 (by decide) (fun hc => ?_) (fun hc => ?_)
    · rw [if_pos hc] at h
      refine y_ldc C (z := (-1000000001)) wd_354 (by decide) dX7_bar_18 ?_
      exact y_iret C hw h dX7_bar_20
    · rw [if_neg hc] at h
      refine y_iload_n C dX7_bar_21 (lv_at hl 3 rfl) ?_
      refine y_iload C dX7_bar_22 (lv_at hl 4 rfl) ?_
      obtain ⟨x24, hc24, h⟩ := bd_some h
      refine y_ci (rest := []) hw (y_rS C hw (c_X7_isNoYear  hc24) mi_X7_isNoYear wd_642 wd_643 rfl ⟨by decide, by decide⟩ hl rfl (Nat.le_of_ble_eq_true rfl) dX7_bar_24) (fun H locs hw => ?_)
      refine y_if_ne (tgt := 51) C (a' := zm x24.1) rfl dX7_bar_27 (by decide) (fun hc => ?_) (fun hc => ?_)
      · rw [if_pos hc] at h
        refine y_iload C dX7_bar_30 (lv_at hl 6 rfl) ?_
        refine y_iconst C dX7_bar_32 ?_
        refine y_bipush C dX7_bar_33 (by decide) ?_
        obtain ⟨x35, hc35, h⟩ := bd_some h
        refine y_ci (rest := []) hw (y_rS C hw (c_X7_isOut  hc35) mi_X7_isOut wd_341 wd_342 rfl ⟨by decide, by decide⟩ hl rfl (Nat.le_of_ble_eq_true rfl) dX7_bar_35) (fun H locs hw => ?_)
        refine y_if_ne (tgt := 51) C (a' := zm x35.1) rfl dX7_bar_38 (by decide) (fun hc => ?_) (fun hc => ?_)
        · rw [if_pos hc] at h
          refine y_iload C dX7_bar_41 (lv_at hl 7 rfl) ?_
          refine y_iconst C dX7_bar_43 ?_
          refine y_iconst C dX7_bar_44 ?_
          obtain ⟨x45, hc45, h⟩ := bd_some h
          refine y_ci (rest := []) hw (y_rS C hw (c_X7_isOut  hc45) mi_X7_isOut wd_341 wd_342 rfl ⟨by decide, by decide⟩ hl rfl (Nat.le_of_ble_eq_true rfl) dX7_bar_45) (fun H locs hw => ?_)
          refine y_if_eq (tgt := 54) C (a' := zm x45.1) rfl dX7_bar_48 (by decide) (fun hc => ?_) (fun hc => ?_)
          · rw [if_pos hc] at h
            refine y_aload_n C dX7_bar_54 (lv_at hl 0 rfl) ?_
            refine y_iload_n C dX7_bar_55 (lv_at hl 1 rfl) ?_
            refine y_iload_n C dX7_bar_56 (lv_at hl 2 rfl) ?_
            refine y_iload_n C dX7_bar_57 (lv_at hl 3 rfl) ?_
            obtain ⟨x58, hc58, h⟩ := bd_some h
            refine y_cr (rest := []) hw (y_rV C hw kx_0 (by decide) rfl rfl (c_X7_planOf  hc58) mi_X7_planOf wd_588 wd_590 ws_13 rfl ⟨by decide, by decide⟩ hl rfl (Nat.le_of_ble_eq_true rfl) dX7_bar_58) (fun H locs hw => ?_)
            obtain ⟨hg58, h⟩ := gd_some h
            refine y_astore (lv' := [(9, .ref (ad x58.1)), (0, .ref (ad 0)), (1, .int (zI v1)), (2, .int (zI v2)), (3, .int (zI v3)), (4, .int (zI v4)), (5, .int (zI v5)), (6, .int (zI v6)), (7, .int (zI v7)), (8, .int (zI v8))]) C dX7_bar_61 hl (by decide) rfl (fun ls hl => ?_)
            refine y_aload C dX7_bar_63 (lv_at hl 0 rfl) ?_
            refine y_iload_n C dX7_bar_65 (lv_at hl 4 rfl) ?_
            refine y_iload C dX7_bar_66 (lv_at hl 5 rfl) ?_
            refine y_isub C dX7_bar_68 ?_
            refine y_iload C dX7_bar_69 (lv_at hl 6 rfl) ?_
            refine y_iload C dX7_bar_71 (lv_at hl 9 rfl) ?_
            obtain ⟨x73, hc73, h⟩ := bd_some h
            refine y_cv (rest := []) hw (y_rV C hw hg58 (by decide) rfl rfl (c_X3_openYear hg58 hc73) mi_X3_openYear wd_645 wd_601 wd_602 rfl ⟨by decide, by decide⟩ hl rfl (Nat.le_of_ble_eq_true rfl) dX7_bar_73) (fun H locs hw => ?_)
            refine y_aload C dX7_bar_76 (lv_at hl 0 rfl) ?_
            refine y_iload C dX7_bar_78 (lv_at hl 7 rfl) ?_
            refine y_iload C dX7_bar_80 (lv_at hl 8 rfl) ?_
            obtain ⟨x82, hc82, h⟩ := bd_some h
            refine y_ci (rest := []) hw (y_rV C hw hg58 (by decide) rfl rfl (c_X3_leastAsked hg58 hc82) mi_X3_leastAsked wd_659 wd_660 wd_661 rfl ⟨by decide, by decide⟩ hl rfl (Nat.le_of_ble_eq_true rfl) dX7_bar_82) (fun H locs hw => ?_)
            exact y_iret C hw h dX7_bar_85
          · rw [if_neg hc] at h
            refine y_ldc C (z := (-1000000002)) wd_344 (by decide) dX7_bar_51 ?_
            exact y_iret C hw h dX7_bar_53
        · rw [if_neg hc] at h
          refine y_ldc C (z := (-1000000002)) wd_344 (by decide) dX7_bar_51 ?_
          exact y_iret C hw h dX7_bar_53
      · rw [if_neg hc] at h
        refine y_ldc C (z := (-1000000002)) wd_344 (by decide) dX7_bar_51 ?_
        exact y_iret C hw h dX7_bar_53
theorem c_X7_bar {l : Launch} {D : va_G} {cA : Nat → ClassId} {adK adV : Nat → Nat} {A : Nat → Prop} {ad : Int → Nat} {R : va_W} {σ : St} {res : Int × St} {v1 : Int} {v2 : Int} {v3 : Int} {v4 : Int} {v5 : Int} {v6 : Int} {v7 : Int} {v8 : Int}  (h : p_X7_bar v1 v2 v3 v4 v5 v6 v7 v8 σ = some res) : Met l yX7_bar (wsU yX7_bar cX7_bar 10 (some .int)) (rmU 6 147) (va_Pc [.ref (ad 0), .int (zI v1), .int (zI v2), .int (zI v3), .int (zI v4), .int (zI v5), .int (zI v6), .int (zI v7), .int (zI v8)] (Pr D cA adK adV ad kX 151 R A σ)) (QI D cA ad kX 151 R A res) 0 0 A :=
  y_met (own := RX7) (by decide) rfl _ (Nat.le_of_ble_eq_true rfl) (fun p e s m args below meth c ls C hl hw => k_X7_bar_0 C  hw hl h)
/-! RungHouse.isRule -/
set_option maxRecDepth 100000 in
set_option maxHeartbeats 4000000 in
theorem k_X7_isRule_0  {v1 : Int} (C : Cx cX7_isRule RX7 2 (some .boolean) D cA adK adV A p s m args meth c)  {σ : St} {H : Heap} {locs : List Loc} {ls : Array Slot}  (hw : At D cA ad kX 151 R A s σ H locs) (hl : lv_has ls 2 [(0, .ref (ad 0)), (1, .int (zI v1))]) (h : p_X7_isRule  v1 σ = some res) : W p l e (rmU 1 22) s m args below meth c H locs 0 0 (MQ below (QI D cA ad kX 151 R A res) args s 0 0 A) (F0 m 0 ls []) := by
  have h := h
  unfold p_X7_isRule at h
  refine y_iload_n C dX7_isRule_0 (lv_at hl 1 rfl) ?_
  refine y_iconst C dX7_isRule_1 ?_
  refine y_aload_n C dX7_isRule_2 (lv_at hl 0 rfl) ?_
  refine g7 C hw kx_0 12 (by decide) wd_306 rfl dX7_isRule_3 ?_
  refine y_iconst C dX7_isRule_6 ?_
  refine y_isub C dX7_isRule_7 ?_
  obtain ⟨x8, hc8, h⟩ := bd_some h
  refine y_ci (rest := []) hw (y_rS C hw (c_X7_isOut  hc8) mi_X7_isOut wd_341 wd_342 rfl ⟨by decide, by decide⟩ hl rfl (Nat.le_of_ble_eq_true rfl) dX7_isRule_8) (fun H locs hw => ?_)
  refine y_if_ne (tgt := 18) C (a' := zm x8.1) rfl dX7_isRule_11 (by decide) (fun hc => ?_) (fun hc => ?_)
  · rw [if_pos hc] at h
    refine y_iconst C dX7_isRule_14 ?_
    refine y_goto (tgt := 19) C dX7_isRule_15 (by decide) ?_
    exact y_zret C hw (by decide) h dX7_isRule_19
  · rw [if_neg hc] at h
    refine y_iconst C dX7_isRule_18 ?_
    exact y_zret C hw (by decide) h dX7_isRule_19
theorem c_X7_isRule {l : Launch} {D : va_G} {cA : Nat → ClassId} {adK adV : Nat → Nat} {A : Nat → Prop} {ad : Int → Nat} {R : va_W} {σ : St} {res : Int × St} {v1 : Int}  (h : p_X7_isRule v1 σ = some res) : Met l yX7_isRule (wsU yX7_isRule cX7_isRule 2 (some .boolean)) (rmU 1 22) (va_Pc [.ref (ad 0), .int (zI v1)] (Pr D cA adK adV ad kX 151 R A σ)) (QI D cA ad kX 151 R A res) 0 0 A :=
  y_met (own := RX7) (by decide) rfl _ (Nat.le_of_ble_eq_true rfl) (fun p e s m args below meth c ls C hl hw => k_X7_isRule_0 C  hw hl h)
/-! RungHouse.fixed -/
set_option maxRecDepth 100000 in
set_option maxHeartbeats 4000000 in
theorem k_X7_fixed_0  {v1 : Int} {v2 : Int} {v3 : Int} {v4 : Int} {v5 : Int} {v6 : Int} (C : Cx cX7_fixed RX7 7 (some .int) D cA adK adV A p s m args meth c)  {σ : St} {H : Heap} {locs : List Loc} {ls : Array Slot}  (hw : At D cA ad kX 151 R A s σ H locs) (hl : lv_has ls 7 [(0, .ref (ad 0)), (1, .int (zI v1)), (2, .int (zI v2)), (3, .int (zI v3)), (4, .int (zI v4)), (5, .int (zI v5)), (6, .int (zI v6))]) (h : p_X7_fixed  v1 v2 v3 v4 v5 v6 σ = some res) : W p l e (rmU 5 123) s m args below meth c H locs 0 0 (MQ below (QI D cA ad kX 151 R A res) args s 0 0 A) (F0 m 0 ls []) := by
  have h := h
  unfold p_X7_fixed at h
  refine y_aload_n C dX7_fixed_0 (lv_at hl 0 rfl) ?_
  refine y_iload_n C dX7_fixed_1 (lv_at hl 1 rfl) ?_
  obtain ⟨x2, hc2, h⟩ := bd_some h
  refine y_ci (rest := []) hw (y_rV C hw kx_0 (by decide) rfl rfl (c_X7_isRule  hc2) mi_X7_isRule wd_667 wd_669 ws_18 rfl ⟨by decide, by decide⟩ hl rfl (Nat.le_of_ble_eq_true rfl) dX7_fixed_2) (fun H locs hw => ?_)
  refine y_if_eq (tgt := 26) C (a' := zm x2.1) rfl dX7_fixed_5 (by decide) (fun hc => ?_) (fun hc => ?_)
  · rw [if_pos hc] at h
    refine y_ldc C (z := (-1000000001)) wd_354 (by decide) dX7_fixed_26 ?_
    exact y_iret C hw h dX7_fixed_28
  · rw [if_neg hc] at h
    refine y_aload_n C dX7_fixed_8 (lv_at hl 0 rfl) ?_
    refine y_iload_n C dX7_fixed_9 (lv_at hl 2 rfl) ?_
    obtain ⟨x10, hc10, h⟩ := bd_some h
    refine y_ci (rest := []) hw (y_rV C hw kx_0 (by decide) rfl rfl (c_X7_isSort  hc10) mi_X7_isSort wd_580 wd_582 ws_12 rfl ⟨by decide, by decide⟩ hl rfl (Nat.le_of_ble_eq_true rfl) dX7_fixed_10) (fun H locs hw => ?_)
    refine y_if_eq (tgt := 26) C (a' := zm x10.1) rfl dX7_fixed_13 (by decide) (fun hc => ?_) (fun hc => ?_)
    · rw [if_pos hc] at h
      refine y_ldc C (z := (-1000000001)) wd_354 (by decide) dX7_fixed_26 ?_
      exact y_iret C hw h dX7_fixed_28
    · rw [if_neg hc] at h
      refine y_aload_n C dX7_fixed_16 (lv_at hl 0 rfl) ?_
      refine y_iload_n C dX7_fixed_17 (lv_at hl 3 rfl) ?_
      refine y_iload C dX7_fixed_18 (lv_at hl 6 rfl) ?_
      obtain ⟨x20, hc20, h⟩ := bd_some h
      refine y_ci (rest := []) hw (y_rV C hw kx_0 (by decide) rfl rfl (c_X7_isRung  hc20) mi_X7_isRung wd_554 wd_556 ws_11 rfl ⟨by decide, by decide⟩ hl rfl (Nat.le_of_ble_eq_true rfl) dX7_fixed_20) (fun H locs hw => ?_)
      refine y_if_ne (tgt := 29) C (a' := zm x20.1) rfl dX7_fixed_23 (by decide) (fun hc => ?_) (fun hc => ?_)
      · rw [if_pos hc] at h
        refine y_ldc C (z := (-1000000001)) wd_354 (by decide) dX7_fixed_26 ?_
        exact y_iret C hw h dX7_fixed_28
      · rw [if_neg hc] at h
        refine y_iload C dX7_fixed_29 (lv_at hl 4 rfl) ?_
        refine y_iconst C dX7_fixed_31 ?_
        refine y_bipush C dX7_fixed_32 (by decide) ?_
        obtain ⟨x34, hc34, h⟩ := bd_some h
        refine y_ci (rest := []) hw (y_rS C hw (c_X7_isOut  hc34) mi_X7_isOut wd_341 wd_342 rfl ⟨by decide, by decide⟩ hl rfl (Nat.le_of_ble_eq_true rfl) dX7_fixed_34) (fun H locs hw => ?_)
        refine y_if_ne (tgt := 51) C (a' := zm x34.1) rfl dX7_fixed_37 (by decide) (fun hc => ?_) (fun hc => ?_)
        · rw [if_pos hc] at h
          refine y_iload C dX7_fixed_40 (lv_at hl 5 rfl) ?_
          refine y_iconst C dX7_fixed_42 ?_
          refine y_iload C dX7_fixed_43 (lv_at hl 4 rfl) ?_
          obtain ⟨x45, hc45, h⟩ := bd_some h
          refine y_ci (rest := []) hw (y_rS C hw (c_X7_isOut  hc45) mi_X7_isOut wd_341 wd_342 rfl ⟨by decide, by decide⟩ hl rfl (Nat.le_of_ble_eq_true rfl) dX7_fixed_45) (fun H locs hw => ?_)
          refine y_if_eq (tgt := 54) C (a' := zm x45.1) rfl dX7_fixed_48 (by decide) (fun hc => ?_) (fun hc => ?_)
          · rw [if_pos hc] at h
            refine y_aload_n C dX7_fixed_54 (lv_at hl 0 rfl) ?_
            refine g7 C hw kx_0 6 (by decide) wd_300 rfl dX7_fixed_55 ?_
            refine y_aload_n C dX7_fixed_58 (lv_at hl 0 rfl) ?_
            refine g7 C hw kx_0 2 (by decide) wd_296 rfl dX7_fixed_59 ?_
            refine y_iload_n C dX7_fixed_62 (lv_at hl 2 rfl) ?_
            obtain ⟨hg63, h⟩ := gd_some h
            refine y_aald C hw kx_4 (by decide) rfl rfl (i' := zm v2) rfl hg63 dX7_fixed_63 ?_
            refine y_aload_n C dX7_fixed_64 (lv_at hl 0 rfl) ?_
            refine g7 C hw kx_0 1 (by decide) wd_295 rfl dX7_fixed_65 ?_
            refine y_iload_n C dX7_fixed_68 (lv_at hl 3 rfl) ?_
            obtain ⟨hg69, h⟩ := gd_some h
            refine y_aald C hw kx_3 (by decide) rfl rfl (i' := zm v3) rfl hg69 dX7_fixed_69 ?_
            refine y_aload_n C dX7_fixed_70 (lv_at hl 0 rfl) ?_
            refine g7 C hw kx_0 3 (by decide) wd_297 rfl dX7_fixed_71 ?_
            refine y_iload_n C dX7_fixed_74 (lv_at hl 1 rfl) ?_
            obtain ⟨hg75, h⟩ := gd_some h
            refine y_aald C hw kx_5 (by decide) rfl rfl (i' := zm v1) rfl hg75 dX7_fixed_75 ?_
            obtain ⟨x76, hc76, h⟩ := bd_some h
            rw [← rv_ref (ad := ad) (kX_in _ (by rw [(kr_32 (i := zm v1) hg75)]; decide)).1]
            refine y_cv (rest := []) hw (y_rV C hw kx_107 (by decide) rfl rfl (c_X3_begin kx_107 (kr_31 (i := zm v2) hg63) (kr_30 (i := zm v3) hg69) hc76) mi_X3_begin wd_671 wd_672 wd_673 rfl ⟨by decide, by decide⟩ hl rfl (Nat.le_of_ble_eq_true rfl) dX7_fixed_76) (fun H locs hw => ?_)
            refine y_aload_n C dX7_fixed_79 (lv_at hl 0 rfl) ?_
            refine g7 C hw kx_0 6 (by decide) wd_300 rfl dX7_fixed_80 ?_
            refine y_iload C dX7_fixed_83 (lv_at hl 4 rfl) ?_
            refine y_iload C dX7_fixed_85 (lv_at hl 5 rfl) ?_
            refine y_isub C dX7_fixed_87 ?_
            obtain ⟨x88, hc88, h⟩ := bd_some h
            refine y_cv (rest := []) hw (y_rV C hw kx_107 (by decide) rfl rfl (c_X3_know kx_107 hc88) mi_X3_know wd_592 wd_593 wd_594 rfl ⟨by decide, by decide⟩ hl rfl (Nat.le_of_ble_eq_true rfl) dX7_fixed_88) (fun H locs hw => ?_)
            refine y_aload_n C dX7_fixed_91 (lv_at hl 0 rfl) ?_
            refine g7 C hw kx_0 6 (by decide) wd_300 rfl dX7_fixed_92 ?_
            refine y_iload C dX7_fixed_95 (lv_at hl 4 rfl) ?_
            refine y_iload C dX7_fixed_97 (lv_at hl 5 rfl) ?_
            refine y_isub C dX7_fixed_99 ?_
            refine y_iload C dX7_fixed_100 (lv_at hl 6 rfl) ?_
            obtain ⟨x102, hc102, h⟩ := bd_some h
            refine y_ci (rest := []) hw (y_rV C hw kx_107 (by decide) rfl rfl (c_X3_costWith kx_107 hc102) mi_X3_costWith wd_634 wd_635 wd_636 rfl ⟨by decide, by decide⟩ hl rfl (Nat.le_of_ble_eq_true rfl) dX7_fixed_102) (fun H locs hw => ?_)
            exact y_iret C hw h dX7_fixed_105
          · rw [if_neg hc] at h
            refine y_ldc C (z := (-1000000002)) wd_344 (by decide) dX7_fixed_51 ?_
            exact y_iret C hw h dX7_fixed_53
        · rw [if_neg hc] at h
          refine y_ldc C (z := (-1000000002)) wd_344 (by decide) dX7_fixed_51 ?_
          exact y_iret C hw h dX7_fixed_53
theorem c_X7_fixed {l : Launch} {D : va_G} {cA : Nat → ClassId} {adK adV : Nat → Nat} {A : Nat → Prop} {ad : Int → Nat} {R : va_W} {σ : St} {res : Int × St} {v1 : Int} {v2 : Int} {v3 : Int} {v4 : Int} {v5 : Int} {v6 : Int}  (h : p_X7_fixed v1 v2 v3 v4 v5 v6 σ = some res) : Met l yX7_fixed (wsU yX7_fixed cX7_fixed 7 (some .int)) (rmU 5 123) (va_Pc [.ref (ad 0), .int (zI v1), .int (zI v2), .int (zI v3), .int (zI v4), .int (zI v5), .int (zI v6)] (Pr D cA adK adV ad kX 151 R A σ)) (QI D cA ad kX 151 R A res) 0 0 A :=
  y_met (own := RX7) (by decide) rfl _ (Nat.le_of_ble_eq_true rfl) (fun p e s m args below meth c ls C hl hw => k_X7_fixed_0 C  hw hl h)
/-! RungHouse.scrape -/
set_option maxRecDepth 100000 in
set_option maxHeartbeats 4000000 in
theorem k_X7_scrape_0  {v1 : Int} {v2 : Int} {v3 : Int} (C : Cx cX7_scrape RX7 4 (some .int) D cA adK adV A p s m args meth c)  {σ : St} {H : Heap} {locs : List Loc} {ls : Array Slot}  (hw : At D cA ad kX 151 R A s σ H locs) (hl : lv_has ls 4 [(0, .ref (ad 0)), (1, .int (zI v1)), (2, .int (zI v2)), (3, .int (zI v3))]) (h : p_X7_scrape  v1 v2 v3 σ = some res) : W p l e (rmU 1 23) s m args below meth c H locs 0 0 (MQ below (QI D cA ad kX 151 R A res) args s 0 0 A) (F0 m 0 ls []) := by
  have h := h
  unfold p_X7_scrape at h
  refine y_iload_n C dX7_scrape_0 (lv_at hl 1 rfl) ?_
  refine y_iconst C dX7_scrape_1 ?_
  refine y_bipush C dX7_scrape_2 (by decide) ?_
  obtain ⟨x4, hc4, h⟩ := bd_some h
  refine y_ci (rest := []) hw (y_rS C hw (c_X7_isOut  hc4) mi_X7_isOut wd_341 wd_342 rfl ⟨by decide, by decide⟩ hl rfl (Nat.le_of_ble_eq_true rfl) dX7_scrape_4) (fun H locs hw => ?_)
  refine y_if_ne (tgt := 21) C (a' := zm x4.1) rfl dX7_scrape_7 (by decide) (fun hc => ?_) (fun hc => ?_)
  · rw [if_pos hc] at h
    refine y_iload_n C dX7_scrape_10 (lv_at hl 2 rfl) ?_
    refine y_iconst C dX7_scrape_11 ?_
    refine y_sipush C dX7_scrape_12 (by decide) ?_
    obtain ⟨x15, hc15, h⟩ := bd_some h
    refine y_ci (rest := []) hw (y_rS C hw (c_X7_isOut  hc15) mi_X7_isOut wd_341 wd_342 rfl ⟨by decide, by decide⟩ hl rfl (Nat.le_of_ble_eq_true rfl) dX7_scrape_15) (fun H locs hw => ?_)
    refine y_if_eq (tgt := 24) C (a' := zm x15.1) rfl dX7_scrape_18 (by decide) (fun hc => ?_) (fun hc => ?_)
    · rw [if_pos hc] at h
      refine y_aload_n C dX7_scrape_24 (lv_at hl 0 rfl) ?_
      refine g7 C hw kx_0 9 (by decide) wd_303 rfl dX7_scrape_25 ?_
      refine y_iload_n C dX7_scrape_28 (lv_at hl 1 rfl) ?_
      obtain ⟨x29, hc29, h⟩ := bd_some h
      refine y_ci (rest := []) hw (y_rV C hw kx_16 (by decide) rfl rfl (c_X2_rises kx_16 hc29) mi_X2_rises wd_679 wd_680 wd_681 rfl ⟨by decide, by decide⟩ hl rfl (Nat.le_of_ble_eq_true rfl) dX7_scrape_29) (fun H locs hw => ?_)
      refine y_if_ne (tgt := 38) C (a' := zm x29.1) rfl dX7_scrape_32 (by decide) (fun hc => ?_) (fun hc => ?_)
      · rw [if_pos hc] at h
        refine y_ldc C (z := (-1000000003)) wd_490 (by decide) dX7_scrape_35 ?_
        exact y_iret C hw h dX7_scrape_37
      · rw [if_neg hc] at h
        refine y_aload_n C dX7_scrape_38 (lv_at hl 0 rfl) ?_
        refine g7 C hw kx_0 9 (by decide) wd_303 rfl dX7_scrape_39 ?_
        refine y_iload_n C dX7_scrape_42 (lv_at hl 1 rfl) ?_
        refine y_iload_n C dX7_scrape_43 (lv_at hl 2 rfl) ?_
        refine y_iload_n C dX7_scrape_44 (lv_at hl 3 rfl) ?_
        obtain ⟨x45, hc45, h⟩ := bd_some h
        refine y_cv (rest := []) hw (y_rV C hw kx_16 (by decide) rfl rfl (c_X2_addScrape kx_16 hc45) mi_X2_addScrape wd_683 wd_684 wd_685 rfl ⟨by decide, by decide⟩ hl rfl (Nat.le_of_ble_eq_true rfl) dX7_scrape_45) (fun H locs hw => ?_)
        refine y_aload_n C dX7_scrape_48 (lv_at hl 0 rfl) ?_
        refine g7 C hw kx_0 9 (by decide) wd_303 rfl dX7_scrape_49 ?_
        refine g2 C hw kx_16 3 (by decide) wd_149 rfl dX7_scrape_52 ?_
        exact y_iret C hw h dX7_scrape_55
    · rw [if_neg hc] at h
      refine y_ldc C (z := (-1000000002)) wd_344 (by decide) dX7_scrape_21 ?_
      exact y_iret C hw h dX7_scrape_23
  · rw [if_neg hc] at h
    refine y_ldc C (z := (-1000000002)) wd_344 (by decide) dX7_scrape_21 ?_
    exact y_iret C hw h dX7_scrape_23
theorem c_X7_scrape {l : Launch} {D : va_G} {cA : Nat → ClassId} {adK adV : Nat → Nat} {A : Nat → Prop} {ad : Int → Nat} {R : va_W} {σ : St} {res : Int × St} {v1 : Int} {v2 : Int} {v3 : Int}  (h : p_X7_scrape v1 v2 v3 σ = some res) : Met l yX7_scrape (wsU yX7_scrape cX7_scrape 4 (some .int)) (rmU 1 23) (va_Pc [.ref (ad 0), .int (zI v1), .int (zI v2), .int (zI v3)] (Pr D cA adK adV ad kX 151 R A σ)) (QI D cA ad kX 151 R A res) 0 0 A :=
  y_met (own := RX7) (by decide) rfl _ (Nat.le_of_ble_eq_true rfl) (fun p e s m args below meth c ls C hl hw => k_X7_scrape_0 C  hw hl h)
/-! RungHouse.judge -/
set_option maxRecDepth 100000 in
set_option maxHeartbeats 4000000 in
theorem k_X7_judge_135 {K60 : Int → Int → Int → St → Option (Int × St)} {o6 : Int} {v7 : Int} {v8 : Int} (C : Cx cX7_judge RX7 9 (some .int) D cA adK adV A p s m args meth c) (hK60 : ∀ (o6 : Int) (v7 : Int) (v8 : Int) (σ : St) (H : Heap) (locs : List Loc) (ls : Array Slot) (ho6 : kX o6 = (3, 0)), At D cA ad kX 151 R A s σ H locs → lv_has ls 9 [(0, .ref (ad 0)), (6, .ref (ad o6)), (7, .int (zI v7)), (8, .int (zI v8))] → K60 o6 v7 v8 σ = some res → W p l e (rmU 6 147) s m args below meth c H locs 0 0 (MQ below (QI D cA ad kX 151 R A res) args s 0 0 A) (F0 m 60 ls [])) {σ : St} {H : Heap} {locs : List Loc} {ls : Array Slot} (ho6 : kX o6 = (3, 0)) (hw : At D cA ad kX 151 R A s σ H locs) (hl : lv_has ls 9 [(0, .ref (ad 0)), (6, .ref (ad o6)), (7, .int (zI v7)), (8, .int (zI v8))]) (h : p_X7_judge_135 K60 o6 v7 v8 σ = some res) : W p l e (rmU 6 147) s m args below meth c H locs 0 0 (MQ below (QI D cA ad kX 151 R A res) args s 0 0 A) (F0 m 135 ls []) := by
  have h := h
  unfold p_X7_judge_135 at h
  refine y_iinc (lv' := [(8, .int (zI (v8 + 1))), (0, .ref (ad 0)), (6, .ref (ad o6)), (7, .int (zI v7))]) C dX7_judge_135 hl (k := 3) rfl (by decide) rfl (fun ls hl => ?_)
  refine y_goto (tgt := 60) C dX7_judge_138 (by decide) ?_
  exact hK60 _ _ _ _ _ _ _ ho6 hw (lv_sub hl [1, 2, 3, 0] rfl) h
set_option maxRecDepth 100000 in
set_option maxHeartbeats 4000000 in
theorem k_X7_judge_60b {K60 : Int → Int → Int → St → Option (Int × St)} {o6 : Int} {v7 : Int} {v8 : Int} (C : Cx cX7_judge RX7 9 (some .int) D cA adK adV A p s m args meth c)  (hK60 : ∀ (o6 : Int) (v7 : Int) (v8 : Int) (σ : St) (H : Heap) (locs : List Loc) (ls : Array Slot) (ho6 : kX o6 = (3, 0)), At D cA ad kX 151 R A s σ H locs → lv_has ls 9 [(0, .ref (ad 0)), (6, .ref (ad o6)), (7, .int (zI v7)), (8, .int (zI v8))] → K60 o6 v7 v8 σ = some res → W p l e (rmU 6 147) s m args below meth c H locs 0 0 (MQ below (QI D cA ad kX 151 R A res) args s 0 0 A) (F0 m 60 ls [])) {σ : St} {H : Heap} {locs : List Loc} {ls : Array Slot} (ho6 : kX o6 = (3, 0)) (hw : At D cA ad kX 151 R A s σ H locs) (hl : lv_has ls 9 [(0, .ref (ad 0)), (6, .ref (ad o6)), (7, .int (zI v7)), (8, .int (zI v8))]) (h : p_X7_judge_60b K60 o6 v7 v8 σ = some res) : W p l e (rmU 6 147) s m args below meth c H locs 0 0 (MQ below (QI D cA ad kX 151 R A res) args s 0 0 A) (F0 m 60 ls []) := by
  have h := h
  unfold p_X7_judge_60b at h
  refine y_iload C dX7_judge_60 (lv_at hl 3 rfl) ?_
  refine y_aload_n C dX7_judge_62 (lv_at hl 0 rfl) ?_
  refine g7 C hw kx_0 9 (by decide) wd_303 rfl dX7_judge_63 ?_
  refine g2 C hw kx_16 3 (by decide) wd_149 rfl dX7_judge_66 ?_
  refine y_icmp_ge (tgt := 141) C (a' := zm v8) (b' := zm (σ 16 3)) rfl rfl dX7_judge_69 (by decide) (fun hc => ?_) (fun hc => ?_)
  · rw [if_pos hc] at h
    refine y_iconst C dX7_judge_141 ?_
    exact y_iret C hw h dX7_judge_142
  · rw [if_neg hc] at h
    refine y_aload C dX7_judge_72 (lv_at hl 1 rfl) ?_
    refine y_aload_n C dX7_judge_74 (lv_at hl 0 rfl) ?_
    refine g7 C hw kx_0 9 (by decide) wd_303 rfl dX7_judge_75 ?_
    refine g2 C hw kx_16 0 (by decide) wd_143 rfl dX7_judge_78 ?_
    refine y_iload C dX7_judge_81 (lv_at hl 3 rfl) ?_
    obtain ⟨hg83, h⟩ := gd_some h
    refine y_iald C hw (ka2_months kx_16) (i' := zm v8) rfl hg83 dX7_judge_83 ?_
    refine y_iload C dX7_judge_84 (lv_at hl 2 rfl) ?_
    refine y_aload_n C dX7_judge_86 (lv_at hl 0 rfl) ?_
    refine g7 C hw kx_0 9 (by decide) wd_303 rfl dX7_judge_87 ?_
    refine g2 C hw kx_16 1 (by decide) wd_145 rfl dX7_judge_90 ?_
    refine y_iload C dX7_judge_93 (lv_at hl 3 rfl) ?_
    refine y_iald C hw (ka2_sums kx_16) (i' := zm v8) rfl hg83 dX7_judge_95 ?_
    obtain ⟨x96, hc96, h⟩ := bd_some h
    refine y_ci (rest := []) hw (y_rV C hw ho6 (by decide) rfl rfl (c_X3_isAsked ho6 hc96) mi_X3_isAsked wd_691 wd_692 wd_693 rfl ⟨by decide, by decide⟩ hl rfl (Nat.le_of_ble_eq_true rfl) dX7_judge_96) (fun H locs hw => ?_)
    refine y_aload_n C dX7_judge_99 (lv_at hl 0 rfl) ?_
    refine g7 C hw kx_0 9 (by decide) wd_303 rfl dX7_judge_100 ?_
    refine g2 C hw kx_16 2 (by decide) wd_147 rfl dX7_judge_103 ?_
    refine y_iload C dX7_judge_106 (lv_at hl 3 rfl) ?_
    refine y_zald C hw (ka2_asked kx_16) (i' := zm v8) rfl hg83 dX7_judge_108 ?_
    refine y_icmp_eq (tgt := 115) C (a' := zm x96.1) (b' := zm (x96.2 (16 + 3) (zm v8))) rfl rfl dX7_judge_109 (by decide) (fun hc => ?_) (fun hc => ?_)
    · rw [if_pos hc] at h
      refine y_aload_n C dX7_judge_115 (lv_at hl 0 rfl) ?_
      refine g7 C hw kx_0 9 (by decide) wd_303 rfl dX7_judge_116 ?_
      refine g2 C hw kx_16 2 (by decide) wd_147 rfl dX7_judge_119 ?_
      refine y_iload C dX7_judge_122 (lv_at hl 3 rfl) ?_
      refine y_zald C hw (ka2_asked kx_16) (i' := zm v8) rfl hg83 dX7_judge_124 ?_
      refine y_if_eq (tgt := 135) C (a' := zm (x96.2 (16 + 3) (zm v8))) rfl dX7_judge_125 (by decide) (fun hc => ?_) (fun hc => ?_)
      · rw [if_pos hc] at h
        exact k_X7_judge_135 C hK60 ho6 hw hl h
      · rw [if_neg hc] at h
        refine y_iload C dX7_judge_128 (lv_at hl 2 rfl) ?_
        obtain ⟨x130, hc130, h⟩ := bd_some h
        refine y_ci (rest := []) hw (y_rS C hw (c_X7_oneMore  hc130) mi_X7_oneMore wd_695 wd_696 rfl ⟨by decide, by decide⟩ hl rfl (Nat.le_of_ble_eq_true rfl) dX7_judge_130) (fun H locs hw => ?_)
        refine y_istore (lv' := [(7, .int (zI x130.1)), (0, .ref (ad 0)), (6, .ref (ad o6)), (8, .int (zI v8))]) C dX7_judge_133 hl (by decide) rfl (fun ls hl => ?_)
        exact k_X7_judge_135 C hK60 ho6 hw (lv_sub hl [1, 2, 0, 3] rfl) h
    · rw [if_neg hc] at h
      refine y_iload C dX7_judge_112 (lv_at hl 3 rfl) ?_
      exact y_iret C hw h dX7_judge_114
set_option maxRecDepth 100000 in
theorem k_X7_judge_60  (C : Cx cX7_judge RX7 9 (some .int) D cA adK adV A p s m args meth c)  : ∀ (n : Nat) (o6 : Int) (v7 : Int) (v8 : Int) (σ : St) (H : Heap) (locs : List Loc) (ls : Array Slot) (ho6 : kX o6 = (3, 0)), At D cA ad kX 151 R A s σ H locs → lv_has ls 9 [(0, .ref (ad 0)), (6, .ref (ad o6)), (7, .int (zI v7)), (8, .int (zI v8))] → p_X7_judge_60  n o6 v7 v8 σ = some res → W p l e (rmU 6 147) s m args below meth c H locs 0 0 (MQ below (QI D cA ad kX 151 R A res) args s 0 0 A) (F0 m 60 ls []) := by
  intro n
  induction n with
  | zero =>
    intro o6 v7 v8 σ H locs ls ho6 hw hl h
    have h : none = some res := h
    cases h
  | succ n ih =>
    intro o6 v7 v8 σ H locs ls ho6 hw hl h
    exact k_X7_judge_60b C  ih ho6 hw hl h
set_option maxRecDepth 100000 in
set_option maxHeartbeats 4000000 in
theorem k_X7_judge_0  {v1 : Int} {v2 : Int} {v3 : Int} {v4 : Int} {v5 : Int} (C : Cx cX7_judge RX7 9 (some .int) D cA adK adV A p s m args meth c)  {σ : St} {H : Heap} {locs : List Loc} {ls : Array Slot}  (hw : At D cA ad kX 151 R A s σ H locs) (hl : lv_has ls 9 [(0, .ref (ad 0)), (1, .int (zI v1)), (2, .int (zI v2)), (3, .int (zI v3)), (4, .int (zI v4)), (5, .int (zI v5))]) (h : p_X7_judge  v1 v2 v3 v4 v5 σ = some res) : W p l e (rmU 6 147) s m args below meth c H locs 0 0 (MQ below (QI D cA ad kX 151 R A res) args s 0 0 A) (F0 m 0 ls []) := by
  have h := h
  unfold p_X7_judge at h
  refine y_aload_n C dX7_judge_0 (lv_at hl 0 rfl) ?_
  refine y_iload_n C dX7_judge_1 (lv_at hl 1 rfl) ?_
  obtain ⟨x2, hc2, h⟩ := bd_some h
  refine y_ci (rest := []) hw (y_rV C hw kx_0 (by decide) rfl rfl (c_X7_isSort  hc2) mi_X7_isSort wd_580 wd_582 ws_12 rfl ⟨by decide, by decide⟩ hl rfl (Nat.le_of_ble_eq_true rfl) dX7_judge_2) (fun H locs hw => ?_)
  refine y_if_eq (tgt := 18) C (a' := zm x2.1) rfl dX7_judge_5 (by decide) (fun hc => ?_) (fun hc => ?_)
  · rw [if_pos hc] at h
    refine y_ldc C (z := (-1000000001)) wd_354 (by decide) dX7_judge_18 ?_
    exact y_iret C hw h dX7_judge_20
  · rw [if_neg hc] at h
    refine y_aload_n C dX7_judge_8 (lv_at hl 0 rfl) ?_
    refine y_iload_n C dX7_judge_9 (lv_at hl 2 rfl) ?_
    refine y_iload C dX7_judge_10 (lv_at hl 5 rfl) ?_
    obtain ⟨x12, hc12, h⟩ := bd_some h
    refine y_ci (rest := []) hw (y_rV C hw kx_0 (by decide) rfl rfl (c_X7_isRung  hc12) mi_X7_isRung wd_554 wd_556 ws_11 rfl ⟨by decide, by decide⟩ hl rfl (Nat.le_of_ble_eq_true rfl) dX7_judge_12) (fun H locs hw => ?_)
    refine y_if_ne (tgt := 21) C (a' := zm x12.1) rfl dX7_judge_15 (by decide) (fun hc => ?_) (fun hc => ?_)
    · rw [if_pos hc] at h
      refine y_ldc C (z := (-1000000001)) wd_354 (by decide) dX7_judge_18 ?_
      exact y_iret C hw h dX7_judge_20
    · rw [if_neg hc] at h
      refine y_iload_n C dX7_judge_21 (lv_at hl 3 rfl) ?_
      refine y_iload C dX7_judge_22 (lv_at hl 4 rfl) ?_
      obtain ⟨x24, hc24, h⟩ := bd_some h
      refine y_ci (rest := []) hw (y_rS C hw (c_X7_isNoYear  hc24) mi_X7_isNoYear wd_642 wd_643 rfl ⟨by decide, by decide⟩ hl rfl (Nat.le_of_ble_eq_true rfl) dX7_judge_24) (fun H locs hw => ?_)
      refine y_if_eq (tgt := 33) C (a' := zm x24.1) rfl dX7_judge_27 (by decide) (fun hc => ?_) (fun hc => ?_)
      · rw [if_pos hc] at h
        refine y_aload_n C dX7_judge_33 (lv_at hl 0 rfl) ?_
        refine y_iload_n C dX7_judge_34 (lv_at hl 1 rfl) ?_
        refine y_iload_n C dX7_judge_35 (lv_at hl 2 rfl) ?_
        refine y_iload_n C dX7_judge_36 (lv_at hl 3 rfl) ?_
        obtain ⟨x37, hc37, h⟩ := bd_some h
        refine y_cr (rest := []) hw (y_rV C hw kx_0 (by decide) rfl rfl (c_X7_planOf  hc37) mi_X7_planOf wd_588 wd_590 ws_13 rfl ⟨by decide, by decide⟩ hl rfl (Nat.le_of_ble_eq_true rfl) dX7_judge_37) (fun H locs hw => ?_)
        obtain ⟨hg37, h⟩ := gd_some h
        refine y_astore (lv' := [(6, .ref (ad x37.1)), (0, .ref (ad 0)), (1, .int (zI v1)), (2, .int (zI v2)), (3, .int (zI v3)), (4, .int (zI v4)), (5, .int (zI v5))]) C dX7_judge_40 hl (by decide) rfl (fun ls hl => ?_)
        refine y_aload C dX7_judge_42 (lv_at hl 0 rfl) ?_
        refine y_iload_n C dX7_judge_44 (lv_at hl 4 rfl) ?_
        refine y_iload C dX7_judge_45 (lv_at hl 5 rfl) ?_
        refine y_isub C dX7_judge_47 ?_
        refine y_iload C dX7_judge_48 (lv_at hl 6 rfl) ?_
        refine y_iconst C dX7_judge_50 ?_
        obtain ⟨x51, hc51, h⟩ := bd_some h
        refine y_cv (rest := []) hw (y_rV C hw hg37 (by decide) rfl rfl (c_X3_openYear hg37 hc51) mi_X3_openYear wd_645 wd_601 wd_602 rfl ⟨by decide, by decide⟩ hl rfl (Nat.le_of_ble_eq_true rfl) dX7_judge_51) (fun H locs hw => ?_)
        refine y_iconst C dX7_judge_54 ?_
        refine y_istore (lv' := [(7, .int (zI 0)), (6, .ref (ad x37.1)), (0, .ref (ad 0)), (1, .int (zI v1)), (2, .int (zI v2)), (3, .int (zI v3)), (4, .int (zI v4)), (5, .int (zI v5))]) C dX7_judge_55 hl (by decide) rfl (fun ls hl => ?_)
        refine y_iconst C dX7_judge_57 ?_
        refine y_istore (lv' := [(8, .int (zI 0)), (7, .int (zI 0)), (6, .ref (ad x37.1)), (0, .ref (ad 0)), (1, .int (zI v1)), (2, .int (zI v2)), (3, .int (zI v3)), (4, .int (zI v4)), (5, .int (zI v5))]) C dX7_judge_58 hl (by decide) rfl (fun ls hl => ?_)
        exact k_X7_judge_60 C  FU _ _ _ _ _ _ _ hg37 hw (lv_sub hl [3, 2, 1, 0] rfl) h
      · rw [if_neg hc] at h
        refine y_ldc C (z := (-1000000002)) wd_344 (by decide) dX7_judge_30 ?_
        exact y_iret C hw h dX7_judge_32
theorem c_X7_judge {l : Launch} {D : va_G} {cA : Nat → ClassId} {adK adV : Nat → Nat} {A : Nat → Prop} {ad : Int → Nat} {R : va_W} {σ : St} {res : Int × St} {v1 : Int} {v2 : Int} {v3 : Int} {v4 : Int} {v5 : Int}  (h : p_X7_judge v1 v2 v3 v4 v5 σ = some res) : Met l yX7_judge (wsU yX7_judge cX7_judge 9 (some .int)) (rmU 6 147) (va_Pc [.ref (ad 0), .int (zI v1), .int (zI v2), .int (zI v3), .int (zI v4), .int (zI v5)] (Pr D cA adK adV ad kX 151 R A σ)) (QI D cA ad kX 151 R A res) 0 0 A :=
  y_met (own := RX7) (by decide) rfl _ (Nat.le_of_ble_eq_true rfl) (fun p e s m args below meth c ls C hl hw => k_X7_judge_0 C  hw hl h)
/-! RungHouse.isWay -/
set_option maxRecDepth 100000 in
set_option maxHeartbeats 4000000 in
theorem k_X7_isWay_13   (C : Cx cX7_isWay RX7 2 (some .boolean) D cA adK adV A p s m args meth c)  {σ : St} {H : Heap} {locs : List Loc} {ls : Array Slot}  (hw : At D cA ad kX 151 R A s σ H locs) (hl : lv_has ls 2 []) (h : p_X7_isWay_13   σ = some res) : W p l e (rmU 2 43) s m args below meth c H locs 0 0 (MQ below (QI D cA ad kX 151 R A res) args s 0 0 A) (F0 m 13 ls []) := by
  have h := h
  unfold p_X7_isWay_13 at h
  refine y_iconst C dX7_isWay_13 ?_
  refine y_goto (tgt := 18) C dX7_isWay_14 (by decide) ?_
  exact y_zret C hw (by decide) h dX7_isWay_18
set_option maxRecDepth 100000 in
set_option maxHeartbeats 4000000 in
theorem k_X7_isWay_0  {v1 : Int} (C : Cx cX7_isWay RX7 2 (some .boolean) D cA adK adV A p s m args meth c)  {σ : St} {H : Heap} {locs : List Loc} {ls : Array Slot}  (hw : At D cA ad kX 151 R A s σ H locs) (hl : lv_has ls 2 [(0, .ref (ad 0)), (1, .int (zI v1))]) (h : p_X7_isWay  v1 σ = some res) : W p l e (rmU 2 43) s m args below meth c H locs 0 0 (MQ below (QI D cA ad kX 151 R A res) args s 0 0 A) (F0 m 0 ls []) := by
  have h := h
  unfold p_X7_isWay at h
  refine y_iload_n C dX7_isWay_0 (lv_at hl 1 rfl) ?_
  refine y_iconst C dX7_isWay_1 ?_
  refine y_icmp_eq (tgt := 13) C (a' := zm v1) (b' := (-1)) rfl (by decide) dX7_isWay_2 (by decide) (fun hc => ?_) (fun hc => ?_)
  · rw [if_pos hc] at h
    exact k_X7_isWay_13 C   hw (lv_sub hl [] rfl) h
  · rw [if_neg hc] at h
    refine y_aload_n C dX7_isWay_5 (lv_at hl 0 rfl) ?_
    refine y_iload_n C dX7_isWay_6 (lv_at hl 1 rfl) ?_
    obtain ⟨x7, hc7, h⟩ := bd_some h
    refine y_ci (rest := []) hw (y_rV C hw kx_0 (by decide) rfl rfl (c_X7_isRule  hc7) mi_X7_isRule wd_667 wd_669 ws_18 rfl ⟨by decide, by decide⟩ hl rfl (Nat.le_of_ble_eq_true rfl) dX7_isWay_7) (fun H locs hw => ?_)
    refine y_if_eq (tgt := 17) C (a' := zm x7.1) rfl dX7_isWay_10 (by decide) (fun hc => ?_) (fun hc => ?_)
    · rw [if_pos hc] at h
      refine y_iconst C dX7_isWay_17 ?_
      exact y_zret C hw (by decide) h dX7_isWay_18
    · rw [if_neg hc] at h
      exact k_X7_isWay_13 C   hw (lv_sub hl [] rfl) h
theorem c_X7_isWay {l : Launch} {D : va_G} {cA : Nat → ClassId} {adK adV : Nat → Nat} {A : Nat → Prop} {ad : Int → Nat} {R : va_W} {σ : St} {res : Int × St} {v1 : Int}  (h : p_X7_isWay v1 σ = some res) : Met l yX7_isWay (wsU yX7_isWay cX7_isWay 2 (some .boolean)) (rmU 2 43) (va_Pc [.ref (ad 0), .int (zI v1)] (Pr D cA adK adV ad kX 151 R A σ)) (QI D cA ad kX 151 R A res) 0 0 A :=
  y_met (own := RX7) (by decide) rfl _ (Nat.le_of_ble_eq_true rfl) (fun p e s m args below meth c ls C hl hw => k_X7_isWay_0 C  hw hl h)
/-! RungHouse.wayOf -/
set_option maxRecDepth 100000 in
set_option maxHeartbeats 4000000 in
theorem k_X7_wayOf_0  {v1 : Int} {v2 : Int} {v3 : Int} {v4 : Int} (C : Cx cX7_wayOf RX7 5 (some (.object "RungHouse$Plan")) D cA adK adV A p s m args meth c)  {σ : St} {H : Heap} {locs : List Loc} {ls : Array Slot}  (hw : At D cA ad kX 151 R A s σ H locs) (hl : lv_has ls 5 [(0, .ref (ad 0)), (1, .int (zI v1)), (2, .int (zI v2)), (3, .int (zI v3)), (4, .int (zI v4))]) (h : p_X7_wayOf  v1 v2 v3 v4 σ = some res) : W p l e (rmU 6 147) s m args below meth c H locs 0 0 (MQ below (QR D cA ad kX 151 R A res) args s 0 0 A) (F0 m 0 ls []) := by
  have h := h
  unfold p_X7_wayOf at h
  refine y_iload_n C dX7_wayOf_0 (lv_at hl 3 rfl) ?_
  refine y_iconst C dX7_wayOf_1 ?_
  refine y_icmp_ne (tgt := 14) C (a' := zm v3) (b' := (-1)) rfl (by decide) dX7_wayOf_2 (by decide) (fun hc => ?_) (fun hc => ?_)
  · rw [if_pos hc] at h
    refine y_aload_n C dX7_wayOf_5 (lv_at hl 0 rfl) ?_
    refine y_iload_n C dX7_wayOf_6 (lv_at hl 1 rfl) ?_
    refine y_iload_n C dX7_wayOf_7 (lv_at hl 2 rfl) ?_
    refine y_iload C dX7_wayOf_8 (lv_at hl 4 rfl) ?_
    obtain ⟨x10, hc10, h⟩ := bd_some h
    refine y_cr (rest := []) hw (y_rV C hw kx_0 (by decide) rfl rfl (c_X7_planOf  hc10) mi_X7_planOf wd_588 wd_590 ws_13 rfl ⟨by decide, by decide⟩ hl rfl (Nat.le_of_ble_eq_true rfl) dX7_wayOf_10) (fun H locs hw => ?_)
    obtain ⟨hg10, h⟩ := gd_some h
    exact y_aret C hw h dX7_wayOf_13
  · rw [if_neg hc] at h
    refine y_aload_n C dX7_wayOf_14 (lv_at hl 0 rfl) ?_
    refine g7 C hw kx_0 6 (by decide) wd_300 rfl dX7_wayOf_15 ?_
    refine y_aload_n C dX7_wayOf_18 (lv_at hl 0 rfl) ?_
    refine g7 C hw kx_0 2 (by decide) wd_296 rfl dX7_wayOf_19 ?_
    refine y_iload_n C dX7_wayOf_22 (lv_at hl 1 rfl) ?_
    obtain ⟨hg23, h⟩ := gd_some h
    refine y_aald C hw kx_4 (by decide) rfl rfl (i' := zm v1) rfl hg23 dX7_wayOf_23 ?_
    refine y_aload_n C dX7_wayOf_24 (lv_at hl 0 rfl) ?_
    refine g7 C hw kx_0 1 (by decide) wd_295 rfl dX7_wayOf_25 ?_
    refine y_iload_n C dX7_wayOf_28 (lv_at hl 2 rfl) ?_
    obtain ⟨hg29, h⟩ := gd_some h
    refine y_aald C hw kx_3 (by decide) rfl rfl (i' := zm v2) rfl hg29 dX7_wayOf_29 ?_
    refine y_aload_n C dX7_wayOf_30 (lv_at hl 0 rfl) ?_
    refine g7 C hw kx_0 3 (by decide) wd_297 rfl dX7_wayOf_31 ?_
    refine y_iload_n C dX7_wayOf_34 (lv_at hl 3 rfl) ?_
    obtain ⟨hg35, h⟩ := gd_some h
    refine y_aald C hw kx_5 (by decide) rfl rfl (i' := zm v3) rfl hg35 dX7_wayOf_35 ?_
    obtain ⟨x36, hc36, h⟩ := bd_some h
    rw [← rv_ref (ad := ad) (kX_in _ (by rw [(kr_32 (i := zm v3) hg35)]; decide)).1]
    refine y_cv (rest := []) hw (y_rV C hw kx_107 (by decide) rfl rfl (c_X3_begin kx_107 (kr_31 (i := zm v1) hg23) (kr_30 (i := zm v2) hg29) hc36) mi_X3_begin wd_671 wd_672 wd_673 rfl ⟨by decide, by decide⟩ hl rfl (Nat.le_of_ble_eq_true rfl) dX7_wayOf_36) (fun H locs hw => ?_)
    refine y_aload_n C dX7_wayOf_39 (lv_at hl 0 rfl) ?_
    refine g7 C hw kx_0 6 (by decide) wd_300 rfl dX7_wayOf_40 ?_
    exact y_aret C hw h dX7_wayOf_43
theorem c_X7_wayOf {l : Launch} {D : va_G} {cA : Nat → ClassId} {adK adV : Nat → Nat} {A : Nat → Prop} {ad : Int → Nat} {R : va_W} {σ : St} {res : Int × St} {v1 : Int} {v2 : Int} {v3 : Int} {v4 : Int}  (h : p_X7_wayOf v1 v2 v3 v4 σ = some res) : Met l yX7_wayOf (wsU yX7_wayOf cX7_wayOf 5 (some (.object "RungHouse$Plan"))) (rmU 6 147) (va_Pc [.ref (ad 0), .int (zI v1), .int (zI v2), .int (zI v3), .int (zI v4)] (Pr D cA adK adV ad kX 151 R A σ)) (QR D cA ad kX 151 R A res) 0 0 A :=
  y_met (own := RX7) (by decide) rfl _ (Nat.le_of_ble_eq_true rfl) (fun p e s m args below meth c ls C hl hw => k_X7_wayOf_0 C  hw hl h)
/-! RungHouse.standing -/
set_option maxRecDepth 100000 in
set_option maxHeartbeats 4000000 in
theorem k_X7_standing_0  {v1 : Int} {v2 : Int} {v3 : Int} {v4 : Int} {v5 : Int} {v6 : Int} (C : Cx cX7_standing RX7 7 (some .int) D cA adK adV A p s m args meth c)  {σ : St} {H : Heap} {locs : List Loc} {ls : Array Slot}  (hw : At D cA ad kX 151 R A s σ H locs) (hl : lv_has ls 7 [(0, .ref (ad 0)), (1, .int (zI v1)), (2, .int (zI v2)), (3, .int (zI v3)), (4, .int (zI v4)), (5, .int (zI v5)), (6, .int (zI v6))]) (h : p_X7_standing  v1 v2 v3 v4 v5 v6 σ = some res) : W p l e (rmU 7 171) s m args below meth c H locs 0 0 (MQ below (QI D cA ad kX 151 R A res) args s 0 0 A) (F0 m 0 ls []) := by
  have h := h
  unfold p_X7_standing at h
  refine y_aload_n C dX7_standing_0 (lv_at hl 0 rfl) ?_
  refine y_iload_n C dX7_standing_1 (lv_at hl 1 rfl) ?_
  obtain ⟨x2, hc2, h⟩ := bd_some h
  refine y_ci (rest := []) hw (y_rV C hw kx_0 (by decide) rfl rfl (c_X7_isSort  hc2) mi_X7_isSort wd_580 wd_582 ws_12 rfl ⟨by decide, by decide⟩ hl rfl (Nat.le_of_ble_eq_true rfl) dX7_standing_2) (fun H locs hw => ?_)
  refine y_if_eq (tgt := 26) C (a' := zm x2.1) rfl dX7_standing_5 (by decide) (fun hc => ?_) (fun hc => ?_)
  · rw [if_pos hc] at h
    refine y_ldc C (z := (-1000000001)) wd_354 (by decide) dX7_standing_26 ?_
    exact y_iret C hw h dX7_standing_28
  · rw [if_neg hc] at h
    refine y_aload_n C dX7_standing_8 (lv_at hl 0 rfl) ?_
    refine y_iload_n C dX7_standing_9 (lv_at hl 2 rfl) ?_
    refine y_iload C dX7_standing_10 (lv_at hl 6 rfl) ?_
    obtain ⟨x12, hc12, h⟩ := bd_some h
    refine y_ci (rest := []) hw (y_rV C hw kx_0 (by decide) rfl rfl (c_X7_isRung  hc12) mi_X7_isRung wd_554 wd_556 ws_11 rfl ⟨by decide, by decide⟩ hl rfl (Nat.le_of_ble_eq_true rfl) dX7_standing_12) (fun H locs hw => ?_)
    refine y_if_eq (tgt := 26) C (a' := zm x12.1) rfl dX7_standing_15 (by decide) (fun hc => ?_) (fun hc => ?_)
    · rw [if_pos hc] at h
      refine y_ldc C (z := (-1000000001)) wd_354 (by decide) dX7_standing_26 ?_
      exact y_iret C hw h dX7_standing_28
    · rw [if_neg hc] at h
      refine y_aload_n C dX7_standing_18 (lv_at hl 0 rfl) ?_
      refine y_iload_n C dX7_standing_19 (lv_at hl 3 rfl) ?_
      obtain ⟨x20, hc20, h⟩ := bd_some h
      refine y_ci (rest := []) hw (y_rV C hw kx_0 (by decide) rfl rfl (c_X7_isWay  hc20) mi_X7_isWay wd_702 wd_704 ws_19 rfl ⟨by decide, by decide⟩ hl rfl (Nat.le_of_ble_eq_true rfl) dX7_standing_20) (fun H locs hw => ?_)
      refine y_if_ne (tgt := 29) C (a' := zm x20.1) rfl dX7_standing_23 (by decide) (fun hc => ?_) (fun hc => ?_)
      · rw [if_pos hc] at h
        refine y_ldc C (z := (-1000000001)) wd_354 (by decide) dX7_standing_26 ?_
        exact y_iret C hw h dX7_standing_28
      · rw [if_neg hc] at h
        refine y_iload C dX7_standing_29 (lv_at hl 4 rfl) ?_
        refine y_iconst C dX7_standing_31 ?_
        refine y_bipush C dX7_standing_32 (by decide) ?_
        obtain ⟨x34, hc34, h⟩ := bd_some h
        refine y_ci (rest := []) hw (y_rS C hw (c_X7_isOut  hc34) mi_X7_isOut wd_341 wd_342 rfl ⟨by decide, by decide⟩ hl rfl (Nat.le_of_ble_eq_true rfl) dX7_standing_34) (fun H locs hw => ?_)
        refine y_if_ne (tgt := 51) C (a' := zm x34.1) rfl dX7_standing_37 (by decide) (fun hc => ?_) (fun hc => ?_)
        · rw [if_pos hc] at h
          refine y_iload C dX7_standing_40 (lv_at hl 5 rfl) ?_
          refine y_iconst C dX7_standing_42 ?_
          refine y_bipush C dX7_standing_43 (by decide) ?_
          obtain ⟨x45, hc45, h⟩ := bd_some h
          refine y_ci (rest := []) hw (y_rS C hw (c_X7_isOut  hc45) mi_X7_isOut wd_341 wd_342 rfl ⟨by decide, by decide⟩ hl rfl (Nat.le_of_ble_eq_true rfl) dX7_standing_45) (fun H locs hw => ?_)
          refine y_if_eq (tgt := 54) C (a' := zm x45.1) rfl dX7_standing_48 (by decide) (fun hc => ?_) (fun hc => ?_)
          · rw [if_pos hc] at h
            refine y_aload_n C dX7_standing_54 (lv_at hl 0 rfl) ?_
            refine g7 C hw kx_0 7 (by decide) wd_301 rfl dX7_standing_55 ?_
            refine y_aload_n C dX7_standing_58 (lv_at hl 0 rfl) ?_
            refine y_iload_n C dX7_standing_59 (lv_at hl 1 rfl) ?_
            refine y_iload_n C dX7_standing_60 (lv_at hl 2 rfl) ?_
            refine y_iload_n C dX7_standing_61 (lv_at hl 3 rfl) ?_
            refine y_iload C dX7_standing_62 (lv_at hl 4 rfl) ?_
            obtain ⟨x64, hc64, h⟩ := bd_some h
            refine y_cr (rest := [.ref (ad 9)]) hw (y_rV C hw kx_0 (by decide) rfl rfl (c_X7_wayOf  hc64) mi_X7_wayOf wd_706 wd_708 ws_20 rfl ⟨by decide, by decide⟩ hl rfl (Nat.le_of_ble_eq_true rfl) dX7_standing_64) (fun H locs hw => ?_)
            obtain ⟨hg64, h⟩ := gd_some h
            refine y_iload C dX7_standing_67 (lv_at hl 4 rfl) ?_
            obtain ⟨x69, hc69, h⟩ := bd_some h
            refine y_cv (rest := []) hw (y_rV C hw kx_9 (by decide) rfl rfl (c_X1_reckon kx_9 hg64 hc69) mi_X1_reckon wd_710 wd_711 wd_712 rfl ⟨by decide, by decide⟩ hl rfl (Nat.le_of_ble_eq_true rfl) dX7_standing_69) (fun H locs hw => ?_)
            refine y_aload_n C dX7_standing_72 (lv_at hl 0 rfl) ?_
            refine g7 C hw kx_0 7 (by decide) wd_301 rfl dX7_standing_73 ?_
            refine y_aload_n C dX7_standing_76 (lv_at hl 0 rfl) ?_
            refine g7 C hw kx_0 1 (by decide) wd_295 rfl dX7_standing_77 ?_
            refine y_iload_n C dX7_standing_80 (lv_at hl 2 rfl) ?_
            obtain ⟨hg81, h⟩ := gd_some h
            refine y_aald C hw kx_3 (by decide) rfl rfl (i' := zm v2) rfl hg81 dX7_standing_81 ?_
            refine y_iload C dX7_standing_82 (lv_at hl 5 rfl) ?_
            obtain ⟨x84, hc84, h⟩ := bd_some h
            refine y_cv (rest := []) hw (y_rV C hw kx_9 (by decide) rfl rfl (c_X1_goTo kx_9 (kr_30 (i := zm v2) hg81) hc84) mi_X1_goTo wd_736 wd_737 wd_738 rfl ⟨by decide, by decide⟩ hl rfl (Nat.le_of_ble_eq_true rfl) dX7_standing_84) (fun H locs hw => ?_)
            refine y_aload_n C dX7_standing_87 (lv_at hl 0 rfl) ?_
            refine g7 C hw kx_0 7 (by decide) wd_301 rfl dX7_standing_88 ?_
            refine g1 C hw kx_9 0 (by decide) wd_120 rfl dX7_standing_91 ?_
            refine y_iload C dX7_standing_94 (lv_at hl 6 rfl) ?_
            obtain ⟨hg96, h⟩ := gd_some h
            refine y_iald C hw (ka1_people kx_9) (i' := zm v6) rfl hg96 dX7_standing_96 ?_
            exact y_iret C hw h dX7_standing_97
          · rw [if_neg hc] at h
            refine y_ldc C (z := (-1000000002)) wd_344 (by decide) dX7_standing_51 ?_
            exact y_iret C hw h dX7_standing_53
        · rw [if_neg hc] at h
          refine y_ldc C (z := (-1000000002)) wd_344 (by decide) dX7_standing_51 ?_
          exact y_iret C hw h dX7_standing_53
theorem c_X7_standing {l : Launch} {D : va_G} {cA : Nat → ClassId} {adK adV : Nat → Nat} {A : Nat → Prop} {ad : Int → Nat} {R : va_W} {σ : St} {res : Int × St} {v1 : Int} {v2 : Int} {v3 : Int} {v4 : Int} {v5 : Int} {v6 : Int}  (h : p_X7_standing v1 v2 v3 v4 v5 v6 σ = some res) : Met l yX7_standing (wsU yX7_standing cX7_standing 7 (some .int)) (rmU 7 171) (va_Pc [.ref (ad 0), .int (zI v1), .int (zI v2), .int (zI v3), .int (zI v4), .int (zI v5), .int (zI v6)] (Pr D cA adK adV ad kX 151 R A σ)) (QI D cA ad kX 151 R A res) 0 0 A :=
  y_met (own := RX7) (by decide) rfl _ (Nat.le_of_ble_eq_true rfl) (fun p e s m args below meth c ls C hl hw => k_X7_standing_0 C  hw hl h)
/-! RungHouse.odds -/
set_option maxRecDepth 100000 in
set_option maxHeartbeats 4000000 in
theorem k_X7_odds_0  {v1 : Int} {v2 : Int} {v3 : Int} {v4 : Int} {v5 : Int} {v6 : Int} (C : Cx cX7_odds RX7 7 (some .int) D cA adK adV A p s m args meth c)  {σ : St} {H : Heap} {locs : List Loc} {ls : Array Slot}  (hw : At D cA ad kX 151 R A s σ H locs) (hl : lv_has ls 7 [(0, .ref (ad 0)), (1, .int (zI v1)), (2, .int (zI v2)), (3, .int (zI v3)), (4, .int (zI v4)), (5, .int (zI v5)), (6, .int (zI v6))]) (h : p_X7_odds  v1 v2 v3 v4 v5 v6 σ = some res) : W p l e (rmU 7 171) s m args below meth c H locs 0 0 (MQ below (QI D cA ad kX 151 R A res) args s 0 0 A) (F0 m 0 ls []) := by
  have h := h
  unfold p_X7_odds at h
  refine y_aload_n C dX7_odds_0 (lv_at hl 0 rfl) ?_
  refine y_iload_n C dX7_odds_1 (lv_at hl 1 rfl) ?_
  obtain ⟨x2, hc2, h⟩ := bd_some h
  refine y_ci (rest := []) hw (y_rV C hw kx_0 (by decide) rfl rfl (c_X7_isSort  hc2) mi_X7_isSort wd_580 wd_582 ws_12 rfl ⟨by decide, by decide⟩ hl rfl (Nat.le_of_ble_eq_true rfl) dX7_odds_2) (fun H locs hw => ?_)
  refine y_if_eq (tgt := 26) C (a' := zm x2.1) rfl dX7_odds_5 (by decide) (fun hc => ?_) (fun hc => ?_)
  · rw [if_pos hc] at h
    refine y_ldc C (z := (-1000000001)) wd_354 (by decide) dX7_odds_26 ?_
    exact y_iret C hw h dX7_odds_28
  · rw [if_neg hc] at h
    refine y_aload_n C dX7_odds_8 (lv_at hl 0 rfl) ?_
    refine y_iload_n C dX7_odds_9 (lv_at hl 2 rfl) ?_
    refine y_iload C dX7_odds_10 (lv_at hl 5 rfl) ?_
    obtain ⟨x12, hc12, h⟩ := bd_some h
    refine y_ci (rest := []) hw (y_rV C hw kx_0 (by decide) rfl rfl (c_X7_isRung  hc12) mi_X7_isRung wd_554 wd_556 ws_11 rfl ⟨by decide, by decide⟩ hl rfl (Nat.le_of_ble_eq_true rfl) dX7_odds_12) (fun H locs hw => ?_)
    refine y_if_eq (tgt := 26) C (a' := zm x12.1) rfl dX7_odds_15 (by decide) (fun hc => ?_) (fun hc => ?_)
    · rw [if_pos hc] at h
      refine y_ldc C (z := (-1000000001)) wd_354 (by decide) dX7_odds_26 ?_
      exact y_iret C hw h dX7_odds_28
    · rw [if_neg hc] at h
      refine y_aload_n C dX7_odds_18 (lv_at hl 0 rfl) ?_
      refine y_iload_n C dX7_odds_19 (lv_at hl 3 rfl) ?_
      obtain ⟨x20, hc20, h⟩ := bd_some h
      refine y_ci (rest := []) hw (y_rV C hw kx_0 (by decide) rfl rfl (c_X7_isWay  hc20) mi_X7_isWay wd_702 wd_704 ws_19 rfl ⟨by decide, by decide⟩ hl rfl (Nat.le_of_ble_eq_true rfl) dX7_odds_20) (fun H locs hw => ?_)
      refine y_if_ne (tgt := 29) C (a' := zm x20.1) rfl dX7_odds_23 (by decide) (fun hc => ?_) (fun hc => ?_)
      · rw [if_pos hc] at h
        refine y_ldc C (z := (-1000000001)) wd_354 (by decide) dX7_odds_26 ?_
        exact y_iret C hw h dX7_odds_28
      · rw [if_neg hc] at h
        refine y_iload C dX7_odds_29 (lv_at hl 4 rfl) ?_
        refine y_iconst C dX7_odds_31 ?_
        refine y_bipush C dX7_odds_32 (by decide) ?_
        obtain ⟨x34, hc34, h⟩ := bd_some h
        refine y_ci (rest := []) hw (y_rS C hw (c_X7_isOut  hc34) mi_X7_isOut wd_341 wd_342 rfl ⟨by decide, by decide⟩ hl rfl (Nat.le_of_ble_eq_true rfl) dX7_odds_34) (fun H locs hw => ?_)
        refine y_if_ne (tgt := 50) C (a' := zm x34.1) rfl dX7_odds_37 (by decide) (fun hc => ?_) (fun hc => ?_)
        · rw [if_pos hc] at h
          refine y_iload C dX7_odds_40 (lv_at hl 6 rfl) ?_
          refine y_iconst C dX7_odds_42 ?_
          refine y_iconst C dX7_odds_43 ?_
          obtain ⟨x44, hc44, h⟩ := bd_some h
          refine y_ci (rest := []) hw (y_rS C hw (c_X7_isOut  hc44) mi_X7_isOut wd_341 wd_342 rfl ⟨by decide, by decide⟩ hl rfl (Nat.le_of_ble_eq_true rfl) dX7_odds_44) (fun H locs hw => ?_)
          refine y_if_eq (tgt := 53) C (a' := zm x44.1) rfl dX7_odds_47 (by decide) (fun hc => ?_) (fun hc => ?_)
          · rw [if_pos hc] at h
            refine y_aload_n C dX7_odds_53 (lv_at hl 0 rfl) ?_
            refine g7 C hw kx_0 7 (by decide) wd_301 rfl dX7_odds_54 ?_
            refine y_aload_n C dX7_odds_57 (lv_at hl 0 rfl) ?_
            refine y_iload_n C dX7_odds_58 (lv_at hl 1 rfl) ?_
            refine y_iload_n C dX7_odds_59 (lv_at hl 2 rfl) ?_
            refine y_iload_n C dX7_odds_60 (lv_at hl 3 rfl) ?_
            refine y_iload C dX7_odds_61 (lv_at hl 4 rfl) ?_
            obtain ⟨x63, hc63, h⟩ := bd_some h
            refine y_cr (rest := [.ref (ad 9)]) hw (y_rV C hw kx_0 (by decide) rfl rfl (c_X7_wayOf  hc63) mi_X7_wayOf wd_706 wd_708 ws_20 rfl ⟨by decide, by decide⟩ hl rfl (Nat.le_of_ble_eq_true rfl) dX7_odds_63) (fun H locs hw => ?_)
            obtain ⟨hg63, h⟩ := gd_some h
            refine y_iload C dX7_odds_66 (lv_at hl 4 rfl) ?_
            refine y_iload C dX7_odds_68 (lv_at hl 5 rfl) ?_
            obtain ⟨x70, hc70, h⟩ := bd_some h
            refine y_cv (rest := []) hw (y_rV C hw kx_9 (by decide) rfl rfl (c_X1_reckonRung kx_9 hg63 hc70) mi_X1_reckonRung wd_753 wd_715 wd_716 rfl ⟨by decide, by decide⟩ hl rfl (Nat.le_of_ble_eq_true rfl) dX7_odds_70) (fun H locs hw => ?_)
            refine y_aload_n C dX7_odds_73 (lv_at hl 0 rfl) ?_
            refine g7 C hw kx_0 7 (by decide) wd_301 rfl dX7_odds_74 ?_
            refine y_iload C dX7_odds_77 (lv_at hl 5 rfl) ?_
            refine y_iload C dX7_odds_79 (lv_at hl 6 rfl) ?_
            obtain ⟨x81, hc81, h⟩ := bd_some h
            refine y_ci (rest := []) hw (y_rV C hw kx_9 (by decide) rfl rfl (c_X1_oddsOf kx_9 hc81) mi_X1_oddsOf wd_754 wd_745 wd_746 rfl ⟨by decide, by decide⟩ hl rfl (Nat.le_of_ble_eq_true rfl) dX7_odds_81) (fun H locs hw => ?_)
            exact y_iret C hw h dX7_odds_84
          · rw [if_neg hc] at h
            refine y_ldc C (z := (-1000000002)) wd_344 (by decide) dX7_odds_50 ?_
            exact y_iret C hw h dX7_odds_52
        · rw [if_neg hc] at h
          refine y_ldc C (z := (-1000000002)) wd_344 (by decide) dX7_odds_50 ?_
          exact y_iret C hw h dX7_odds_52
theorem c_X7_odds {l : Launch} {D : va_G} {cA : Nat → ClassId} {adK adV : Nat → Nat} {A : Nat → Prop} {ad : Int → Nat} {R : va_W} {σ : St} {res : Int × St} {v1 : Int} {v2 : Int} {v3 : Int} {v4 : Int} {v5 : Int} {v6 : Int}  (h : p_X7_odds v1 v2 v3 v4 v5 v6 σ = some res) : Met l yX7_odds (wsU yX7_odds cX7_odds 7 (some .int)) (rmU 7 171) (va_Pc [.ref (ad 0), .int (zI v1), .int (zI v2), .int (zI v3), .int (zI v4), .int (zI v5), .int (zI v6)] (Pr D cA adK adV ad kX 151 R A σ)) (QI D cA ad kX 151 R A res) 0 0 A :=
  y_met (own := RX7) (by decide) rfl _ (Nat.le_of_ble_eq_true rfl) (fun p e s m args below meth c ls C hl hw => k_X7_odds_0 C  hw hl h)
/-! RungHouse.even -/
set_option maxRecDepth 100000 in
set_option maxHeartbeats 4000000 in
theorem k_X7_even_0  {v1 : Int} {v2 : Int} {v3 : Int} {v4 : Int} {v5 : Int} {v6 : Int} (C : Cx cX7_even RX7 9 (some .int) D cA adK adV A p s m args meth c)  {σ : St} {H : Heap} {locs : List Loc} {ls : Array Slot}  (hw : At D cA ad kX 151 R A s σ H locs) (hl : lv_has ls 9 [(0, .ref (ad 0)), (1, .int (zI v1)), (2, .int (zI v2)), (3, .int (zI v3)), (4, .int (zI v4)), (5, .int (zI v5)), (6, .int (zI v6))]) (h : p_X7_even  v1 v2 v3 v4 v5 v6 σ = some res) : W p l e (rmU 7 171) s m args below meth c H locs 0 0 (MQ below (QI D cA ad kX 151 R A res) args s 0 0 A) (F0 m 0 ls []) := by
  have h := h
  unfold p_X7_even at h
  refine y_aload_n C dX7_even_0 (lv_at hl 0 rfl) ?_
  refine y_iload_n C dX7_even_1 (lv_at hl 1 rfl) ?_
  obtain ⟨x2, hc2, h⟩ := bd_some h
  refine y_ci (rest := []) hw (y_rV C hw kx_0 (by decide) rfl rfl (c_X7_isSort  hc2) mi_X7_isSort wd_580 wd_582 ws_12 rfl ⟨by decide, by decide⟩ hl rfl (Nat.le_of_ble_eq_true rfl) dX7_even_2) (fun H locs hw => ?_)
  refine y_if_eq (tgt := 24) C (a' := zm x2.1) rfl dX7_even_5 (by decide) (fun hc => ?_) (fun hc => ?_)
  · rw [if_pos hc] at h
    refine y_ldc C (z := (-1000000001)) wd_354 (by decide) dX7_even_24 ?_
    exact y_iret C hw h dX7_even_26
  · rw [if_neg hc] at h
    refine y_aload_n C dX7_even_8 (lv_at hl 0 rfl) ?_
    refine y_iload_n C dX7_even_9 (lv_at hl 2 rfl) ?_
    obtain ⟨x10, hc10, h⟩ := bd_some h
    refine y_ci (rest := []) hw (y_rV C hw kx_0 (by decide) rfl rfl (c_X7_isHouse  hc10) mi_X7_isHouse wd_546 wd_548 ws_10 rfl ⟨by decide, by decide⟩ hl rfl (Nat.le_of_ble_eq_true rfl) dX7_even_10) (fun H locs hw => ?_)
    refine y_if_eq (tgt := 24) C (a' := zm x10.1) rfl dX7_even_13 (by decide) (fun hc => ?_) (fun hc => ?_)
    · rw [if_pos hc] at h
      refine y_ldc C (z := (-1000000001)) wd_354 (by decide) dX7_even_24 ?_
      exact y_iret C hw h dX7_even_26
    · rw [if_neg hc] at h
      refine y_aload_n C dX7_even_16 (lv_at hl 0 rfl) ?_
      refine y_iload_n C dX7_even_17 (lv_at hl 3 rfl) ?_
      obtain ⟨x18, hc18, h⟩ := bd_some h
      refine y_ci (rest := []) hw (y_rV C hw kx_0 (by decide) rfl rfl (c_X7_isWay  hc18) mi_X7_isWay wd_702 wd_704 ws_19 rfl ⟨by decide, by decide⟩ hl rfl (Nat.le_of_ble_eq_true rfl) dX7_even_18) (fun H locs hw => ?_)
      refine y_if_ne (tgt := 27) C (a' := zm x18.1) rfl dX7_even_21 (by decide) (fun hc => ?_) (fun hc => ?_)
      · rw [if_pos hc] at h
        refine y_ldc C (z := (-1000000001)) wd_354 (by decide) dX7_even_24 ?_
        exact y_iret C hw h dX7_even_26
      · rw [if_neg hc] at h
        refine y_iload C dX7_even_27 (lv_at hl 4 rfl) ?_
        refine y_iconst C dX7_even_29 ?_
        refine y_bipush C dX7_even_30 (by decide) ?_
        obtain ⟨x32, hc32, h⟩ := bd_some h
        refine y_ci (rest := []) hw (y_rS C hw (c_X7_isOut  hc32) mi_X7_isOut wd_341 wd_342 rfl ⟨by decide, by decide⟩ hl rfl (Nat.le_of_ble_eq_true rfl) dX7_even_32) (fun H locs hw => ?_)
        refine y_if_ne (tgt := 59) C (a' := zm x32.1) rfl dX7_even_35 (by decide) (fun hc => ?_) (fun hc => ?_)
        · rw [if_pos hc] at h
          refine y_iload C dX7_even_38 (lv_at hl 5 rfl) ?_
          refine y_iconst C dX7_even_40 ?_
          refine y_bipush C dX7_even_41 (by decide) ?_
          obtain ⟨x43, hc43, h⟩ := bd_some h
          refine y_ci (rest := []) hw (y_rS C hw (c_X7_isOut  hc43) mi_X7_isOut wd_341 wd_342 rfl ⟨by decide, by decide⟩ hl rfl (Nat.le_of_ble_eq_true rfl) dX7_even_43) (fun H locs hw => ?_)
          refine y_if_ne (tgt := 59) C (a' := zm x43.1) rfl dX7_even_46 (by decide) (fun hc => ?_) (fun hc => ?_)
          · rw [if_pos hc] at h
            refine y_iload C dX7_even_49 (lv_at hl 6 rfl) ?_
            refine y_iconst C dX7_even_51 ?_
            refine y_iconst C dX7_even_52 ?_
            obtain ⟨x53, hc53, h⟩ := bd_some h
            refine y_ci (rest := []) hw (y_rS C hw (c_X7_isOut  hc53) mi_X7_isOut wd_341 wd_342 rfl ⟨by decide, by decide⟩ hl rfl (Nat.le_of_ble_eq_true rfl) dX7_even_53) (fun H locs hw => ?_)
            refine y_if_eq (tgt := 62) C (a' := zm x53.1) rfl dX7_even_56 (by decide) (fun hc => ?_) (fun hc => ?_)
            · rw [if_pos hc] at h
              refine y_aload_n C dX7_even_62 (lv_at hl 0 rfl) ?_
              refine g7 C hw kx_0 7 (by decide) wd_301 rfl dX7_even_63 ?_
              refine y_aload_n C dX7_even_66 (lv_at hl 0 rfl) ?_
              refine y_iload_n C dX7_even_67 (lv_at hl 1 rfl) ?_
              refine y_iload_n C dX7_even_68 (lv_at hl 2 rfl) ?_
              refine y_iload_n C dX7_even_69 (lv_at hl 3 rfl) ?_
              refine y_iload C dX7_even_70 (lv_at hl 4 rfl) ?_
              obtain ⟨x72, hc72, h⟩ := bd_some h
              refine y_cr (rest := [.ref (ad 9)]) hw (y_rV C hw kx_0 (by decide) rfl rfl (c_X7_wayOf  hc72) mi_X7_wayOf wd_706 wd_708 ws_20 rfl ⟨by decide, by decide⟩ hl rfl (Nat.le_of_ble_eq_true rfl) dX7_even_72) (fun H locs hw => ?_)
              obtain ⟨hg72, h⟩ := gd_some h
              refine y_iload C dX7_even_75 (lv_at hl 4 rfl) ?_
              obtain ⟨x77, hc77, h⟩ := bd_some h
              refine y_cv (rest := []) hw (y_rV C hw kx_9 (by decide) rfl rfl (c_X1_reckon kx_9 hg72 hc77) mi_X1_reckon wd_710 wd_711 wd_712 rfl ⟨by decide, by decide⟩ hl rfl (Nat.le_of_ble_eq_true rfl) dX7_even_77) (fun H locs hw => ?_)
              refine y_aload_n C dX7_even_80 (lv_at hl 0 rfl) ?_
              refine g7 C hw kx_0 7 (by decide) wd_301 rfl dX7_even_81 ?_
              refine y_aload_n C dX7_even_84 (lv_at hl 0 rfl) ?_
              refine g7 C hw kx_0 1 (by decide) wd_295 rfl dX7_even_85 ?_
              refine y_iload_n C dX7_even_88 (lv_at hl 2 rfl) ?_
              obtain ⟨hg89, h⟩ := gd_some h
              refine y_aald C hw kx_3 (by decide) rfl rfl (i' := zm v2) rfl hg89 dX7_even_89 ?_
              refine y_iload C dX7_even_90 (lv_at hl 5 rfl) ?_
              obtain ⟨x92, hc92, h⟩ := bd_some h
              refine y_cv (rest := []) hw (y_rV C hw kx_9 (by decide) rfl rfl (c_X1_goTo kx_9 (kr_30 (i := zm v2) hg89) hc92) mi_X1_goTo wd_736 wd_737 wd_738 rfl ⟨by decide, by decide⟩ hl rfl (Nat.le_of_ble_eq_true rfl) dX7_even_92) (fun H locs hw => ?_)
              refine y_aload_n C dX7_even_95 (lv_at hl 0 rfl) ?_
              refine g7 C hw kx_0 7 (by decide) wd_301 rfl dX7_even_96 ?_
              refine y_aload_n C dX7_even_99 (lv_at hl 0 rfl) ?_
              refine g7 C hw kx_0 1 (by decide) wd_295 rfl dX7_even_100 ?_
              refine y_iload_n C dX7_even_103 (lv_at hl 2 rfl) ?_
              refine y_aald C hw kx_3 (by decide) rfl rfl (i' := zm v2) rfl hg89 dX7_even_104 ?_
              obtain ⟨x105, hc105, h⟩ := bd_some h
              refine y_ci (rest := []) hw (y_rV C hw kx_9 (by decide) rfl rfl (c_X1_paid kx_9 (kr_30 (i := zm v2) hg89) hc105) mi_X1_paid wd_759 wd_760 wd_761 rfl ⟨by decide, by decide⟩ hl rfl (Nat.le_of_ble_eq_true rfl) dX7_even_105) (fun H locs hw => ?_)
              refine y_istore (lv' := [(7, .int (zI x105.1)), (0, .ref (ad 0)), (1, .int (zI v1)), (2, .int (zI v2)), (3, .int (zI v3)), (4, .int (zI v4)), (5, .int (zI v5)), (6, .int (zI v6))]) C dX7_even_108 hl (by decide) rfl (fun ls hl => ?_)
              refine y_aload_n C dX7_even_110 (lv_at hl 1 rfl) ?_
              refine g7 C hw kx_0 7 (by decide) wd_301 rfl dX7_even_111 ?_
              obtain ⟨x114, hc114, h⟩ := bd_some h
              refine y_ci (rest := []) hw (y_rV C hw kx_9 (by decide) rfl rfl (c_X1_askedFor kx_9 hc114) mi_X1_askedFor wd_763 wd_764 wd_765 rfl ⟨by decide, by decide⟩ hl rfl (Nat.le_of_ble_eq_true rfl) dX7_even_114) (fun H locs hw => ?_)
              refine y_istore (lv' := [(8, .int (zI x114.1)), (7, .int (zI x105.1)), (0, .ref (ad 0)), (1, .int (zI v1)), (2, .int (zI v2)), (3, .int (zI v3)), (4, .int (zI v4)), (5, .int (zI v5)), (6, .int (zI v6))]) C dX7_even_117 hl (by decide) rfl (fun ls hl => ?_)
              refine y_iload C dX7_even_119 (lv_at hl 8 rfl) ?_
              refine y_if_ne (tgt := 129) C (a' := zm v6) rfl dX7_even_121 (by decide) (fun hc => ?_) (fun hc => ?_)
              · rw [if_pos hc] at h
                refine y_iload C dX7_even_124 (lv_at hl 1 rfl) ?_
                refine y_goto (tgt := 145) C dX7_even_126 (by decide) ?_
                exact y_iret C hw h dX7_even_145
              · rw [if_neg hc] at h
                refine y_iload C dX7_even_129 (lv_at hl 8 rfl) ?_
                refine y_iconst C dX7_even_131 ?_
                refine y_icmp_ne (tgt := 140) C (a' := zm v6) (b' := 1) rfl (by decide) dX7_even_132 (by decide) (fun hc => ?_) (fun hc => ?_)
                · rw [if_pos hc] at h
                  refine y_iload C dX7_even_135 (lv_at hl 0 rfl) ?_
                  refine y_goto (tgt := 145) C dX7_even_137 (by decide) ?_
                  exact y_iret C hw h dX7_even_145
                · rw [if_neg hc] at h
                  refine y_iload C dX7_even_140 (lv_at hl 1 rfl) ?_
                  refine y_iload C dX7_even_142 (lv_at hl 0 rfl) ?_
                  refine y_isub C dX7_even_144 ?_
                  exact y_iret C hw h dX7_even_145
            · rw [if_neg hc] at h
              refine y_ldc C (z := (-1000000002)) wd_344 (by decide) dX7_even_59 ?_
              exact y_iret C hw h dX7_even_61
          · rw [if_neg hc] at h
            refine y_ldc C (z := (-1000000002)) wd_344 (by decide) dX7_even_59 ?_
            exact y_iret C hw h dX7_even_61
        · rw [if_neg hc] at h
          refine y_ldc C (z := (-1000000002)) wd_344 (by decide) dX7_even_59 ?_
          exact y_iret C hw h dX7_even_61
theorem c_X7_even {l : Launch} {D : va_G} {cA : Nat → ClassId} {adK adV : Nat → Nat} {A : Nat → Prop} {ad : Int → Nat} {R : va_W} {σ : St} {res : Int × St} {v1 : Int} {v2 : Int} {v3 : Int} {v4 : Int} {v5 : Int} {v6 : Int}  (h : p_X7_even v1 v2 v3 v4 v5 v6 σ = some res) : Met l yX7_even (wsU yX7_even cX7_even 9 (some .int)) (rmU 7 171) (va_Pc [.ref (ad 0), .int (zI v1), .int (zI v2), .int (zI v3), .int (zI v4), .int (zI v5), .int (zI v6)] (Pr D cA adK adV ad kX 151 R A σ)) (QI D cA ad kX 151 R A res) 0 0 A :=
  y_met (own := RX7) (by decide) rfl _ (Nat.le_of_ble_eq_true rfl) (fun p e s m args below meth c ls C hl hw => k_X7_even_0 C  hw hl h)
/-! RungHouse.year -/
set_option maxRecDepth 100000 in
set_option maxHeartbeats 4000000 in
theorem k_X7_year_0  {v1 : Int} {v2 : Int} (C : Cx cX7_year RX7 3 (some .int) D cA adK adV A p s m args meth c)  {σ : St} {H : Heap} {locs : List Loc} {ls : Array Slot}  (hw : At D cA ad kX 151 R A s σ H locs) (hl : lv_has ls 3 [(0, .ref (ad 0)), (1, .int (zI v1)), (2, .int (zI v2))]) (h : p_X7_year  v1 v2 σ = some res) : W p l e (rmU 1 22) s m args below meth c H locs 0 0 (MQ below (QI D cA ad kX 151 R A res) args s 0 0 A) (F0 m 0 ls []) := by
  have h := h
  unfold p_X7_year at h
  refine y_iload_n C dX7_year_0 (lv_at hl 1 rfl) ?_
  refine y_iconst C dX7_year_1 ?_
  refine y_bipush C dX7_year_2 (by decide) ?_
  obtain ⟨x4, hc4, h⟩ := bd_some h
  refine y_ci (rest := []) hw (y_rS C hw (c_X7_isOut  hc4) mi_X7_isOut wd_341 wd_342 rfl ⟨by decide, by decide⟩ hl rfl (Nat.le_of_ble_eq_true rfl) dX7_year_4) (fun H locs hw => ?_)
  refine y_if_ne (tgt := 19) C (a' := zm x4.1) rfl dX7_year_7 (by decide) (fun hc => ?_) (fun hc => ?_)
  · rw [if_pos hc] at h
    refine y_iload_n C dX7_year_10 (lv_at hl 2 rfl) ?_
    refine y_iconst C dX7_year_11 ?_
    refine y_iconst C dX7_year_12 ?_
    obtain ⟨x13, hc13, h⟩ := bd_some h
    refine y_ci (rest := []) hw (y_rS C hw (c_X7_isOut  hc13) mi_X7_isOut wd_341 wd_342 rfl ⟨by decide, by decide⟩ hl rfl (Nat.le_of_ble_eq_true rfl) dX7_year_13) (fun H locs hw => ?_)
    refine y_if_eq (tgt := 22) C (a' := zm x13.1) rfl dX7_year_16 (by decide) (fun hc => ?_) (fun hc => ?_)
    · rw [if_pos hc] at h
      refine y_aload_n C dX7_year_22 (lv_at hl 0 rfl) ?_
      refine g7 C hw kx_0 9 (by decide) wd_303 rfl dX7_year_23 ?_
      refine g2 C hw kx_16 6 (by decide) wd_155 rfl dX7_year_26 ?_
      refine y_bipush C dX7_year_29 (by decide) ?_
      refine y_icmp_lt (tgt := 37) C (a' := zm (x13.2 16 6)) (b' := 8) rfl (by decide) dX7_year_31 (by decide) (fun hc => ?_) (fun hc => ?_)
      · rw [if_pos hc] at h
        refine y_aload_n C dX7_year_37 (lv_at hl 0 rfl) ?_
        refine g7 C hw kx_0 9 (by decide) wd_303 rfl dX7_year_38 ?_
        refine y_iload_n C dX7_year_41 (lv_at hl 1 rfl) ?_
        refine y_iload_n C dX7_year_42 (lv_at hl 2 rfl) ?_
        obtain ⟨x43, hc43, h⟩ := bd_some h
        refine y_cv (rest := []) hw (y_rV C hw kx_16 (by decide) rfl rfl (c_X2_addYear kx_16 hc43) mi_X2_addYear wd_771 wd_772 wd_773 rfl ⟨by decide, by decide⟩ hl rfl (Nat.le_of_ble_eq_true rfl) dX7_year_43) (fun H locs hw => ?_)
        refine y_aload_n C dX7_year_46 (lv_at hl 0 rfl) ?_
        refine g7 C hw kx_0 9 (by decide) wd_303 rfl dX7_year_47 ?_
        refine g2 C hw kx_16 6 (by decide) wd_155 rfl dX7_year_50 ?_
        exact y_iret C hw h dX7_year_53
      · rw [if_neg hc] at h
        refine y_ldc C (z := (-1000000004)) wd_345 (by decide) dX7_year_34 ?_
        exact y_iret C hw h dX7_year_36
    · rw [if_neg hc] at h
      refine y_ldc C (z := (-1000000002)) wd_344 (by decide) dX7_year_19 ?_
      exact y_iret C hw h dX7_year_21
  · rw [if_neg hc] at h
    refine y_ldc C (z := (-1000000002)) wd_344 (by decide) dX7_year_19 ?_
    exact y_iret C hw h dX7_year_21
theorem c_X7_year {l : Launch} {D : va_G} {cA : Nat → ClassId} {adK adV : Nat → Nat} {A : Nat → Prop} {ad : Int → Nat} {R : va_W} {σ : St} {res : Int × St} {v1 : Int} {v2 : Int}  (h : p_X7_year v1 v2 σ = some res) : Met l yX7_year (wsU yX7_year cX7_year 3 (some .int)) (rmU 1 22) (va_Pc [.ref (ad 0), .int (zI v1), .int (zI v2)] (Pr D cA adK adV ad kX 151 R A σ)) (QI D cA ad kX 151 R A res) 0 0 A :=
  y_met (own := RX7) (by decide) rfl _ (Nat.le_of_ble_eq_true rfl) (fun p e s m args below meth c ls C hl hw => k_X7_year_0 C  hw hl h)
/-! RungHouse.clear -/
set_option maxRecDepth 100000 in
set_option maxHeartbeats 4000000 in
theorem k_X7_clear_0   (C : Cx cX7_clear RX7 2 (some .int) D cA adK adV A p s m args meth c)  {σ : St} {H : Heap} {locs : List Loc} {ls : Array Slot}  (hw : At D cA ad kX 151 R A s σ H locs) (hl : lv_has ls 2 [(0, .ref (ad 0))]) (h : p_X7_clear   σ = some res) : W p l e (rmU 0 0) s m args below meth c H locs 0 0 (MQ below (QI D cA ad kX 151 R A res) args s 0 0 A) (F0 m 0 ls []) := by
  have h := h
  unfold p_X7_clear at h
  refine y_aload_n C dX7_clear_0 (lv_at hl 0 rfl) ?_
  refine g7 C hw kx_0 9 (by decide) wd_303 rfl dX7_clear_1 ?_
  refine g2 C hw kx_16 3 (by decide) wd_149 rfl dX7_clear_4 ?_
  refine y_aload_n C dX7_clear_7 (lv_at hl 0 rfl) ?_
  refine g7 C hw kx_0 9 (by decide) wd_303 rfl dX7_clear_8 ?_
  refine g2 C hw kx_16 6 (by decide) wd_155 rfl dX7_clear_11 ?_
  refine y_iadd C dX7_clear_14 ?_
  refine y_istore_n (lv' := [(1, .int (zI ((σ 16 3) + (σ 16 6)))), (0, .ref (ad 0))]) C dX7_clear_15 hl (by decide) rfl (fun ls hl => ?_)
  refine y_aload_n C dX7_clear_16 (lv_at hl 1 rfl) ?_
  refine g7 C hw kx_0 9 (by decide) wd_303 rfl dX7_clear_17 ?_
  refine y_iconst C dX7_clear_20 ?_
  obtain ⟨σ21, eσ21, h⟩ := nx_some h
  refine q2 C hw kx_16 3 (by decide) wd_149 rfl rfl rfl (by decide) 0 3 rfl rfl dX7_clear_21 (fun H locs hw => ?_)
  rw [← eσ21] at hw
  refine y_aload_n C dX7_clear_24 (lv_at hl 1 rfl) ?_
  refine g7 C hw kx_0 9 (by decide) wd_303 rfl dX7_clear_25 ?_
  refine y_iconst C dX7_clear_28 ?_
  obtain ⟨σ29, eσ29, h⟩ := nx_some h
  refine q2 C hw kx_16 6 (by decide) wd_155 rfl rfl rfl (by decide) 0 6 rfl rfl dX7_clear_29 (fun H locs hw => ?_)
  rw [← eσ29] at hw
  refine y_iload_n C dX7_clear_32 (lv_at hl 0 rfl) ?_
  exact y_iret C hw h dX7_clear_33
theorem c_X7_clear {l : Launch} {D : va_G} {cA : Nat → ClassId} {adK adV : Nat → Nat} {A : Nat → Prop} {ad : Int → Nat} {R : va_W} {σ : St} {res : Int × St}   (h : p_X7_clear  σ = some res) : Met l yX7_clear (wsU yX7_clear cX7_clear 2 (some .int)) (rmU 0 0) (va_Pc [.ref (ad 0)] (Pr D cA adK adV ad kX 151 R A σ)) (QI D cA ad kX 151 R A res) 0 0 A :=
  y_met (own := RX7) (by decide) rfl _ (Nat.le_of_ble_eq_true rfl) (fun p e s m args below meth c ls C hl hw => k_X7_clear_0 C  hw hl h)
/-! RungHouse.weighSorts -/
set_option maxRecDepth 100000 in
set_option maxHeartbeats 4000000 in
theorem k_X7_weighSorts_189 {K27 : Int → Int → Int → St → Option (Int × St)} {v1 : Int} {v2 : Int} {v3 : Int} (C : Cx cX7_weighSorts RX7 7 none D cA adK adV A p s m args meth c) (hK27 : ∀ (v1 : Int) (v2 : Int) (v3 : Int) (σ : St) (H : Heap) (locs : List Loc) (ls : Array Slot) , At D cA ad kX 151 R A s σ H locs → lv_has ls 7 [(0, .ref (ad 0)), (1, .int (zI v1)), (2, .int (zI v2)), (3, .int (zI v3))] → K27 v1 v2 v3 σ = some res → W p l e (rmU 6 147) s m args below meth c H locs 0 0 (MQ below (QV D cA ad kX 151 R A res) args s 0 0 A) (F0 m 27 ls [])) {σ : St} {H : Heap} {locs : List Loc} {ls : Array Slot}  (hw : At D cA ad kX 151 R A s σ H locs) (hl : lv_has ls 7 [(0, .ref (ad 0)), (1, .int (zI v1)), (2, .int (zI v2)), (3, .int (zI v3))]) (h : p_X7_weighSorts_189 K27 v1 v2 v3 σ = some res) : W p l e (rmU 6 147) s m args below meth c H locs 0 0 (MQ below (QV D cA ad kX 151 R A res) args s 0 0 A) (F0 m 189 ls []) := by
  have h := h
  unfold p_X7_weighSorts_189 at h
  refine y_iinc (lv' := [(3, .int (zI (v3 + 1))), (0, .ref (ad 0)), (1, .int (zI v1)), (2, .int (zI v2))]) C dX7_weighSorts_189 hl (k := 3) rfl (by decide) rfl (fun ls hl => ?_)
  refine y_goto (tgt := 27) C dX7_weighSorts_192 (by decide) ?_
  exact hK27 _ _ _ _ _ _ _  hw (lv_sub hl [1, 2, 3, 0] rfl) h
set_option maxRecDepth 100000 in
set_option maxHeartbeats 4000000 in
theorem k_X7_weighSorts_146b {K27 : Int → Int → Int → St → Option (Int × St)} {K146 : Int → Int → Int → Int → Int → St → Option (Int × St)} {v1 : Int} {v2 : Int} {v3 : Int} {v4 : Int} {v6 : Int} (C : Cx cX7_weighSorts RX7 7 none D cA adK adV A p s m args meth c) (hK27 : ∀ (v1 : Int) (v2 : Int) (v3 : Int) (σ : St) (H : Heap) (locs : List Loc) (ls : Array Slot) , At D cA ad kX 151 R A s σ H locs → lv_has ls 7 [(0, .ref (ad 0)), (1, .int (zI v1)), (2, .int (zI v2)), (3, .int (zI v3))] → K27 v1 v2 v3 σ = some res → W p l e (rmU 6 147) s m args below meth c H locs 0 0 (MQ below (QV D cA ad kX 151 R A res) args s 0 0 A) (F0 m 27 ls [])) (hK146 : ∀ (v1 : Int) (v2 : Int) (v3 : Int) (v4 : Int) (v6 : Int) (σ : St) (H : Heap) (locs : List Loc) (ls : Array Slot) , At D cA ad kX 151 R A s σ H locs → lv_has ls 7 [(0, .ref (ad 0)), (1, .int (zI v1)), (2, .int (zI v2)), (3, .int (zI v3)), (4, .long (zJ v4)), (6, .int (zI v6))] → K146 v1 v2 v3 v4 v6 σ = some res → W p l e (rmU 6 147) s m args below meth c H locs 0 0 (MQ below (QV D cA ad kX 151 R A res) args s 0 0 A) (F0 m 146 ls [])) {σ : St} {H : Heap} {locs : List Loc} {ls : Array Slot}  (hw : At D cA ad kX 151 R A s σ H locs) (hl : lv_has ls 7 [(0, .ref (ad 0)), (1, .int (zI v1)), (2, .int (zI v2)), (3, .int (zI v3)), (4, .long (zJ v4)), (6, .int (zI v6))]) (h : p_X7_weighSorts_146b K27 K146 v1 v2 v3 v4 v6 σ = some res) : W p l e (rmU 6 147) s m args below meth c H locs 0 0 (MQ below (QV D cA ad kX 151 R A res) args s 0 0 A) (F0 m 146 ls []) := by
  have h := h
  unfold p_X7_weighSorts_146b at h
  refine y_iload C dX7_weighSorts_146 (lv_at hl 5 rfl) ?_
  refine y_aload_n C dX7_weighSorts_148 (lv_at hl 0 rfl) ?_
  refine g7 C hw kx_0 11 (by decide) wd_305 rfl dX7_weighSorts_149 ?_
  refine y_icmp_ge (tgt := 189) C (a' := zm v6) (b' := zm (σ 0 11)) rfl rfl dX7_weighSorts_152 (by decide) (fun hc => ?_) (fun hc => ?_)
  · rw [if_pos hc] at h
    exact k_X7_weighSorts_189 C hK27  hw (lv_sub hl [0, 1, 2, 3] rfl) h
  · rw [if_neg hc] at h
    refine y_lload C dX7_weighSorts_155 (lv_at hl 4 rfl) ?_
    refine y_lconst C (z' := 0) dX7_weighSorts_157 (by decide) ?_
    refine y_lcmp C dX7_weighSorts_158 ?_
    refine y_if_le (tgt := 189) C (a' := zm (zcmp v4 0)) rfl dX7_weighSorts_159 (by decide) (fun hc => ?_) (fun hc => ?_)
    · rw [if_pos hc] at h
      exact k_X7_weighSorts_189 C hK27  hw (lv_sub hl [0, 1, 2, 3] rfl) h
    · rw [if_neg hc] at h
      refine y_aload_n C dX7_weighSorts_162 (lv_at hl 0 rfl) ?_
      refine g7 C hw kx_0 8 (by decide) wd_302 rfl dX7_weighSorts_163 ?_
      refine y_iload C dX7_weighSorts_166 (lv_at hl 5 rfl) ?_
      refine y_aload_n C dX7_weighSorts_168 (lv_at hl 0 rfl) ?_
      refine g7 C hw kx_0 8 (by decide) wd_302 rfl dX7_weighSorts_169 ?_
      refine y_iload C dX7_weighSorts_172 (lv_at hl 5 rfl) ?_
      obtain ⟨hg174, h⟩ := gd_some h
      refine y_lald C hw kx_15 (i' := zm v6) rfl hg174 dX7_weighSorts_174 ?_
      refine y_ldc2 C (z := 100000) wd_792 (by decide) dX7_weighSorts_175 ?_
      refine y_lmul C dX7_weighSorts_178 ?_
      refine y_lload C dX7_weighSorts_179 (lv_at hl 4 rfl) ?_
      obtain ⟨hg181, h⟩ := gd_some h
      refine y_ldiv C (b' := zl v4) rfl hg181 dX7_weighSorts_181 ?_
      obtain ⟨σ182, eσ182, h⟩ := nx_some h
      refine y_last C hw kx_15 (i' := zm v6) rfl hg174 dX7_weighSorts_182 (fun H locs hw => ?_)
      rw [← eσ182] at hw
      refine y_iinc (lv' := [(6, .int (zI (v6 + 1))), (0, .ref (ad 0)), (1, .int (zI v1)), (2, .int (zI v2)), (3, .int (zI v3)), (4, .long (zJ v4))]) C dX7_weighSorts_183 hl (k := 5) rfl (by decide) rfl (fun ls hl => ?_)
      refine y_goto (tgt := 146) C dX7_weighSorts_186 (by decide) ?_
      exact hK146 _ _ _ _ _ _ _ _ _  hw (lv_sub hl [1, 2, 3, 4, 5, 0] rfl) h
set_option maxRecDepth 100000 in
theorem k_X7_weighSorts_146 {K27 : Int → Int → Int → St → Option (Int × St)} (C : Cx cX7_weighSorts RX7 7 none D cA adK adV A p s m args meth c) (hK27 : ∀ (v1 : Int) (v2 : Int) (v3 : Int) (σ : St) (H : Heap) (locs : List Loc) (ls : Array Slot) , At D cA ad kX 151 R A s σ H locs → lv_has ls 7 [(0, .ref (ad 0)), (1, .int (zI v1)), (2, .int (zI v2)), (3, .int (zI v3))] → K27 v1 v2 v3 σ = some res → W p l e (rmU 6 147) s m args below meth c H locs 0 0 (MQ below (QV D cA ad kX 151 R A res) args s 0 0 A) (F0 m 27 ls [])) : ∀ (n : Nat) (v1 : Int) (v2 : Int) (v3 : Int) (v4 : Int) (v6 : Int) (σ : St) (H : Heap) (locs : List Loc) (ls : Array Slot) , At D cA ad kX 151 R A s σ H locs → lv_has ls 7 [(0, .ref (ad 0)), (1, .int (zI v1)), (2, .int (zI v2)), (3, .int (zI v3)), (4, .long (zJ v4)), (6, .int (zI v6))] → p_X7_weighSorts_146 K27 n v1 v2 v3 v4 v6 σ = some res → W p l e (rmU 6 147) s m args below meth c H locs 0 0 (MQ below (QV D cA ad kX 151 R A res) args s 0 0 A) (F0 m 146 ls []) := by
  intro n
  induction n with
  | zero =>
    intro v1 v2 v3 v4 v6 σ H locs ls  hw hl h
    have h : none = some res := h
    cases h
  | succ n ih =>
    intro v1 v2 v3 v4 v6 σ H locs ls  hw hl h
    exact k_X7_weighSorts_146b C hK27 ih  hw hl h
set_option maxRecDepth 100000 in
set_option maxHeartbeats 4000000 in
theorem k_X7_weighSorts_44b {K27 : Int → Int → Int → St → Option (Int × St)} {K44 : Int → Int → Int → Int → Int → St → Option (Int × St)} {v1 : Int} {v2 : Int} {v3 : Int} {v4 : Int} {v6 : Int} (C : Cx cX7_weighSorts RX7 7 none D cA adK adV A p s m args meth c) (hK27 : ∀ (v1 : Int) (v2 : Int) (v3 : Int) (σ : St) (H : Heap) (locs : List Loc) (ls : Array Slot) , At D cA ad kX 151 R A s σ H locs → lv_has ls 7 [(0, .ref (ad 0)), (1, .int (zI v1)), (2, .int (zI v2)), (3, .int (zI v3))] → K27 v1 v2 v3 σ = some res → W p l e (rmU 6 147) s m args below meth c H locs 0 0 (MQ below (QV D cA ad kX 151 R A res) args s 0 0 A) (F0 m 27 ls [])) (hK44 : ∀ (v1 : Int) (v2 : Int) (v3 : Int) (v4 : Int) (v6 : Int) (σ : St) (H : Heap) (locs : List Loc) (ls : Array Slot) , At D cA ad kX 151 R A s σ H locs → lv_has ls 7 [(0, .ref (ad 0)), (1, .int (zI v1)), (2, .int (zI v2)), (3, .int (zI v3)), (4, .long (zJ v4)), (6, .int (zI v6))] → K44 v1 v2 v3 v4 v6 σ = some res → W p l e (rmU 6 147) s m args below meth c H locs 0 0 (MQ below (QV D cA ad kX 151 R A res) args s 0 0 A) (F0 m 44 ls [])) {σ : St} {H : Heap} {locs : List Loc} {ls : Array Slot}  (hw : At D cA ad kX 151 R A s σ H locs) (hl : lv_has ls 7 [(0, .ref (ad 0)), (1, .int (zI v1)), (2, .int (zI v2)), (3, .int (zI v3)), (4, .long (zJ v4)), (6, .int (zI v6))]) (h : p_X7_weighSorts_44b K27 K44 v1 v2 v3 v4 v6 σ = some res) : W p l e (rmU 6 147) s m args below meth c H locs 0 0 (MQ below (QV D cA ad kX 151 R A res) args s 0 0 A) (F0 m 44 ls []) := by
  have h := h
  unfold p_X7_weighSorts_44b at h
  refine y_iload C dX7_weighSorts_44 (lv_at hl 5 rfl) ?_
  refine y_aload_n C dX7_weighSorts_46 (lv_at hl 0 rfl) ?_
  refine g7 C hw kx_0 11 (by decide) wd_305 rfl dX7_weighSorts_47 ?_
  refine y_icmp_ge (tgt := 143) C (a' := zm v6) (b' := zm (σ 0 11)) rfl rfl dX7_weighSorts_50 (by decide) (fun hc => ?_) (fun hc => ?_)
  · rw [if_pos hc] at h
    refine y_iconst C dX7_weighSorts_143 ?_
    refine y_istore (lv' := [(6, .int (zI 0)), (0, .ref (ad 0)), (1, .int (zI v1)), (2, .int (zI v2)), (3, .int (zI v3)), (4, .long (zJ v4))]) C dX7_weighSorts_144 hl (by decide) rfl (fun ls hl => ?_)
    exact k_X7_weighSorts_146 C hK27 FU _ _ _ _ _ _ _ _ _  hw (lv_sub hl [1, 2, 3, 4, 5, 0] rfl) h
  · rw [if_neg hc] at h
    refine y_aload_n C dX7_weighSorts_53 (lv_at hl 0 rfl) ?_
    refine g7 C hw kx_0 7 (by decide) wd_301 rfl dX7_weighSorts_54 ?_
    refine y_aload_n C dX7_weighSorts_57 (lv_at hl 0 rfl) ?_
    refine y_iload C dX7_weighSorts_58 (lv_at hl 5 rfl) ?_
    refine y_iload_n C dX7_weighSorts_60 (lv_at hl 1 rfl) ?_
    refine y_iload_n C dX7_weighSorts_61 (lv_at hl 2 rfl) ?_
    obtain ⟨x62, hc62, h⟩ := bd_some h
    refine y_cr (rest := [.ref (ad 9)]) hw (y_rV C hw kx_0 (by decide) rfl rfl (c_X7_planOf  hc62) mi_X7_planOf wd_588 wd_590 ws_13 rfl ⟨by decide, by decide⟩ hl rfl (Nat.le_of_ble_eq_true rfl) dX7_weighSorts_62) (fun H locs hw => ?_)
    obtain ⟨hg62, h⟩ := gd_some h
    refine y_iload_n C dX7_weighSorts_65 (lv_at hl 2 rfl) ?_
    refine y_aload_n C dX7_weighSorts_66 (lv_at hl 0 rfl) ?_
    refine g7 C hw kx_0 9 (by decide) wd_303 rfl dX7_weighSorts_67 ?_
    refine g2 C hw kx_16 4 (by decide) wd_151 rfl dX7_weighSorts_70 ?_
    refine y_iload_n C dX7_weighSorts_73 (lv_at hl 3 rfl) ?_
    obtain ⟨hg74, h⟩ := gd_some h
    refine y_iald C hw (ka2_rungs kx_16) (i' := zm v3) rfl hg74 dX7_weighSorts_74 ?_
    obtain ⟨x75, hc75, h⟩ := bd_some h
    refine y_cv (rest := []) hw (y_rV C hw kx_9 (by decide) rfl rfl (c_X1_reckonRung kx_9 hg62 hc75) mi_X1_reckonRung wd_753 wd_715 wd_716 rfl ⟨by decide, by decide⟩ hl rfl (Nat.le_of_ble_eq_true rfl) dX7_weighSorts_75) (fun H locs hw => ?_)
    refine y_aload_n C dX7_weighSorts_78 (lv_at hl 0 rfl) ?_
    refine g7 C hw kx_0 8 (by decide) wd_302 rfl dX7_weighSorts_79 ?_
    refine y_iload C dX7_weighSorts_82 (lv_at hl 5 rfl) ?_
    refine y_aload_n C dX7_weighSorts_84 (lv_at hl 0 rfl) ?_
    refine g7 C hw kx_0 8 (by decide) wd_302 rfl dX7_weighSorts_85 ?_
    refine y_iload C dX7_weighSorts_88 (lv_at hl 5 rfl) ?_
    obtain ⟨hg90, h⟩ := gd_some h
    refine y_lald C hw kx_15 (i' := zm v6) rfl hg90 dX7_weighSorts_90 ?_
    refine y_aload_n C dX7_weighSorts_91 (lv_at hl 0 rfl) ?_
    refine g7 C hw kx_0 7 (by decide) wd_301 rfl dX7_weighSorts_92 ?_
    refine y_aload_n C dX7_weighSorts_95 (lv_at hl 0 rfl) ?_
    refine g7 C hw kx_0 9 (by decide) wd_303 rfl dX7_weighSorts_96 ?_
    refine g2 C hw kx_16 4 (by decide) wd_151 rfl dX7_weighSorts_99 ?_
    refine y_iload_n C dX7_weighSorts_102 (lv_at hl 3 rfl) ?_
    refine y_iald C hw (ka2_rungs kx_16) (i' := zm v3) rfl hg74 dX7_weighSorts_103 ?_
    refine y_aload_n C dX7_weighSorts_104 (lv_at hl 0 rfl) ?_
    refine g7 C hw kx_0 9 (by decide) wd_303 rfl dX7_weighSorts_105 ?_
    refine g2 C hw kx_16 5 (by decide) wd_153 rfl dX7_weighSorts_108 ?_
    refine y_iload_n C dX7_weighSorts_111 (lv_at hl 3 rfl) ?_
    refine y_iald C hw (ka2_askings kx_16) (i' := zm v3) rfl hg74 dX7_weighSorts_112 ?_
    obtain ⟨x113, hc113, h⟩ := bd_some h
    refine y_ci (rest := [.long (zJ (x75.2 15 (zm v6))), .int (zI v6), .ref (ad 15)]) hw (y_rV C hw kx_9 (by decide) rfl rfl (c_X1_oddsOf kx_9 hc113) mi_X1_oddsOf wd_754 wd_745 wd_746 rfl ⟨by decide, by decide⟩ hl rfl (Nat.le_of_ble_eq_true rfl) dX7_weighSorts_113) (fun H locs hw => ?_)
    refine y_i2l C rfl dX7_weighSorts_116 ?_
    refine y_lmul C dX7_weighSorts_117 ?_
    refine y_ldc2 C (z := 1000000) wd_793 (by decide) dX7_weighSorts_118 ?_
    refine y_ldiv C (b' := 1000000) (by decide) (by decide) dX7_weighSorts_121 ?_
    obtain ⟨σ122, eσ122, h⟩ := nx_some h
    refine y_last C hw kx_15 (i' := zm v6) rfl hg90 dX7_weighSorts_122 (fun H locs hw => ?_)
    rw [← eσ122] at hw
    refine y_lload C dX7_weighSorts_123 (lv_at hl 4 rfl) ?_
    refine y_aload_n C dX7_weighSorts_125 (lv_at hl 0 rfl) ?_
    refine g7 C hw kx_0 8 (by decide) wd_302 rfl dX7_weighSorts_126 ?_
    refine y_iload C dX7_weighSorts_129 (lv_at hl 5 rfl) ?_
    refine y_lald C hw kx_15 (i' := zm v6) rfl hg90 dX7_weighSorts_131 ?_
    refine y_maxl C hl wd_794 wd_795 wd_14 wd_796 (by decide) (Nat.le_of_ble_eq_true rfl) dX7_weighSorts_132 ?_
    obtain ⟨z135, ez135, h⟩ := nz_some h
    rw [← ez135]
    refine y_lstore (lv' := [(4, .long (zJ z135)), (0, .ref (ad 0)), (1, .int (zI v1)), (2, .int (zI v2)), (3, .int (zI v3)), (6, .int (zI v6))]) C dX7_weighSorts_135 hl (by decide) rfl (fun ls hl => ?_)
    refine y_iinc (lv' := [(6, .int (zI (v6 + 1))), (4, .long (zJ z135)), (0, .ref (ad 0)), (1, .int (zI v1)), (2, .int (zI v2)), (3, .int (zI v3))]) C dX7_weighSorts_137 hl (k := 5) rfl (by decide) rfl (fun ls hl => ?_)
    refine y_goto (tgt := 44) C dX7_weighSorts_140 (by decide) ?_
    exact hK44 _ _ _ _ _ _ _ _ _  hw (lv_sub hl [2, 3, 4, 5, 1, 0] rfl) h
set_option maxRecDepth 100000 in
theorem k_X7_weighSorts_44 {K27 : Int → Int → Int → St → Option (Int × St)} (C : Cx cX7_weighSorts RX7 7 none D cA adK adV A p s m args meth c) (hK27 : ∀ (v1 : Int) (v2 : Int) (v3 : Int) (σ : St) (H : Heap) (locs : List Loc) (ls : Array Slot) , At D cA ad kX 151 R A s σ H locs → lv_has ls 7 [(0, .ref (ad 0)), (1, .int (zI v1)), (2, .int (zI v2)), (3, .int (zI v3))] → K27 v1 v2 v3 σ = some res → W p l e (rmU 6 147) s m args below meth c H locs 0 0 (MQ below (QV D cA ad kX 151 R A res) args s 0 0 A) (F0 m 27 ls [])) : ∀ (n : Nat) (v1 : Int) (v2 : Int) (v3 : Int) (v4 : Int) (v6 : Int) (σ : St) (H : Heap) (locs : List Loc) (ls : Array Slot) , At D cA ad kX 151 R A s σ H locs → lv_has ls 7 [(0, .ref (ad 0)), (1, .int (zI v1)), (2, .int (zI v2)), (3, .int (zI v3)), (4, .long (zJ v4)), (6, .int (zI v6))] → p_X7_weighSorts_44 K27 n v1 v2 v3 v4 v6 σ = some res → W p l e (rmU 6 147) s m args below meth c H locs 0 0 (MQ below (QV D cA ad kX 151 R A res) args s 0 0 A) (F0 m 44 ls []) := by
  intro n
  induction n with
  | zero =>
    intro v1 v2 v3 v4 v6 σ H locs ls  hw hl h
    have h : none = some res := h
    cases h
  | succ n ih =>
    intro v1 v2 v3 v4 v6 σ H locs ls  hw hl h
    exact k_X7_weighSorts_44b C hK27 ih  hw hl h
set_option maxRecDepth 100000 in
set_option maxHeartbeats 4000000 in
theorem k_X7_weighSorts_27b {K27 : Int → Int → Int → St → Option (Int × St)} {v1 : Int} {v2 : Int} {v3 : Int} (C : Cx cX7_weighSorts RX7 7 none D cA adK adV A p s m args meth c)  (hK27 : ∀ (v1 : Int) (v2 : Int) (v3 : Int) (σ : St) (H : Heap) (locs : List Loc) (ls : Array Slot) , At D cA ad kX 151 R A s σ H locs → lv_has ls 7 [(0, .ref (ad 0)), (1, .int (zI v1)), (2, .int (zI v2)), (3, .int (zI v3))] → K27 v1 v2 v3 σ = some res → W p l e (rmU 6 147) s m args below meth c H locs 0 0 (MQ below (QV D cA ad kX 151 R A res) args s 0 0 A) (F0 m 27 ls [])) {σ : St} {H : Heap} {locs : List Loc} {ls : Array Slot}  (hw : At D cA ad kX 151 R A s σ H locs) (hl : lv_has ls 7 [(0, .ref (ad 0)), (1, .int (zI v1)), (2, .int (zI v2)), (3, .int (zI v3))]) (h : p_X7_weighSorts_27b K27 v1 v2 v3 σ = some res) : W p l e (rmU 6 147) s m args below meth c H locs 0 0 (MQ below (QV D cA ad kX 151 R A res) args s 0 0 A) (F0 m 27 ls []) := by
  have h := h
  unfold p_X7_weighSorts_27b at h
  refine y_iload_n C dX7_weighSorts_27 (lv_at hl 3 rfl) ?_
  refine y_aload_n C dX7_weighSorts_28 (lv_at hl 0 rfl) ?_
  refine g7 C hw kx_0 9 (by decide) wd_303 rfl dX7_weighSorts_29 ?_
  refine g2 C hw kx_16 6 (by decide) wd_155 rfl dX7_weighSorts_32 ?_
  refine y_icmp_ge (tgt := 195) C (a' := zm v3) (b' := zm (σ 16 6)) rfl rfl dX7_weighSorts_35 (by decide) (fun hc => ?_) (fun hc => ?_)
  · rw [if_pos hc] at h
    exact y_vret C hw h dX7_weighSorts_195
  · rw [if_neg hc] at h
    refine y_lconst C (z' := 0) dX7_weighSorts_38 (by decide) ?_
    refine y_lstore (lv' := [(4, .long (zJ 0)), (0, .ref (ad 0)), (1, .int (zI v1)), (2, .int (zI v2)), (3, .int (zI v3))]) C dX7_weighSorts_39 hl (by decide) rfl (fun ls hl => ?_)
    refine y_iconst C dX7_weighSorts_41 ?_
    refine y_istore (lv' := [(6, .int (zI 0)), (4, .long (zJ 0)), (0, .ref (ad 0)), (1, .int (zI v1)), (2, .int (zI v2)), (3, .int (zI v3))]) C dX7_weighSorts_42 hl (by decide) rfl (fun ls hl => ?_)
    exact k_X7_weighSorts_44 C hK27 FU _ _ _ _ _ _ _ _ _  hw (lv_sub hl [2, 3, 4, 5, 1, 0] rfl) h
set_option maxRecDepth 100000 in
theorem k_X7_weighSorts_27  (C : Cx cX7_weighSorts RX7 7 none D cA adK adV A p s m args meth c)  : ∀ (n : Nat) (v1 : Int) (v2 : Int) (v3 : Int) (σ : St) (H : Heap) (locs : List Loc) (ls : Array Slot) , At D cA ad kX 151 R A s σ H locs → lv_has ls 7 [(0, .ref (ad 0)), (1, .int (zI v1)), (2, .int (zI v2)), (3, .int (zI v3))] → p_X7_weighSorts_27  n v1 v2 v3 σ = some res → W p l e (rmU 6 147) s m args below meth c H locs 0 0 (MQ below (QV D cA ad kX 151 R A res) args s 0 0 A) (F0 m 27 ls []) := by
  intro n
  induction n with
  | zero =>
    intro v1 v2 v3 σ H locs ls  hw hl h
    have h : none = some res := h
    cases h
  | succ n ih =>
    intro v1 v2 v3 σ H locs ls  hw hl h
    exact k_X7_weighSorts_27b C  ih  hw hl h
set_option maxRecDepth 100000 in
set_option maxHeartbeats 4000000 in
theorem k_X7_weighSorts_2b {K2 : Int → Int → Int → St → Option (Int × St)} {v1 : Int} {v2 : Int} {v3 : Int} (C : Cx cX7_weighSorts RX7 7 none D cA adK adV A p s m args meth c)  (hK2 : ∀ (v1 : Int) (v2 : Int) (v3 : Int) (σ : St) (H : Heap) (locs : List Loc) (ls : Array Slot) , At D cA ad kX 151 R A s σ H locs → lv_has ls 7 [(0, .ref (ad 0)), (1, .int (zI v1)), (2, .int (zI v2)), (3, .int (zI v3))] → K2 v1 v2 v3 σ = some res → W p l e (rmU 6 147) s m args below meth c H locs 0 0 (MQ below (QV D cA ad kX 151 R A res) args s 0 0 A) (F0 m 2 ls [])) {σ : St} {H : Heap} {locs : List Loc} {ls : Array Slot}  (hw : At D cA ad kX 151 R A s σ H locs) (hl : lv_has ls 7 [(0, .ref (ad 0)), (1, .int (zI v1)), (2, .int (zI v2)), (3, .int (zI v3))]) (h : p_X7_weighSorts_2b K2 v1 v2 v3 σ = some res) : W p l e (rmU 6 147) s m args below meth c H locs 0 0 (MQ below (QV D cA ad kX 151 R A res) args s 0 0 A) (F0 m 2 ls []) := by
  have h := h
  unfold p_X7_weighSorts_2b at h
  refine y_iload_n C dX7_weighSorts_2 (lv_at hl 3 rfl) ?_
  refine y_aload_n C dX7_weighSorts_3 (lv_at hl 0 rfl) ?_
  refine g7 C hw kx_0 11 (by decide) wd_305 rfl dX7_weighSorts_4 ?_
  refine y_icmp_ge (tgt := 25) C (a' := zm v3) (b' := zm (σ 0 11)) rfl rfl dX7_weighSorts_7 (by decide) (fun hc => ?_) (fun hc => ?_)
  · rw [if_pos hc] at h
    refine y_iconst C dX7_weighSorts_25 ?_
    refine y_istore_n (lv' := [(3, .int (zI 0)), (0, .ref (ad 0)), (1, .int (zI v1)), (2, .int (zI v2))]) C dX7_weighSorts_26 hl (by decide) rfl (fun ls hl => ?_)
    exact k_X7_weighSorts_27 C  FU _ _ _ _ _ _ _  hw (lv_sub hl [1, 2, 3, 0] rfl) h
  · rw [if_neg hc] at h
    refine y_aload_n C dX7_weighSorts_10 (lv_at hl 0 rfl) ?_
    refine g7 C hw kx_0 8 (by decide) wd_302 rfl dX7_weighSorts_11 ?_
    refine y_iload_n C dX7_weighSorts_14 (lv_at hl 3 rfl) ?_
    refine y_ldc2 C (z := 100000) wd_792 (by decide) dX7_weighSorts_15 ?_
    obtain ⟨hg18, h⟩ := gd_some h
    obtain ⟨σ18, eσ18, h⟩ := nx_some h
    refine y_last C hw kx_15 (i' := zm v3) rfl hg18 dX7_weighSorts_18 (fun H locs hw => ?_)
    rw [← eσ18] at hw
    refine y_iinc (lv' := [(3, .int (zI (v3 + 1))), (0, .ref (ad 0)), (1, .int (zI v1)), (2, .int (zI v2))]) C dX7_weighSorts_19 hl (k := 3) rfl (by decide) rfl (fun ls hl => ?_)
    refine y_goto (tgt := 2) C dX7_weighSorts_22 (by decide) ?_
    exact hK2 _ _ _ _ _ _ _  hw (lv_sub hl [1, 2, 3, 0] rfl) h
set_option maxRecDepth 100000 in
theorem k_X7_weighSorts_2  (C : Cx cX7_weighSorts RX7 7 none D cA adK adV A p s m args meth c)  : ∀ (n : Nat) (v1 : Int) (v2 : Int) (v3 : Int) (σ : St) (H : Heap) (locs : List Loc) (ls : Array Slot) , At D cA ad kX 151 R A s σ H locs → lv_has ls 7 [(0, .ref (ad 0)), (1, .int (zI v1)), (2, .int (zI v2)), (3, .int (zI v3))] → p_X7_weighSorts_2  n v1 v2 v3 σ = some res → W p l e (rmU 6 147) s m args below meth c H locs 0 0 (MQ below (QV D cA ad kX 151 R A res) args s 0 0 A) (F0 m 2 ls []) := by
  intro n
  induction n with
  | zero =>
    intro v1 v2 v3 σ H locs ls  hw hl h
    have h : none = some res := h
    cases h
  | succ n ih =>
    intro v1 v2 v3 σ H locs ls  hw hl h
    exact k_X7_weighSorts_2b C  ih  hw hl h
set_option maxRecDepth 100000 in
set_option maxHeartbeats 4000000 in
theorem k_X7_weighSorts_0  {v1 : Int} {v2 : Int} (C : Cx cX7_weighSorts RX7 7 none D cA adK adV A p s m args meth c)  {σ : St} {H : Heap} {locs : List Loc} {ls : Array Slot}  (hw : At D cA ad kX 151 R A s σ H locs) (hl : lv_has ls 7 [(0, .ref (ad 0)), (1, .int (zI v1)), (2, .int (zI v2))]) (h : p_X7_weighSorts  v1 v2 σ = some res) : W p l e (rmU 6 147) s m args below meth c H locs 0 0 (MQ below (QV D cA ad kX 151 R A res) args s 0 0 A) (F0 m 0 ls []) := by
  have h := h
  unfold p_X7_weighSorts at h
  refine y_iconst C dX7_weighSorts_0 ?_
  refine y_istore_n (lv' := [(3, .int (zI 0)), (0, .ref (ad 0)), (1, .int (zI v1)), (2, .int (zI v2))]) C dX7_weighSorts_1 hl (by decide) rfl (fun ls hl => ?_)
  exact k_X7_weighSorts_2 C  FU _ _ _ _ _ _ _  hw (lv_sub hl [1, 2, 3, 0] rfl) h
theorem c_X7_weighSorts {l : Launch} {D : va_G} {cA : Nat → ClassId} {adK adV : Nat → Nat} {A : Nat → Prop} {ad : Int → Nat} {R : va_W} {σ : St} {res : Int × St} {v1 : Int} {v2 : Int}  (h : p_X7_weighSorts v1 v2 σ = some res) : Met l yX7_weighSorts (wsU yX7_weighSorts cX7_weighSorts 7 none) (rmU 6 147) (va_Pc [.ref (ad 0), .int (zI v1), .int (zI v2)] (Pr D cA adK adV ad kX 151 R A σ)) (QV D cA ad kX 151 R A res) 0 0 A :=
  y_met (own := RX7) (by decide) rfl _ (Nat.le_of_ble_eq_true rfl) (fun p e s m args below meth c ls C hl hw => k_X7_weighSorts_0 C  hw hl h)
/-! RungHouse.think -/
set_option maxRecDepth 100000 in
set_option maxHeartbeats 4000000 in
theorem k_X7_think_66b {K66 : Int → Int → Int → St → Option (Int × St)} {v1 : Int} {v4 : Int} {v6 : Int} (C : Cx cX7_think RX7 7 (some .int) D cA adK adV A p s m args meth c)  (hK66 : ∀ (v1 : Int) (v4 : Int) (v6 : Int) (σ : St) (H : Heap) (locs : List Loc) (ls : Array Slot) , At D cA ad kX 151 R A s σ H locs → lv_has ls 7 [(0, .ref (ad 0)), (1, .int (zI v1)), (4, .long (zJ v4)), (6, .int (zI v6))] → K66 v1 v4 v6 σ = some res → W p l e (rmU 7 173) s m args below meth c H locs 0 0 (MQ below (QI D cA ad kX 151 R A res) args s 0 0 A) (F0 m 66 ls [])) {σ : St} {H : Heap} {locs : List Loc} {ls : Array Slot}  (hw : At D cA ad kX 151 R A s σ H locs) (hl : lv_has ls 7 [(0, .ref (ad 0)), (1, .int (zI v1)), (4, .long (zJ v4)), (6, .int (zI v6))]) (h : p_X7_think_66b K66 v1 v4 v6 σ = some res) : W p l e (rmU 7 173) s m args below meth c H locs 0 0 (MQ below (QI D cA ad kX 151 R A res) args s 0 0 A) (F0 m 66 ls []) := by
  have h := h
  unfold p_X7_think_66b at h
  refine y_iload C dX7_think_66 (lv_at hl 3 rfl) ?_
  refine y_aload_n C dX7_think_68 (lv_at hl 0 rfl) ?_
  refine g7 C hw kx_0 11 (by decide) wd_305 rfl dX7_think_69 ?_
  refine y_icmp_ge (tgt := 93) C (a' := zm v6) (b' := zm (σ 0 11)) rfl rfl dX7_think_72 (by decide) (fun hc => ?_) (fun hc => ?_)
  · rw [if_pos hc] at h
    refine y_lload C dX7_think_93 (lv_at hl 2 rfl) ?_
    refine y_lconst C (z' := 0) dX7_think_95 (by decide) ?_
    refine y_lcmp C dX7_think_96 ?_
    refine y_if_le (tgt := 117) C (a' := zm (zcmp v4 0)) rfl dX7_think_97 (by decide) (fun hc => ?_) (fun hc => ?_)
    · rw [if_pos hc] at h
      refine y_iconst C dX7_think_117 ?_
      exact y_iret C hw h dX7_think_118
    · rw [if_neg hc] at h
      refine y_ldc2 C (z := 100) wd_797 (by decide) dX7_think_100 ?_
      refine y_aload_n C dX7_think_103 (lv_at hl 0 rfl) ?_
      refine g7 C hw kx_0 8 (by decide) wd_302 rfl dX7_think_104 ?_
      refine y_iload_n C dX7_think_107 (lv_at hl 1 rfl) ?_
      obtain ⟨hg108, h⟩ := gd_some h
      refine y_lald C hw kx_15 (i' := zm v1) rfl hg108 dX7_think_108 ?_
      refine y_lmul C dX7_think_109 ?_
      refine y_lload C dX7_think_110 (lv_at hl 2 rfl) ?_
      obtain ⟨hg112, h⟩ := gd_some h
      refine y_ldiv C (b' := zl v4) rfl hg112 dX7_think_112 ?_
      refine y_l2i C dX7_think_113 ?_
      refine y_goto (tgt := 118) C dX7_think_114 (by decide) ?_
      exact y_iret C hw h dX7_think_118
  · rw [if_neg hc] at h
    refine y_lload C dX7_think_75 (lv_at hl 2 rfl) ?_
    refine y_aload_n C dX7_think_77 (lv_at hl 0 rfl) ?_
    refine g7 C hw kx_0 8 (by decide) wd_302 rfl dX7_think_78 ?_
    refine y_iload C dX7_think_81 (lv_at hl 3 rfl) ?_
    obtain ⟨hg83, h⟩ := gd_some h
    refine y_lald C hw kx_15 (i' := zm v6) rfl hg83 dX7_think_83 ?_
    refine y_ladd C dX7_think_84 ?_
    refine y_lstore (lv' := [(4, .long (zJ (v4 + (σ 15 (zm v6))))), (0, .ref (ad 0)), (1, .int (zI v1)), (6, .int (zI v6))]) C dX7_think_85 hl (by decide) rfl (fun ls hl => ?_)
    refine y_iinc (lv' := [(6, .int (zI (v6 + 1))), (4, .long (zJ (v4 + (σ 15 (zm v6))))), (0, .ref (ad 0)), (1, .int (zI v1))]) C dX7_think_87 hl (k := 3) rfl (by decide) rfl (fun ls hl => ?_)
    refine y_goto (tgt := 66) C dX7_think_90 (by decide) ?_
    exact hK66 _ _ _ _ _ _ _  hw (lv_sub hl [2, 3, 1, 0] rfl) h
set_option maxRecDepth 100000 in
theorem k_X7_think_66  (C : Cx cX7_think RX7 7 (some .int) D cA adK adV A p s m args meth c)  : ∀ (n : Nat) (v1 : Int) (v4 : Int) (v6 : Int) (σ : St) (H : Heap) (locs : List Loc) (ls : Array Slot) , At D cA ad kX 151 R A s σ H locs → lv_has ls 7 [(0, .ref (ad 0)), (1, .int (zI v1)), (4, .long (zJ v4)), (6, .int (zI v6))] → p_X7_think_66  n v1 v4 v6 σ = some res → W p l e (rmU 7 173) s m args below meth c H locs 0 0 (MQ below (QI D cA ad kX 151 R A res) args s 0 0 A) (F0 m 66 ls []) := by
  intro n
  induction n with
  | zero =>
    intro v1 v4 v6 σ H locs ls  hw hl h
    have h : none = some res := h
    cases h
  | succ n ih =>
    intro v1 v4 v6 σ H locs ls  hw hl h
    exact k_X7_think_66b C  ih  hw hl h
set_option maxRecDepth 100000 in
set_option maxHeartbeats 4000000 in
theorem k_X7_think_0  {v1 : Int} {v2 : Int} {v3 : Int} (C : Cx cX7_think RX7 7 (some .int) D cA adK adV A p s m args meth c)  {σ : St} {H : Heap} {locs : List Loc} {ls : Array Slot}  (hw : At D cA ad kX 151 R A s σ H locs) (hl : lv_has ls 7 [(0, .ref (ad 0)), (1, .int (zI v1)), (2, .int (zI v2)), (3, .int (zI v3))]) (h : p_X7_think  v1 v2 v3 σ = some res) : W p l e (rmU 7 173) s m args below meth c H locs 0 0 (MQ below (QI D cA ad kX 151 R A res) args s 0 0 A) (F0 m 0 ls []) := by
  have h := h
  unfold p_X7_think at h
  refine y_aload_n C dX7_think_0 (lv_at hl 0 rfl) ?_
  refine y_iload_n C dX7_think_1 (lv_at hl 1 rfl) ?_
  obtain ⟨x2, hc2, h⟩ := bd_some h
  refine y_ci (rest := []) hw (y_rV C hw kx_0 (by decide) rfl rfl (c_X7_isSort  hc2) mi_X7_isSort wd_580 wd_582 ws_12 rfl ⟨by decide, by decide⟩ hl rfl (Nat.le_of_ble_eq_true rfl) dX7_think_2) (fun H locs hw => ?_)
  refine y_if_eq (tgt := 16) C (a' := zm x2.1) rfl dX7_think_5 (by decide) (fun hc => ?_) (fun hc => ?_)
  · rw [if_pos hc] at h
    refine y_ldc C (z := (-1000000001)) wd_354 (by decide) dX7_think_16 ?_
    exact y_iret C hw h dX7_think_18
  · rw [if_neg hc] at h
    refine y_aload_n C dX7_think_8 (lv_at hl 0 rfl) ?_
    refine y_iload_n C dX7_think_9 (lv_at hl 2 rfl) ?_
    obtain ⟨x10, hc10, h⟩ := bd_some h
    refine y_ci (rest := []) hw (y_rV C hw kx_0 (by decide) rfl rfl (c_X7_isHouse  hc10) mi_X7_isHouse wd_546 wd_548 ws_10 rfl ⟨by decide, by decide⟩ hl rfl (Nat.le_of_ble_eq_true rfl) dX7_think_10) (fun H locs hw => ?_)
    refine y_if_ne (tgt := 19) C (a' := zm x10.1) rfl dX7_think_13 (by decide) (fun hc => ?_) (fun hc => ?_)
    · rw [if_pos hc] at h
      refine y_ldc C (z := (-1000000001)) wd_354 (by decide) dX7_think_16 ?_
      exact y_iret C hw h dX7_think_18
    · rw [if_neg hc] at h
      refine y_iload_n C dX7_think_19 (lv_at hl 3 rfl) ?_
      refine y_iconst C dX7_think_20 ?_
      refine y_bipush C dX7_think_21 (by decide) ?_
      obtain ⟨x23, hc23, h⟩ := bd_some h
      refine y_ci (rest := []) hw (y_rS C hw (c_X7_isOut  hc23) mi_X7_isOut wd_341 wd_342 rfl ⟨by decide, by decide⟩ hl rfl (Nat.le_of_ble_eq_true rfl) dX7_think_23) (fun H locs hw => ?_)
      refine y_if_eq (tgt := 32) C (a' := zm x23.1) rfl dX7_think_26 (by decide) (fun hc => ?_) (fun hc => ?_)
      · rw [if_pos hc] at h
        refine y_aload_n C dX7_think_32 (lv_at hl 0 rfl) ?_
        refine g7 C hw kx_0 9 (by decide) wd_303 rfl dX7_think_33 ?_
        obtain ⟨x36, hc36, h⟩ := bd_some h
        refine y_ci (rest := []) hw (y_rV C hw kx_16 (by decide) rfl rfl (c_X2_highestRung kx_16 hc36) mi_X2_highestRung wd_783 wd_784 wd_785 rfl ⟨by decide, by decide⟩ hl rfl (Nat.le_of_ble_eq_true rfl) dX7_think_36) (fun H locs hw => ?_)
        refine y_aload_n C dX7_think_39 (lv_at hl 0 rfl) ?_
        refine g7 C hw kx_0 1 (by decide) wd_295 rfl dX7_think_40 ?_
        refine y_iload_n C dX7_think_43 (lv_at hl 2 rfl) ?_
        obtain ⟨hg44, h⟩ := gd_some h
        refine y_aald C hw kx_3 (by decide) rfl rfl (i' := zm v2) rfl hg44 dX7_think_44 ?_
        refine g0 C hw (kr_30 (i := zm v2) hg44) 1 (by decide) wd_85 rfl dX7_think_45 ?_
        refine y_icmp_lt (tgt := 54) C (a' := zm x36.1) (b' := zm (x36.2 (23 + 2 * zm v2) 1)) rfl rfl dX7_think_48 (by decide) (fun hc => ?_) (fun hc => ?_)
        · rw [if_pos hc] at h
          refine y_aload_n C dX7_think_54 (lv_at hl 0 rfl) ?_
          refine y_iload_n C dX7_think_55 (lv_at hl 2 rfl) ?_
          refine y_iload_n C dX7_think_56 (lv_at hl 3 rfl) ?_
          obtain ⟨x57, hc57, h⟩ := bd_some h
          refine y_cv (rest := []) hw (y_rV C hw kx_0 (by decide) rfl rfl (c_X7_weighSorts  hc57) mi_X7_weighSorts wd_788 wd_790 ws_23 rfl ⟨by decide, by decide⟩ hl rfl (Nat.le_of_ble_eq_true rfl) dX7_think_57) (fun H locs hw => ?_)
          refine y_lconst C (z' := 0) dX7_think_60 (by decide) ?_
          refine y_lstore (lv' := [(4, .long (zJ 0)), (0, .ref (ad 0)), (1, .int (zI v1)), (2, .int (zI v2)), (3, .int (zI v3))]) C dX7_think_61 hl (by decide) rfl (fun ls hl => ?_)
          refine y_iconst C dX7_think_63 ?_
          refine y_istore (lv' := [(6, .int (zI 0)), (4, .long (zJ 0)), (0, .ref (ad 0)), (1, .int (zI v1)), (2, .int (zI v2)), (3, .int (zI v3))]) C dX7_think_64 hl (by decide) rfl (fun ls hl => ?_)
          exact k_X7_think_66 C  FU _ _ _ _ _ _ _  hw (lv_sub hl [2, 3, 1, 0] rfl) h
        · rw [if_neg hc] at h
          refine y_ldc C (z := (-1000000003)) wd_490 (by decide) dX7_think_51 ?_
          exact y_iret C hw h dX7_think_53
      · rw [if_neg hc] at h
        refine y_ldc C (z := (-1000000002)) wd_344 (by decide) dX7_think_29 ?_
        exact y_iret C hw h dX7_think_31
theorem c_X7_think {l : Launch} {D : va_G} {cA : Nat → ClassId} {adK adV : Nat → Nat} {A : Nat → Prop} {ad : Int → Nat} {R : va_W} {σ : St} {res : Int × St} {v1 : Int} {v2 : Int} {v3 : Int}  (h : p_X7_think v1 v2 v3 σ = some res) : Met l yX7_think (wsU yX7_think cX7_think 7 (some .int)) (rmU 7 173) (va_Pc [.ref (ad 0), .int (zI v1), .int (zI v2), .int (zI v3)] (Pr D cA adK adV ad kX 151 R A σ)) (QI D cA ad kX 151 R A res) 0 0 A :=
  y_met (own := RX7) (by decide) rfl _ (Nat.le_of_ble_eq_true rfl) (fun p e s m args below meth c ls C hl hw => k_X7_think_0 C  hw hl h)
/-! RungHouse.buy -/
set_option maxRecDepth 100000 in
set_option maxHeartbeats 4000000 in
theorem k_X7_buy_0  {v1 : Int} {v2 : Int} {v3 : Int} {v4 : Int} {v5 : Int} {v6 : Int} (C : Cx cX7_buy RX7 9 (some .int) D cA adK adV A p s m args meth c)  {σ : St} {H : Heap} {locs : List Loc} {ls : Array Slot}  (hw : At D cA ad kX 151 R A s σ H locs) (hl : lv_has ls 9 [(0, .ref (ad 0)), (1, .int (zI v1)), (2, .int (zI v2)), (3, .int (zI v3)), (4, .int (zI v4)), (5, .int (zI v5)), (6, .int (zI v6))]) (h : p_X7_buy  v1 v2 v3 v4 v5 v6 σ = some res) : W p l e (rmU 6 147) s m args below meth c H locs 0 0 (MQ below (QI D cA ad kX 151 R A res) args s 0 0 A) (F0 m 0 ls []) := by
  have h := h
  unfold p_X7_buy at h
  refine y_aload_n C dX7_buy_0 (lv_at hl 0 rfl) ?_
  refine y_iload_n C dX7_buy_1 (lv_at hl 1 rfl) ?_
  obtain ⟨x2, hc2, h⟩ := bd_some h
  refine y_ci (rest := []) hw (y_rV C hw kx_0 (by decide) rfl rfl (c_X7_isSort  hc2) mi_X7_isSort wd_580 wd_582 ws_12 rfl ⟨by decide, by decide⟩ hl rfl (Nat.le_of_ble_eq_true rfl) dX7_buy_2) (fun H locs hw => ?_)
  refine y_if_eq (tgt := 18) C (a' := zm x2.1) rfl dX7_buy_5 (by decide) (fun hc => ?_) (fun hc => ?_)
  · rw [if_pos hc] at h
    refine y_ldc C (z := (-1000000001)) wd_354 (by decide) dX7_buy_18 ?_
    exact y_iret C hw h dX7_buy_20
  · rw [if_neg hc] at h
    refine y_aload_n C dX7_buy_8 (lv_at hl 0 rfl) ?_
    refine y_iload_n C dX7_buy_9 (lv_at hl 2 rfl) ?_
    refine y_iload C dX7_buy_10 (lv_at hl 5 rfl) ?_
    obtain ⟨x12, hc12, h⟩ := bd_some h
    refine y_ci (rest := []) hw (y_rV C hw kx_0 (by decide) rfl rfl (c_X7_isRung  hc12) mi_X7_isRung wd_554 wd_556 ws_11 rfl ⟨by decide, by decide⟩ hl rfl (Nat.le_of_ble_eq_true rfl) dX7_buy_12) (fun H locs hw => ?_)
    refine y_if_ne (tgt := 21) C (a' := zm x12.1) rfl dX7_buy_15 (by decide) (fun hc => ?_) (fun hc => ?_)
    · rw [if_pos hc] at h
      refine y_ldc C (z := (-1000000001)) wd_354 (by decide) dX7_buy_18 ?_
      exact y_iret C hw h dX7_buy_20
    · rw [if_neg hc] at h
      refine y_iload_n C dX7_buy_21 (lv_at hl 3 rfl) ?_
      refine y_iload C dX7_buy_22 (lv_at hl 4 rfl) ?_
      obtain ⟨x24, hc24, h⟩ := bd_some h
      refine y_ci (rest := []) hw (y_rS C hw (c_X7_isNoYear  hc24) mi_X7_isNoYear wd_642 wd_643 rfl ⟨by decide, by decide⟩ hl rfl (Nat.le_of_ble_eq_true rfl) dX7_buy_24) (fun H locs hw => ?_)
      refine y_if_ne (tgt := 40) C (a' := zm x24.1) rfl dX7_buy_27 (by decide) (fun hc => ?_) (fun hc => ?_)
      · rw [if_pos hc] at h
        refine y_iload C dX7_buy_30 (lv_at hl 6 rfl) ?_
        refine y_iconst C dX7_buy_32 ?_
        refine y_iconst C dX7_buy_33 ?_
        obtain ⟨x34, hc34, h⟩ := bd_some h
        refine y_ci (rest := []) hw (y_rS C hw (c_X7_isOut  hc34) mi_X7_isOut wd_341 wd_342 rfl ⟨by decide, by decide⟩ hl rfl (Nat.le_of_ble_eq_true rfl) dX7_buy_34) (fun H locs hw => ?_)
        refine y_if_eq (tgt := 43) C (a' := zm x34.1) rfl dX7_buy_37 (by decide) (fun hc => ?_) (fun hc => ?_)
        · rw [if_pos hc] at h
          refine y_aload_n C dX7_buy_43 (lv_at hl 0 rfl) ?_
          refine y_iload_n C dX7_buy_44 (lv_at hl 1 rfl) ?_
          refine y_iload_n C dX7_buy_45 (lv_at hl 2 rfl) ?_
          refine y_iload_n C dX7_buy_46 (lv_at hl 3 rfl) ?_
          obtain ⟨x47, hc47, h⟩ := bd_some h
          refine y_cr (rest := []) hw (y_rV C hw kx_0 (by decide) rfl rfl (c_X7_planOf  hc47) mi_X7_planOf wd_588 wd_590 ws_13 rfl ⟨by decide, by decide⟩ hl rfl (Nat.le_of_ble_eq_true rfl) dX7_buy_47) (fun H locs hw => ?_)
          obtain ⟨hg47, h⟩ := gd_some h
          refine y_astore (lv' := [(7, .ref (ad x47.1)), (0, .ref (ad 0)), (1, .int (zI v1)), (2, .int (zI v2)), (3, .int (zI v3)), (4, .int (zI v4)), (5, .int (zI v5)), (6, .int (zI v6))]) C dX7_buy_50 hl (by decide) rfl (fun ls hl => ?_)
          refine y_iload_n C dX7_buy_52 (lv_at hl 4 rfl) ?_
          refine y_iload C dX7_buy_53 (lv_at hl 5 rfl) ?_
          refine y_isub C dX7_buy_55 ?_
          refine y_iconst C dX7_buy_56 ?_
          refine y_isub C dX7_buy_57 ?_
          refine y_istore (lv' := [(8, .int (zI ((v3 - v4) - 1))), (7, .ref (ad x47.1)), (0, .ref (ad 0)), (1, .int (zI v1)), (2, .int (zI v2)), (3, .int (zI v3)), (4, .int (zI v4)), (5, .int (zI v5)), (6, .int (zI v6))]) C dX7_buy_58 hl (by decide) rfl (fun ls hl => ?_)
          refine y_aload C dX7_buy_60 (lv_at hl 1 rfl) ?_
          refine y_iload C dX7_buy_62 (lv_at hl 0 rfl) ?_
          refine y_aload_n C dX7_buy_64 (lv_at hl 2 rfl) ?_
          refine g7 C hw kx_0 1 (by decide) wd_295 rfl dX7_buy_65 ?_
          refine y_iload_n C dX7_buy_68 (lv_at hl 4 rfl) ?_
          obtain ⟨hg69, h⟩ := gd_some h
          refine y_aald C hw kx_3 (by decide) rfl rfl (i' := zm v2) rfl hg69 dX7_buy_69 ?_
          refine y_iload C dX7_buy_70 (lv_at hl 7 rfl) ?_
          refine y_iload C dX7_buy_72 (lv_at hl 8 rfl) ?_
          obtain ⟨x74, hc74, h⟩ := bd_some h
          refine y_ci (rest := [.int (zI ((v3 - v4) - 1)), .ref (ad x47.1)]) hw (y_rV C hw (kr_30 (i := zm v2) hg69) (by decide) rfl rfl (c_X0_rungAfter (kr_30 (i := zm v2) hg69) hc74) mi_X0_rungAfter wd_562 wd_563 wd_564 rfl ⟨by decide, by decide⟩ hl rfl (Nat.le_of_ble_eq_true rfl) dX7_buy_74) (fun H locs hw => ?_)
          obtain ⟨x77, hc77, h⟩ := bd_some h
          refine y_ci (rest := []) hw (y_rV C hw hg47 (by decide) rfl rfl (c_X3_costWith hg47 hc77) mi_X3_costWith wd_634 wd_635 wd_636 rfl ⟨by decide, by decide⟩ hl rfl (Nat.le_of_ble_eq_true rfl) dX7_buy_77) (fun H locs hw => ?_)
          refine y_aload C dX7_buy_80 (lv_at hl 1 rfl) ?_
          refine y_iload C dX7_buy_82 (lv_at hl 0 rfl) ?_
          refine y_aload_n C dX7_buy_84 (lv_at hl 2 rfl) ?_
          refine g7 C hw kx_0 1 (by decide) wd_295 rfl dX7_buy_85 ?_
          refine y_iload_n C dX7_buy_88 (lv_at hl 4 rfl) ?_
          refine y_aald C hw kx_3 (by decide) rfl rfl (i' := zm v2) rfl hg69 dX7_buy_89 ?_
          refine y_iload C dX7_buy_90 (lv_at hl 7 rfl) ?_
          refine y_iload C dX7_buy_92 (lv_at hl 8 rfl) ?_
          refine y_iconst C dX7_buy_94 ?_
          refine y_isub C dX7_buy_95 ?_
          obtain ⟨x96, hc96, h⟩ := bd_some h
          refine y_ci (rest := [.int (zI ((v3 - v4) - 1)), .ref (ad x47.1), .int (zI x77.1)]) hw (y_rV C hw (kr_30 (i := zm v2) hg69) (by decide) rfl rfl (c_X0_rungAfter (kr_30 (i := zm v2) hg69) hc96) mi_X0_rungAfter wd_562 wd_563 wd_564 rfl ⟨by decide, by decide⟩ hl rfl (Nat.le_of_ble_eq_true rfl) dX7_buy_96) (fun H locs hw => ?_)
          obtain ⟨x99, hc99, h⟩ := bd_some h
          refine y_ci (rest := [.int (zI x77.1)]) hw (y_rV C hw hg47 (by decide) rfl rfl (c_X3_costWith hg47 hc99) mi_X3_costWith wd_634 wd_635 wd_636 rfl ⟨by decide, by decide⟩ hl rfl (Nat.le_of_ble_eq_true rfl) dX7_buy_99) (fun H locs hw => ?_)
          refine y_isub C dX7_buy_102 ?_
          exact y_iret C hw h dX7_buy_103
        · rw [if_neg hc] at h
          refine y_ldc C (z := (-1000000002)) wd_344 (by decide) dX7_buy_40 ?_
          exact y_iret C hw h dX7_buy_42
      · rw [if_neg hc] at h
        refine y_ldc C (z := (-1000000002)) wd_344 (by decide) dX7_buy_40 ?_
        exact y_iret C hw h dX7_buy_42
theorem c_X7_buy {l : Launch} {D : va_G} {cA : Nat → ClassId} {adK adV : Nat → Nat} {A : Nat → Prop} {ad : Int → Nat} {R : va_W} {σ : St} {res : Int × St} {v1 : Int} {v2 : Int} {v3 : Int} {v4 : Int} {v5 : Int} {v6 : Int}  (h : p_X7_buy v1 v2 v3 v4 v5 v6 σ = some res) : Met l yX7_buy (wsU yX7_buy cX7_buy 9 (some .int)) (rmU 6 147) (va_Pc [.ref (ad 0), .int (zI v1), .int (zI v2), .int (zI v3), .int (zI v4), .int (zI v5), .int (zI v6)] (Pr D cA adK adV ad kX 151 R A σ)) (QI D cA ad kX 151 R A res) 0 0 A :=
  y_met (own := RX7) (by decide) rfl _ (Nat.le_of_ble_eq_true rfl) (fun p e s m args below meth c ls C hl hw => k_X7_buy_0 C  hw hl h)
/-! RungHouse.keepRung -/
set_option maxRecDepth 100000 in
set_option maxHeartbeats 4000000 in
theorem k_X7_keepRung_0  {v1 : Int} {v2 : Int} {v3 : Int} {v4 : Int} (C : Cx cX7_keepRung RX7 5 (some .int) D cA adK adV A p s m args meth c)  {σ : St} {H : Heap} {locs : List Loc} {ls : Array Slot}  (hw : At D cA ad kX 151 R A s σ H locs) (hl : lv_has ls 5 [(0, .ref (ad 0)), (1, .int (zI v1)), (2, .int (zI v2)), (3, .int (zI v3)), (4, .int (zI v4))]) (h : p_X7_keepRung  v1 v2 v3 v4 σ = some res) : W p l e (rmU 6 147) s m args below meth c H locs 0 0 (MQ below (QI D cA ad kX 151 R A res) args s 0 0 A) (F0 m 0 ls []) := by
  have h := h
  unfold p_X7_keepRung at h
  refine y_aload_n C dX7_keepRung_0 (lv_at hl 0 rfl) ?_
  refine y_iload_n C dX7_keepRung_1 (lv_at hl 1 rfl) ?_
  obtain ⟨x2, hc2, h⟩ := bd_some h
  refine y_ci (rest := []) hw (y_rV C hw kx_0 (by decide) rfl rfl (c_X7_isSort  hc2) mi_X7_isSort wd_580 wd_582 ws_12 rfl ⟨by decide, by decide⟩ hl rfl (Nat.le_of_ble_eq_true rfl) dX7_keepRung_2) (fun H locs hw => ?_)
  refine y_if_eq (tgt := 18) C (a' := zm x2.1) rfl dX7_keepRung_5 (by decide) (fun hc => ?_) (fun hc => ?_)
  · rw [if_pos hc] at h
    refine y_ldc C (z := (-1000000001)) wd_354 (by decide) dX7_keepRung_18 ?_
    exact y_iret C hw h dX7_keepRung_20
  · rw [if_neg hc] at h
    refine y_aload_n C dX7_keepRung_8 (lv_at hl 0 rfl) ?_
    refine y_iload_n C dX7_keepRung_9 (lv_at hl 2 rfl) ?_
    refine y_iload C dX7_keepRung_10 (lv_at hl 4 rfl) ?_
    obtain ⟨x12, hc12, h⟩ := bd_some h
    refine y_ci (rest := []) hw (y_rV C hw kx_0 (by decide) rfl rfl (c_X7_isRung  hc12) mi_X7_isRung wd_554 wd_556 ws_11 rfl ⟨by decide, by decide⟩ hl rfl (Nat.le_of_ble_eq_true rfl) dX7_keepRung_12) (fun H locs hw => ?_)
    refine y_if_ne (tgt := 21) C (a' := zm x12.1) rfl dX7_keepRung_15 (by decide) (fun hc => ?_) (fun hc => ?_)
    · rw [if_pos hc] at h
      refine y_ldc C (z := (-1000000001)) wd_354 (by decide) dX7_keepRung_18 ?_
      exact y_iret C hw h dX7_keepRung_20
    · rw [if_neg hc] at h
      refine y_iload_n C dX7_keepRung_21 (lv_at hl 3 rfl) ?_
      refine y_iconst C dX7_keepRung_22 ?_
      refine y_bipush C dX7_keepRung_23 (by decide) ?_
      obtain ⟨x25, hc25, h⟩ := bd_some h
      refine y_ci (rest := []) hw (y_rS C hw (c_X7_isOut  hc25) mi_X7_isOut wd_341 wd_342 rfl ⟨by decide, by decide⟩ hl rfl (Nat.le_of_ble_eq_true rfl) dX7_keepRung_25) (fun H locs hw => ?_)
      refine y_if_eq (tgt := 34) C (a' := zm x25.1) rfl dX7_keepRung_28 (by decide) (fun hc => ?_) (fun hc => ?_)
      · rw [if_pos hc] at h
        refine y_aload_n C dX7_keepRung_34 (lv_at hl 0 rfl) ?_
        refine g7 C hw kx_0 1 (by decide) wd_295 rfl dX7_keepRung_35 ?_
        refine y_iload_n C dX7_keepRung_38 (lv_at hl 2 rfl) ?_
        obtain ⟨hg39, h⟩ := gd_some h
        refine y_aald C hw kx_3 (by decide) rfl rfl (i' := zm v2) rfl hg39 dX7_keepRung_39 ?_
        refine y_iload C dX7_keepRung_40 (lv_at hl 4 rfl) ?_
        obtain ⟨x42, hc42, h⟩ := bd_some h
        refine y_ci (rest := []) hw (y_rV C hw (kr_30 (i := zm v2) hg39) (by decide) rfl rfl (c_X0_isKept (kr_30 (i := zm v2) hg39) hc42) mi_X0_isKept wd_806 wd_570 wd_571 rfl ⟨by decide, by decide⟩ hl rfl (Nat.le_of_ble_eq_true rfl) dX7_keepRung_42) (fun H locs hw => ?_)
        refine y_if_eq (tgt := 50) C (a' := zm x42.1) rfl dX7_keepRung_45 (by decide) (fun hc => ?_) (fun hc => ?_)
        · rw [if_pos hc] at h
          refine y_aload_n C dX7_keepRung_50 (lv_at hl 0 rfl) ?_
          refine g7 C hw kx_0 5 (by decide) wd_299 rfl dX7_keepRung_51 ?_
          refine y_aload_n C dX7_keepRung_54 (lv_at hl 0 rfl) ?_
          refine g7 C hw kx_0 1 (by decide) wd_295 rfl dX7_keepRung_55 ?_
          refine y_iload_n C dX7_keepRung_58 (lv_at hl 2 rfl) ?_
          refine y_aald C hw kx_3 (by decide) rfl rfl (i' := zm v2) rfl hg39 dX7_keepRung_59 ?_
          obtain ⟨x60, hc60, h⟩ := bd_some h
          refine y_cv (rest := []) hw (y_rV C hw kx_7 (by decide) rfl rfl (c_X0_copyFrom kx_7 (kr_30 (i := zm v2) hg39) hc60) mi_X0_copyFrom wd_477 wd_478 wd_479 rfl ⟨by decide, by decide⟩ hl rfl (Nat.le_of_ble_eq_true rfl) dX7_keepRung_60) (fun H locs hw => ?_)
          refine y_aload_n C dX7_keepRung_63 (lv_at hl 0 rfl) ?_
          refine g7 C hw kx_0 5 (by decide) wd_299 rfl dX7_keepRung_64 ?_
          refine y_aload_n C dX7_keepRung_67 (lv_at hl 0 rfl) ?_
          refine g7 C hw kx_0 5 (by decide) wd_299 rfl dX7_keepRung_68 ?_
          refine g0 C hw kx_7 2 (by decide) wd_88 rfl dX7_keepRung_71 ?_
          refine y_iconst C dX7_keepRung_74 ?_
          refine y_iload C dX7_keepRung_75 (lv_at hl 4 rfl) ?_
          refine y_ishl C dX7_keepRung_77 ?_
          refine y_ior C dX7_keepRung_78 ?_
          obtain ⟨σ79, eσ79, h⟩ := nx_some h
          refine q0 C hw kx_7 2 (by decide) wd_88 rfl rfl rfl (by decide) (zor (x60.2 7 2) (zshl 1 v4)) 2 rfl rfl dX7_keepRung_79 (fun H locs hw => ?_)
          rw [← eσ79] at hw
          refine y_aload_n C dX7_keepRung_82 (lv_at hl 0 rfl) ?_
          refine g7 C hw kx_0 6 (by decide) wd_300 rfl dX7_keepRung_83 ?_
          refine y_aload_n C dX7_keepRung_86 (lv_at hl 0 rfl) ?_
          refine g7 C hw kx_0 2 (by decide) wd_296 rfl dX7_keepRung_87 ?_
          refine y_iload_n C dX7_keepRung_90 (lv_at hl 1 rfl) ?_
          obtain ⟨hg91, h⟩ := gd_some h
          refine y_aald C hw kx_4 (by decide) rfl rfl (i' := zm v1) rfl hg91 dX7_keepRung_91 ?_
          refine y_aload_n C dX7_keepRung_92 (lv_at hl 0 rfl) ?_
          refine g7 C hw kx_0 5 (by decide) wd_299 rfl dX7_keepRung_93 ?_
          refine y_null (ad := ad) C dX7_keepRung_96 ?_
          obtain ⟨x97, hc97, h⟩ := bd_some h
          refine y_cv (rest := []) hw (y_rV C hw kx_107 (by decide) rfl rfl (c_X3_begin kx_107 (kr_31 (i := zm v1) hg91) kx_7 hc97) mi_X3_begin wd_671 wd_672 wd_673 rfl ⟨by decide, by decide⟩ hl rfl (Nat.le_of_ble_eq_true rfl) dX7_keepRung_97) (fun H locs hw => ?_)
          refine y_aload_n C dX7_keepRung_100 (lv_at hl 0 rfl) ?_
          refine g7 C hw kx_0 6 (by decide) wd_300 rfl dX7_keepRung_101 ?_
          refine y_iload_n C dX7_keepRung_104 (lv_at hl 3 rfl) ?_
          obtain ⟨x105, hc105, h⟩ := bd_some h
          refine y_cv (rest := []) hw (y_rV C hw kx_107 (by decide) rfl rfl (c_X3_know kx_107 hc105) mi_X3_know wd_592 wd_593 wd_594 rfl ⟨by decide, by decide⟩ hl rfl (Nat.le_of_ble_eq_true rfl) dX7_keepRung_105) (fun H locs hw => ?_)
          refine y_aload_n C dX7_keepRung_108 (lv_at hl 0 rfl) ?_
          refine y_iload_n C dX7_keepRung_109 (lv_at hl 1 rfl) ?_
          refine y_iload_n C dX7_keepRung_110 (lv_at hl 2 rfl) ?_
          refine y_iload_n C dX7_keepRung_111 (lv_at hl 3 rfl) ?_
          obtain ⟨x112, hc112, h⟩ := bd_some h
          refine y_cr (rest := []) hw (y_rV C hw kx_0 (by decide) rfl rfl (c_X7_planOf  hc112) mi_X7_planOf wd_588 wd_590 ws_13 rfl ⟨by decide, by decide⟩ hl rfl (Nat.le_of_ble_eq_true rfl) dX7_keepRung_112) (fun H locs hw => ?_)
          obtain ⟨hg112, h⟩ := gd_some h
          refine y_iload_n C dX7_keepRung_115 (lv_at hl 3 rfl) ?_
          refine y_iload C dX7_keepRung_116 (lv_at hl 4 rfl) ?_
          obtain ⟨x118, hc118, h⟩ := bd_some h
          refine y_ci (rest := []) hw (y_rV C hw hg112 (by decide) rfl rfl (c_X3_costWith hg112 hc118) mi_X3_costWith wd_634 wd_635 wd_636 rfl ⟨by decide, by decide⟩ hl rfl (Nat.le_of_ble_eq_true rfl) dX7_keepRung_118) (fun H locs hw => ?_)
          refine y_aload_n C dX7_keepRung_121 (lv_at hl 0 rfl) ?_
          refine g7 C hw kx_0 6 (by decide) wd_300 rfl dX7_keepRung_122 ?_
          refine y_iload_n C dX7_keepRung_125 (lv_at hl 3 rfl) ?_
          refine y_iload C dX7_keepRung_126 (lv_at hl 4 rfl) ?_
          obtain ⟨x128, hc128, h⟩ := bd_some h
          refine y_ci (rest := [.int (zI x118.1)]) hw (y_rV C hw kx_107 (by decide) rfl rfl (c_X3_costWith kx_107 hc128) mi_X3_costWith wd_634 wd_635 wd_636 rfl ⟨by decide, by decide⟩ hl rfl (Nat.le_of_ble_eq_true rfl) dX7_keepRung_128) (fun H locs hw => ?_)
          refine y_isub C dX7_keepRung_131 ?_
          exact y_iret C hw h dX7_keepRung_132
        · rw [if_neg hc] at h
          refine y_iconst C dX7_keepRung_48 ?_
          exact y_iret C hw h dX7_keepRung_49
      · rw [if_neg hc] at h
        refine y_ldc C (z := (-1000000002)) wd_344 (by decide) dX7_keepRung_31 ?_
        exact y_iret C hw h dX7_keepRung_33
theorem c_X7_keepRung {l : Launch} {D : va_G} {cA : Nat → ClassId} {adK adV : Nat → Nat} {A : Nat → Prop} {ad : Int → Nat} {R : va_W} {σ : St} {res : Int × St} {v1 : Int} {v2 : Int} {v3 : Int} {v4 : Int}  (h : p_X7_keepRung v1 v2 v3 v4 σ = some res) : Met l yX7_keepRung (wsU yX7_keepRung cX7_keepRung 5 (some .int)) (rmU 6 147) (va_Pc [.ref (ad 0), .int (zI v1), .int (zI v2), .int (zI v3), .int (zI v4)] (Pr D cA adK adV ad kX 151 R A σ)) (QI D cA ad kX 151 R A res) 0 0 A :=
  y_met (own := RX7) (by decide) rfl _ (Nat.le_of_ble_eq_true rfl) (fun p e s m args below meth c ls C hl hw => k_X7_keepRung_0 C  hw hl h)
/-! RungHouse.leave -/
set_option maxRecDepth 100000 in
set_option maxHeartbeats 4000000 in
theorem k_X7_leave_0  {v1 : Int} {v2 : Int} {v3 : Int} {v4 : Int} (C : Cx cX7_leave RX7 6 (some .int) D cA adK adV A p s m args meth c)  {σ : St} {H : Heap} {locs : List Loc} {ls : Array Slot}  (hw : At D cA ad kX 151 R A s σ H locs) (hl : lv_has ls 6 [(0, .ref (ad 0)), (1, .int (zI v1)), (2, .int (zI v2)), (3, .int (zI v3)), (4, .int (zI v4))]) (h : p_X7_leave  v1 v2 v3 v4 σ = some res) : W p l e (rmU 6 147) s m args below meth c H locs 0 0 (MQ below (QI D cA ad kX 151 R A res) args s 0 0 A) (F0 m 0 ls []) := by
  have h := h
  unfold p_X7_leave at h
  refine y_aload_n C dX7_leave_0 (lv_at hl 0 rfl) ?_
  refine y_iload_n C dX7_leave_1 (lv_at hl 1 rfl) ?_
  obtain ⟨x2, hc2, h⟩ := bd_some h
  refine y_ci (rest := []) hw (y_rV C hw kx_0 (by decide) rfl rfl (c_X7_isSort  hc2) mi_X7_isSort wd_580 wd_582 ws_12 rfl ⟨by decide, by decide⟩ hl rfl (Nat.le_of_ble_eq_true rfl) dX7_leave_2) (fun H locs hw => ?_)
  refine y_if_eq (tgt := 28) C (a' := zm x2.1) rfl dX7_leave_5 (by decide) (fun hc => ?_) (fun hc => ?_)
  · rw [if_pos hc] at h
    refine y_ldc C (z := (-1000000001)) wd_354 (by decide) dX7_leave_28 ?_
    exact y_iret C hw h dX7_leave_30
  · rw [if_neg hc] at h
    refine y_aload_n C dX7_leave_8 (lv_at hl 0 rfl) ?_
    refine y_iload_n C dX7_leave_9 (lv_at hl 2 rfl) ?_
    refine y_iload C dX7_leave_10 (lv_at hl 4 rfl) ?_
    obtain ⟨x12, hc12, h⟩ := bd_some h
    refine y_ci (rest := []) hw (y_rV C hw kx_0 (by decide) rfl rfl (c_X7_isRung  hc12) mi_X7_isRung wd_554 wd_556 ws_11 rfl ⟨by decide, by decide⟩ hl rfl (Nat.le_of_ble_eq_true rfl) dX7_leave_12) (fun H locs hw => ?_)
    refine y_if_eq (tgt := 28) C (a' := zm x12.1) rfl dX7_leave_15 (by decide) (fun hc => ?_) (fun hc => ?_)
    · rw [if_pos hc] at h
      refine y_ldc C (z := (-1000000001)) wd_354 (by decide) dX7_leave_28 ?_
      exact y_iret C hw h dX7_leave_30
    · rw [if_neg hc] at h
      refine y_aload_n C dX7_leave_18 (lv_at hl 0 rfl) ?_
      refine y_iconst C dX7_leave_19 ?_
      refine y_iload_n C dX7_leave_20 (lv_at hl 2 rfl) ?_
      refine y_isub C dX7_leave_21 ?_
      obtain ⟨x22, hc22, h⟩ := bd_some h
      refine y_ci (rest := []) hw (y_rV C hw kx_0 (by decide) rfl rfl (c_X7_isHouse  hc22) mi_X7_isHouse wd_546 wd_548 ws_10 rfl ⟨by decide, by decide⟩ hl rfl (Nat.le_of_ble_eq_true rfl) dX7_leave_22) (fun H locs hw => ?_)
      refine y_if_ne (tgt := 31) C (a' := zm x22.1) rfl dX7_leave_25 (by decide) (fun hc => ?_) (fun hc => ?_)
      · rw [if_pos hc] at h
        refine y_ldc C (z := (-1000000001)) wd_354 (by decide) dX7_leave_28 ?_
        exact y_iret C hw h dX7_leave_30
      · rw [if_neg hc] at h
        refine y_iload_n C dX7_leave_31 (lv_at hl 3 rfl) ?_
        refine y_iconst C dX7_leave_32 ?_
        refine y_bipush C dX7_leave_33 (by decide) ?_
        obtain ⟨x35, hc35, h⟩ := bd_some h
        refine y_ci (rest := []) hw (y_rS C hw (c_X7_isOut  hc35) mi_X7_isOut wd_341 wd_342 rfl ⟨by decide, by decide⟩ hl rfl (Nat.le_of_ble_eq_true rfl) dX7_leave_35) (fun H locs hw => ?_)
        refine y_if_eq (tgt := 44) C (a' := zm x35.1) rfl dX7_leave_38 (by decide) (fun hc => ?_) (fun hc => ?_)
        · rw [if_pos hc] at h
          refine y_iload C dX7_leave_44 (lv_at hl 4 rfl) ?_
          refine y_aload_n C dX7_leave_46 (lv_at hl 0 rfl) ?_
          refine g7 C hw kx_0 1 (by decide) wd_295 rfl dX7_leave_47 ?_
          refine y_iconst C dX7_leave_50 ?_
          refine y_iload_n C dX7_leave_51 (lv_at hl 2 rfl) ?_
          refine y_isub C dX7_leave_52 ?_
          obtain ⟨hg53, h⟩ := gd_some h
          refine y_aald C hw kx_3 (by decide) rfl rfl (i' := zm (1 - v2)) rfl hg53 dX7_leave_53 ?_
          refine g0 C hw (kr_30 (i := zm (1 - v2)) hg53) 6 (by decide) wd_97 rfl dX7_leave_54 ?_
          refine y_min C hl wd_811 wd_567 wd_14 wd_568 (by decide) (Nat.le_of_ble_eq_true rfl) dX7_leave_57 ?_
          obtain ⟨z60, ez60, h⟩ := nz_some h
          rw [← ez60]
          refine y_istore (lv' := [(5, .int (zI z60)), (0, .ref (ad 0)), (1, .int (zI v1)), (2, .int (zI v2)), (3, .int (zI v3)), (4, .int (zI v4))]) C dX7_leave_60 hl (by decide) rfl (fun ls hl => ?_)
          refine y_aload_n C dX7_leave_62 (lv_at hl 1 rfl) ?_
          refine y_iload_n C dX7_leave_63 (lv_at hl 2 rfl) ?_
          refine y_iconst C dX7_leave_64 ?_
          refine y_iload_n C dX7_leave_65 (lv_at hl 3 rfl) ?_
          refine y_isub C dX7_leave_66 ?_
          refine y_iload_n C dX7_leave_67 (lv_at hl 4 rfl) ?_
          obtain ⟨x68, hc68, h⟩ := bd_some h
          refine y_cr (rest := []) hw (y_rV C hw kx_0 (by decide) rfl rfl (c_X7_planOf  hc68) mi_X7_planOf wd_588 wd_590 ws_13 rfl ⟨by decide, by decide⟩ hl rfl (Nat.le_of_ble_eq_true rfl) dX7_leave_68) (fun H locs hw => ?_)
          obtain ⟨hg68, h⟩ := gd_some h
          refine y_iload_n C dX7_leave_71 (lv_at hl 4 rfl) ?_
          refine y_iload C dX7_leave_72 (lv_at hl 0 rfl) ?_
          obtain ⟨x74, hc74, h⟩ := bd_some h
          refine y_ci (rest := []) hw (y_rV C hw hg68 (by decide) rfl rfl (c_X3_costWith hg68 hc74) mi_X3_costWith wd_634 wd_635 wd_636 rfl ⟨by decide, by decide⟩ hl rfl (Nat.le_of_ble_eq_true rfl) dX7_leave_74) (fun H locs hw => ?_)
          refine y_aload_n C dX7_leave_77 (lv_at hl 1 rfl) ?_
          refine y_iload_n C dX7_leave_78 (lv_at hl 2 rfl) ?_
          refine y_iload_n C dX7_leave_79 (lv_at hl 3 rfl) ?_
          refine y_iload_n C dX7_leave_80 (lv_at hl 4 rfl) ?_
          obtain ⟨x81, hc81, h⟩ := bd_some h
          refine y_cr (rest := [.int (zI x74.1)]) hw (y_rV C hw kx_0 (by decide) rfl rfl (c_X7_planOf  hc81) mi_X7_planOf wd_588 wd_590 ws_13 rfl ⟨by decide, by decide⟩ hl rfl (Nat.le_of_ble_eq_true rfl) dX7_leave_81) (fun H locs hw => ?_)
          obtain ⟨hg81, h⟩ := gd_some h
          refine y_iload_n C dX7_leave_84 (lv_at hl 4 rfl) ?_
          refine y_iload C dX7_leave_85 (lv_at hl 5 rfl) ?_
          obtain ⟨x87, hc87, h⟩ := bd_some h
          refine y_ci (rest := [.int (zI x74.1)]) hw (y_rV C hw hg81 (by decide) rfl rfl (c_X3_costWith hg81 hc87) mi_X3_costWith wd_634 wd_635 wd_636 rfl ⟨by decide, by decide⟩ hl rfl (Nat.le_of_ble_eq_true rfl) dX7_leave_87) (fun H locs hw => ?_)
          refine y_icmp_ge (tgt := 97) C (a' := zm x74.1) (b' := zm x87.1) rfl rfl dX7_leave_90 (by decide) (fun hc => ?_) (fun hc => ?_)
          · rw [if_pos hc] at h
            refine y_iconst C dX7_leave_97 ?_
            exact y_iret C hw h dX7_leave_98
          · rw [if_neg hc] at h
            refine y_iconst C dX7_leave_93 ?_
            refine y_goto (tgt := 98) C dX7_leave_94 (by decide) ?_
            exact y_iret C hw h dX7_leave_98
        · rw [if_neg hc] at h
          refine y_ldc C (z := (-1000000002)) wd_344 (by decide) dX7_leave_41 ?_
          exact y_iret C hw h dX7_leave_43
theorem c_X7_leave {l : Launch} {D : va_G} {cA : Nat → ClassId} {adK adV : Nat → Nat} {A : Nat → Prop} {ad : Int → Nat} {R : va_W} {σ : St} {res : Int × St} {v1 : Int} {v2 : Int} {v3 : Int} {v4 : Int}  (h : p_X7_leave v1 v2 v3 v4 σ = some res) : Met l yX7_leave (wsU yX7_leave cX7_leave 6 (some .int)) (rmU 6 147) (va_Pc [.ref (ad 0), .int (zI v1), .int (zI v2), .int (zI v3), .int (zI v4)] (Pr D cA adK adV ad kX 151 R A σ)) (QI D cA ad kX 151 R A res) 0 0 A :=
  y_met (own := RX7) (by decide) rfl _ (Nat.le_of_ble_eq_true rfl) (fun p e s m args below meth c ls C hl hw => k_X7_leave_0 C  hw hl h)
/-! RungHouse.pad -/
set_option maxRecDepth 100000 in
set_option maxHeartbeats 4000000 in
theorem k_X7_pad_0  {v1 : Int} {v2 : Int} {v3 : Int} {v4 : Int} {v5 : Int} {v6 : Int} {v7 : Int} {v8 : Int} {v9 : Int} (C : Cx cX7_pad RX7 15 (some .int) D cA adK adV A p s m args meth c)  {σ : St} {H : Heap} {locs : List Loc} {ls : Array Slot}  (hw : At D cA ad kX 151 R A s σ H locs) (hl : lv_has ls 15 [(0, .ref (ad 0)), (1, .int (zI v1)), (2, .int (zI v2)), (3, .int (zI v3)), (4, .int (zI v4)), (5, .int (zI v5)), (6, .int (zI v6)), (7, .int (zI v7)), (8, .int (zI v8)), (9, .int (zI v9))]) (h : p_X7_pad  v1 v2 v3 v4 v5 v6 v7 v8 v9 σ = some res) : W p l e (rmU 6 147) s m args below meth c H locs 0 0 (MQ below (QI D cA ad kX 151 R A res) args s 0 0 A) (F0 m 0 ls []) := by
  have h := h
  unfold p_X7_pad at h
  refine y_aload_n C dX7_pad_0 (lv_at hl 0 rfl) ?_
  refine y_iload_n C dX7_pad_1 (lv_at hl 1 rfl) ?_
  obtain ⟨x2, hc2, h⟩ := bd_some h
  refine y_ci (rest := []) hw (y_rV C hw kx_0 (by decide) rfl rfl (c_X7_isSort  hc2) mi_X7_isSort wd_580 wd_582 ws_12 rfl ⟨by decide, by decide⟩ hl rfl (Nat.le_of_ble_eq_true rfl) dX7_pad_2) (fun H locs hw => ?_)
  refine y_if_eq (tgt := 18) C (a' := zm x2.1) rfl dX7_pad_5 (by decide) (fun hc => ?_) (fun hc => ?_)
  · rw [if_pos hc] at h
    refine y_ldc C (z := (-1000000001)) wd_354 (by decide) dX7_pad_18 ?_
    exact y_iret C hw h dX7_pad_20
  · rw [if_neg hc] at h
    refine y_aload_n C dX7_pad_8 (lv_at hl 0 rfl) ?_
    refine y_iload_n C dX7_pad_9 (lv_at hl 2 rfl) ?_
    refine y_iload C dX7_pad_10 (lv_at hl 4 rfl) ?_
    obtain ⟨x12, hc12, h⟩ := bd_some h
    refine y_ci (rest := []) hw (y_rV C hw kx_0 (by decide) rfl rfl (c_X7_isRung  hc12) mi_X7_isRung wd_554 wd_556 ws_11 rfl ⟨by decide, by decide⟩ hl rfl (Nat.le_of_ble_eq_true rfl) dX7_pad_12) (fun H locs hw => ?_)
    refine y_if_ne (tgt := 21) C (a' := zm x12.1) rfl dX7_pad_15 (by decide) (fun hc => ?_) (fun hc => ?_)
    · rw [if_pos hc] at h
      refine y_ldc C (z := (-1000000001)) wd_354 (by decide) dX7_pad_18 ?_
      exact y_iret C hw h dX7_pad_20
    · rw [if_neg hc] at h
      refine y_iload_n C dX7_pad_21 (lv_at hl 3 rfl) ?_
      refine y_iconst C dX7_pad_22 ?_
      refine y_bipush C dX7_pad_23 (by decide) ?_
      obtain ⟨x25, hc25, h⟩ := bd_some h
      refine y_ci (rest := []) hw (y_rS C hw (c_X7_isOut  hc25) mi_X7_isOut wd_341 wd_342 rfl ⟨by decide, by decide⟩ hl rfl (Nat.le_of_ble_eq_true rfl) dX7_pad_25) (fun H locs hw => ?_)
      refine y_if_ne (tgt := 52) C (a' := zm x25.1) rfl dX7_pad_28 (by decide) (fun hc => ?_) (fun hc => ?_)
      · rw [if_pos hc] at h
        refine y_iload C dX7_pad_31 (lv_at hl 5 rfl) ?_
        refine y_iconst C dX7_pad_33 ?_
        refine y_bipush C dX7_pad_34 (by decide) ?_
        obtain ⟨x36, hc36, h⟩ := bd_some h
        refine y_ci (rest := []) hw (y_rS C hw (c_X7_isOut  hc36) mi_X7_isOut wd_341 wd_342 rfl ⟨by decide, by decide⟩ hl rfl (Nat.le_of_ble_eq_true rfl) dX7_pad_36) (fun H locs hw => ?_)
        refine y_if_ne (tgt := 52) C (a' := zm x36.1) rfl dX7_pad_39 (by decide) (fun hc => ?_) (fun hc => ?_)
        · rw [if_pos hc] at h
          refine y_iload C dX7_pad_42 (lv_at hl 6 rfl) ?_
          refine y_iconst C dX7_pad_44 ?_
          refine y_iconst C dX7_pad_45 ?_
          obtain ⟨x46, hc46, h⟩ := bd_some h
          refine y_ci (rest := []) hw (y_rS C hw (c_X7_isOut  hc46) mi_X7_isOut wd_341 wd_342 rfl ⟨by decide, by decide⟩ hl rfl (Nat.le_of_ble_eq_true rfl) dX7_pad_46) (fun H locs hw => ?_)
          refine y_if_eq (tgt := 55) C (a' := zm x46.1) rfl dX7_pad_49 (by decide) (fun hc => ?_) (fun hc => ?_)
          · rw [if_pos hc] at h
            refine y_iload C dX7_pad_55 (lv_at hl 7 rfl) ?_
            refine y_iconst C dX7_pad_57 ?_
            refine y_sipush C dX7_pad_58 (by decide) ?_
            obtain ⟨x61, hc61, h⟩ := bd_some h
            refine y_ci (rest := []) hw (y_rS C hw (c_X7_isOut  hc61) mi_X7_isOut wd_341 wd_342 rfl ⟨by decide, by decide⟩ hl rfl (Nat.le_of_ble_eq_true rfl) dX7_pad_61) (fun H locs hw => ?_)
            refine y_if_ne (tgt := 90) C (a' := zm x61.1) rfl dX7_pad_64 (by decide) (fun hc => ?_) (fun hc => ?_)
            · rw [if_pos hc] at h
              refine y_iload C dX7_pad_67 (lv_at hl 8 rfl) ?_
              refine y_iconst C dX7_pad_69 ?_
              refine y_sipush C dX7_pad_70 (by decide) ?_
              obtain ⟨x73, hc73, h⟩ := bd_some h
              refine y_ci (rest := []) hw (y_rS C hw (c_X7_isOut  hc73) mi_X7_isOut wd_341 wd_342 rfl ⟨by decide, by decide⟩ hl rfl (Nat.le_of_ble_eq_true rfl) dX7_pad_73) (fun H locs hw => ?_)
              refine y_if_ne (tgt := 90) C (a' := zm x73.1) rfl dX7_pad_76 (by decide) (fun hc => ?_) (fun hc => ?_)
              · rw [if_pos hc] at h
                refine y_iload C dX7_pad_79 (lv_at hl 9 rfl) ?_
                refine y_iconst C dX7_pad_81 ?_
                refine y_bipush C dX7_pad_82 (by decide) ?_
                obtain ⟨x84, hc84, h⟩ := bd_some h
                refine y_ci (rest := []) hw (y_rS C hw (c_X7_isOut  hc84) mi_X7_isOut wd_341 wd_342 rfl ⟨by decide, by decide⟩ hl rfl (Nat.le_of_ble_eq_true rfl) dX7_pad_84) (fun H locs hw => ?_)
                refine y_if_eq (tgt := 93) C (a' := zm x84.1) rfl dX7_pad_87 (by decide) (fun hc => ?_) (fun hc => ?_)
                · rw [if_pos hc] at h
                  refine y_aload_n C dX7_pad_93 (lv_at hl 0 rfl) ?_
                  refine y_iload_n C dX7_pad_94 (lv_at hl 1 rfl) ?_
                  refine y_iload_n C dX7_pad_95 (lv_at hl 2 rfl) ?_
                  refine y_iload_n C dX7_pad_96 (lv_at hl 3 rfl) ?_
                  obtain ⟨x97, hc97, h⟩ := bd_some h
                  refine y_cr (rest := []) hw (y_rV C hw kx_0 (by decide) rfl rfl (c_X7_planOf  hc97) mi_X7_planOf wd_588 wd_590 ws_13 rfl ⟨by decide, by decide⟩ hl rfl (Nat.le_of_ble_eq_true rfl) dX7_pad_97) (fun H locs hw => ?_)
                  obtain ⟨hg97, h⟩ := gd_some h
                  refine y_astore (lv' := [(10, .ref (ad x97.1)), (0, .ref (ad 0)), (1, .int (zI v1)), (2, .int (zI v2)), (3, .int (zI v3)), (4, .int (zI v4)), (5, .int (zI v5)), (6, .int (zI v6)), (7, .int (zI v7)), (8, .int (zI v8)), (9, .int (zI v9))]) C dX7_pad_100 hl (by decide) rfl (fun ls hl => ?_)
                  refine y_aload C dX7_pad_102 (lv_at hl 0 rfl) ?_
                  refine y_iload_n C dX7_pad_104 (lv_at hl 4 rfl) ?_
                  refine y_iload C dX7_pad_105 (lv_at hl 5 rfl) ?_
                  refine y_iconst C dX7_pad_107 ?_
                  obtain ⟨x108, hc108, h⟩ := bd_some h
                  refine y_cv (rest := []) hw (y_rV C hw hg97 (by decide) rfl rfl (c_X3_openYear hg97 hc108) mi_X3_openYear wd_645 wd_601 wd_602 rfl ⟨by decide, by decide⟩ hl rfl (Nat.le_of_ble_eq_true rfl) dX7_pad_108) (fun H locs hw => ?_)
                  refine y_aload_n C dX7_pad_111 (lv_at hl 1 rfl) ?_
                  refine g7 C hw kx_0 1 (by decide) wd_295 rfl dX7_pad_112 ?_
                  refine y_iload_n C dX7_pad_115 (lv_at hl 3 rfl) ?_
                  obtain ⟨hg116, h⟩ := gd_some h
                  refine y_aald C hw kx_3 (by decide) rfl rfl (i' := zm v2) rfl hg116 dX7_pad_116 ?_
                  refine y_iload C dX7_pad_117 (lv_at hl 8 rfl) ?_
                  obtain ⟨x119, hc119, h⟩ := bd_some h
                  refine y_ci (rest := []) hw (y_rV C hw (kr_30 (i := zm v2) hg116) (by decide) rfl rfl (c_X0_bears (kr_30 (i := zm v2) hg116) hc119) mi_X0_bears wd_816 wd_613 wd_614 rfl ⟨by decide, by decide⟩ hl rfl (Nat.le_of_ble_eq_true rfl) dX7_pad_119) (fun H locs hw => ?_)
                  refine y_sipush C dX7_pad_122 (by decide) ?_
                  refine y_imul C dX7_pad_125 ?_
                  refine y_aload C dX7_pad_126 (lv_at hl 0 rfl) ?_
                  refine y_iload C dX7_pad_128 (lv_at hl 6 rfl) ?_
                  refine y_iconst C dX7_pad_130 ?_
                  refine y_iadd C dX7_pad_131 ?_
                  refine y_iload C dX7_pad_132 (lv_at hl 7 rfl) ?_
                  obtain ⟨x134, hc134, h⟩ := bd_some h
                  refine y_ci (rest := [.int (zI (v5 + 1)), .ref (ad x97.1), .int (zI (x119.1 * 1000))]) hw (y_rS C hw (c_X7_oneMore  hc134) mi_X7_oneMore wd_695 wd_696 rfl ⟨by decide, by decide⟩ hl rfl (Nat.le_of_ble_eq_true rfl) dX7_pad_134) (fun H locs hw => ?_)
                  obtain ⟨x137, hc137, h⟩ := bd_some h
                  refine y_ci (rest := [.int (zI (x119.1 * 1000))]) hw (y_rV C hw hg97 (by decide) rfl rfl (c_X3_inside hg97 hc137) mi_X3_inside wd_646 wd_630 wd_631 rfl ⟨by decide, by decide⟩ hl rfl (Nat.le_of_ble_eq_true rfl) dX7_pad_137) (fun H locs hw => ?_)
                  refine y_iadd C dX7_pad_140 ?_
                  refine y_i2l C rfl dX7_pad_141 ?_
                  refine y_lstore (lv' := [(11, .long (zJ (zm ((x119.1 * 1000) + x137.1)))), (10, .ref (ad x97.1)), (0, .ref (ad 0)), (1, .int (zI v1)), (2, .int (zI v2)), (3, .int (zI v3)), (4, .int (zI v4)), (5, .int (zI v5)), (6, .int (zI v6)), (7, .int (zI v7)), (8, .int (zI v8)), (9, .int (zI v9))]) C dX7_pad_142 hl (by decide) rfl (fun ls hl => ?_)
                  refine y_iload C dX7_pad_144 (lv_at hl 9 rfl) ?_
                  refine y_sipush C dX7_pad_146 (by decide) ?_
                  refine y_imul C dX7_pad_149 ?_
                  refine y_aload C dX7_pad_150 (lv_at hl 1 rfl) ?_
                  refine y_iload C dX7_pad_152 (lv_at hl 7 rfl) ?_
                  refine y_iconst C dX7_pad_154 ?_
                  refine y_iadd C dX7_pad_155 ?_
                  refine y_iconst C dX7_pad_156 ?_
                  obtain ⟨x157, hc157, h⟩ := bd_some h
                  refine y_ci (rest := [.int (zI (v7 * 1000))]) hw (y_rV C hw hg97 (by decide) rfl rfl (c_X3_inside hg97 hc157) mi_X3_inside wd_646 wd_630 wd_631 rfl ⟨by decide, by decide⟩ hl rfl (Nat.le_of_ble_eq_true rfl) dX7_pad_157) (fun H locs hw => ?_)
                  refine y_iadd C dX7_pad_160 ?_
                  refine y_i2l C rfl dX7_pad_161 ?_
                  refine y_lstore (lv' := [(13, .long (zJ (zm ((v7 * 1000) + x157.1)))), (11, .long (zJ (zm ((x119.1 * 1000) + x137.1)))), (10, .ref (ad x97.1)), (0, .ref (ad 0)), (1, .int (zI v1)), (2, .int (zI v2)), (3, .int (zI v3)), (4, .int (zI v4)), (5, .int (zI v5)), (6, .int (zI v6)), (7, .int (zI v7)), (8, .int (zI v8)), (9, .int (zI v9))]) C dX7_pad_162 hl (by decide) rfl (fun ls hl => ?_)
                  refine y_ldc2 C (z := 100) wd_797 (by decide) dX7_pad_164 ?_
                  refine y_iload C dX7_pad_167 (lv_at hl 12 rfl) ?_
                  refine y_i2l C rfl dX7_pad_169 ?_
                  refine y_lsub C dX7_pad_170 ?_
                  refine y_iload C dX7_pad_171 (lv_at hl 11 rfl) ?_
                  refine y_i2l C rfl dX7_pad_173 ?_
                  refine y_lmul C dX7_pad_174 ?_
                  refine y_ldc2 C (z := 1000) wd_817 (by decide) dX7_pad_175 ?_
                  refine y_lmul C dX7_pad_178 ?_
                  refine y_iload C dX7_pad_179 (lv_at hl 12 rfl) ?_
                  refine y_i2l C rfl dX7_pad_181 ?_
                  refine y_lload C dX7_pad_182 (lv_at hl 0 rfl) ?_
                  refine y_lload C dX7_pad_184 (lv_at hl 1 rfl) ?_
                  refine y_lsub C dX7_pad_186 ?_
                  refine y_lmul C dX7_pad_187 ?_
                  refine y_lsub C dX7_pad_188 ?_
                  refine y_ldc2 C (z := 100) wd_797 (by decide) dX7_pad_189 ?_
                  refine y_ldiv C (b' := 100) (by decide) (by decide) dX7_pad_192 ?_
                  refine y_l2i C dX7_pad_193 ?_
                  exact y_iret C hw h dX7_pad_194
                · rw [if_neg hc] at h
                  refine y_ldc C (z := (-1000000002)) wd_344 (by decide) dX7_pad_90 ?_
                  exact y_iret C hw h dX7_pad_92
              · rw [if_neg hc] at h
                refine y_ldc C (z := (-1000000002)) wd_344 (by decide) dX7_pad_90 ?_
                exact y_iret C hw h dX7_pad_92
            · rw [if_neg hc] at h
              refine y_ldc C (z := (-1000000002)) wd_344 (by decide) dX7_pad_90 ?_
              exact y_iret C hw h dX7_pad_92
          · rw [if_neg hc] at h
            refine y_ldc C (z := (-1000000002)) wd_344 (by decide) dX7_pad_52 ?_
            exact y_iret C hw h dX7_pad_54
        · rw [if_neg hc] at h
          refine y_ldc C (z := (-1000000002)) wd_344 (by decide) dX7_pad_52 ?_
          exact y_iret C hw h dX7_pad_54
      · rw [if_neg hc] at h
        refine y_ldc C (z := (-1000000002)) wd_344 (by decide) dX7_pad_52 ?_
        exact y_iret C hw h dX7_pad_54
theorem c_X7_pad {l : Launch} {D : va_G} {cA : Nat → ClassId} {adK adV : Nat → Nat} {A : Nat → Prop} {ad : Int → Nat} {R : va_W} {σ : St} {res : Int × St} {v1 : Int} {v2 : Int} {v3 : Int} {v4 : Int} {v5 : Int} {v6 : Int} {v7 : Int} {v8 : Int} {v9 : Int}  (h : p_X7_pad v1 v2 v3 v4 v5 v6 v7 v8 v9 σ = some res) : Met l yX7_pad (wsU yX7_pad cX7_pad 15 (some .int)) (rmU 6 147) (va_Pc [.ref (ad 0), .int (zI v1), .int (zI v2), .int (zI v3), .int (zI v4), .int (zI v5), .int (zI v6), .int (zI v7), .int (zI v8), .int (zI v9)] (Pr D cA adK adV ad kX 151 R A σ)) (QI D cA ad kX 151 R A res) 0 0 A :=
  y_met (own := RX7) (by decide) rfl _ (Nat.le_of_ble_eq_true rfl) (fun p e s m args below meth c ls C hl hw => k_X7_pad_0 C  hw hl h)
/-! RungHouse.painedTrial -/
set_option maxRecDepth 100000 in
set_option maxHeartbeats 4000000 in
theorem k_X7_painedTrial_125 {K5 : Int → Int → Int → Int → St → Option (Int × St)} {K94 : Int → Int → Int → Int → Int → St → Option (Int × St)} {v1 : Int} {v2 : Int} {v4 : Int} {v5 : Int} {vs0 : Int} {vs1 : Int} (C : Cx cX7_painedTrial RX7 6 (some .int) D cA adK adV A p s m args meth c) (hK5 : ∀ (v1 : Int) (v2 : Int) (v3 : Int) (v4 : Int) (σ : St) (H : Heap) (locs : List Loc) (ls : Array Slot) , At D cA ad kX 151 R A s σ H locs → lv_has ls 6 [(0, .ref (ad 0)), (1, .int (zI v1)), (2, .int (zI v2)), (3, .int (zI v3)), (4, .int (zI v4))] → K5 v1 v2 v3 v4 σ = some res → W p l e (rmU 5 123) s m args below meth c H locs 0 0 (MQ below (QI D cA ad kX 151 R A res) args s 0 0 A) (F0 m 5 ls [])) (hK94 : ∀ (v1 : Int) (v2 : Int) (v3 : Int) (v4 : Int) (v5 : Int) (σ : St) (H : Heap) (locs : List Loc) (ls : Array Slot) , At D cA ad kX 151 R A s σ H locs → lv_has ls 6 [(0, .ref (ad 0)), (1, .int (zI v1)), (2, .int (zI v2)), (3, .int (zI v3)), (4, .int (zI v4)), (5, .int (zI v5))] → K94 v1 v2 v3 v4 v5 σ = some res → W p l e (rmU 5 123) s m args below meth c H locs 0 0 (MQ below (QI D cA ad kX 151 R A res) args s 0 0 A) (F0 m 94 ls [])) {σ : St} {H : Heap} {locs : List Loc} {ls : Array Slot}  (hw : At D cA ad kX 151 R A s σ H locs) (hl : lv_has ls 6 [(0, .ref (ad 0)), (1, .int (zI v1)), (2, .int (zI v2)), (4, .int (zI v4)), (5, .int (zI v5))]) (h : p_X7_painedTrial_125 K5 K94 v1 v2 v4 v5 vs0 vs1 σ = some res) : W p l e (rmU 5 123) s m args below meth c H locs 0 0 (MQ below (QI D cA ad kX 151 R A res) args s 0 0 A) (F0 m 125 ls [.int (zI vs1), .int (zI vs0)]) := by
  have h := h
  unfold p_X7_painedTrial_125 at h
  refine y_iadd C dX7_painedTrial_125 ?_
  refine y_istore_n (lv' := [(3, .int (zI (vs0 + vs1))), (0, .ref (ad 0)), (1, .int (zI v1)), (2, .int (zI v2)), (4, .int (zI v4)), (5, .int (zI v5))]) C dX7_painedTrial_126 hl (by decide) rfl (fun ls hl => ?_)
  refine y_iinc (lv' := [(5, .int (zI (v5 + 1))), (3, .int (zI (vs0 + vs1))), (0, .ref (ad 0)), (1, .int (zI v1)), (2, .int (zI v2)), (4, .int (zI v4))]) C dX7_painedTrial_127 hl (k := 5) rfl (by decide) rfl (fun ls hl => ?_)
  refine y_goto (tgt := 94) C dX7_painedTrial_130 (by decide) ?_
  exact hK94 _ _ _ _ _ _ _ _ _  hw (lv_sub hl [2, 3, 4, 1, 5, 0] rfl) h
set_option maxRecDepth 100000 in
set_option maxHeartbeats 4000000 in
theorem k_X7_painedTrial_94b {K5 : Int → Int → Int → Int → St → Option (Int × St)} {K94 : Int → Int → Int → Int → Int → St → Option (Int × St)} {v1 : Int} {v2 : Int} {v3 : Int} {v4 : Int} {v5 : Int} (C : Cx cX7_painedTrial RX7 6 (some .int) D cA adK adV A p s m args meth c) (hK5 : ∀ (v1 : Int) (v2 : Int) (v3 : Int) (v4 : Int) (σ : St) (H : Heap) (locs : List Loc) (ls : Array Slot) , At D cA ad kX 151 R A s σ H locs → lv_has ls 6 [(0, .ref (ad 0)), (1, .int (zI v1)), (2, .int (zI v2)), (3, .int (zI v3)), (4, .int (zI v4))] → K5 v1 v2 v3 v4 σ = some res → W p l e (rmU 5 123) s m args below meth c H locs 0 0 (MQ below (QI D cA ad kX 151 R A res) args s 0 0 A) (F0 m 5 ls [])) (hK94 : ∀ (v1 : Int) (v2 : Int) (v3 : Int) (v4 : Int) (v5 : Int) (σ : St) (H : Heap) (locs : List Loc) (ls : Array Slot) , At D cA ad kX 151 R A s σ H locs → lv_has ls 6 [(0, .ref (ad 0)), (1, .int (zI v1)), (2, .int (zI v2)), (3, .int (zI v3)), (4, .int (zI v4)), (5, .int (zI v5))] → K94 v1 v2 v3 v4 v5 σ = some res → W p l e (rmU 5 123) s m args below meth c H locs 0 0 (MQ below (QI D cA ad kX 151 R A res) args s 0 0 A) (F0 m 94 ls [])) {σ : St} {H : Heap} {locs : List Loc} {ls : Array Slot}  (hw : At D cA ad kX 151 R A s σ H locs) (hl : lv_has ls 6 [(0, .ref (ad 0)), (1, .int (zI v1)), (2, .int (zI v2)), (3, .int (zI v3)), (4, .int (zI v4)), (5, .int (zI v5))]) (h : p_X7_painedTrial_94b K5 K94 v1 v2 v3 v4 v5 σ = some res) : W p l e (rmU 5 123) s m args below meth c H locs 0 0 (MQ below (QI D cA ad kX 151 R A res) args s 0 0 A) (F0 m 94 ls []) := by
  have h := h
  unfold p_X7_painedTrial_94b at h
  refine y_iload C dX7_painedTrial_94 (lv_at hl 5 rfl) ?_
  refine y_aload_n C dX7_painedTrial_96 (lv_at hl 0 rfl) ?_
  refine g7 C hw kx_0 5 (by decide) wd_299 rfl dX7_painedTrial_97 ?_
  refine g0 C hw kx_7 1 (by decide) wd_85 rfl dX7_painedTrial_100 ?_
  refine y_icmp_ge (tgt := 133) C (a' := zm v5) (b' := zm (σ 7 1)) rfl rfl dX7_painedTrial_103 (by decide) (fun hc => ?_) (fun hc => ?_)
  · rw [if_pos hc] at h
    refine y_iinc (lv' := [(4, .int (zI (v4 + 1))), (0, .ref (ad 0)), (1, .int (zI v1)), (2, .int (zI v2)), (3, .int (zI v3)), (5, .int (zI v5))]) C dX7_painedTrial_133 hl (k := 4) rfl (by decide) rfl (fun ls hl => ?_)
    refine y_goto (tgt := 5) C dX7_painedTrial_136 (by decide) ?_
    exact hK5 _ _ _ _ _ _ _ _  hw (lv_sub hl [1, 2, 3, 4, 0] rfl) h
  · rw [if_neg hc] at h
    refine y_iload_n C dX7_painedTrial_106 (lv_at hl 3 rfl) ?_
    refine y_aload_n C dX7_painedTrial_107 (lv_at hl 0 rfl) ?_
    refine g7 C hw kx_0 6 (by decide) wd_300 rfl dX7_painedTrial_108 ?_
    refine y_iload_n C dX7_painedTrial_111 (lv_at hl 1 rfl) ?_
    refine y_iload C dX7_painedTrial_112 (lv_at hl 5 rfl) ?_
    obtain ⟨x114, hc114, h⟩ := bd_some h
    refine y_ci (rest := [.int (zI v3)]) hw (y_rV C hw kx_107 (by decide) rfl rfl (c_X3_isPained kx_107 hc114) mi_X3_isPained wd_651 wd_652 wd_653 rfl ⟨by decide, by decide⟩ hl rfl (Nat.le_of_ble_eq_true rfl) dX7_painedTrial_114) (fun H locs hw => ?_)
    refine y_if_eq (tgt := 124) C (a' := zm x114.1) rfl dX7_painedTrial_117 (by decide) (fun hc => ?_) (fun hc => ?_)
    · rw [if_pos hc] at h
      refine y_iconst C dX7_painedTrial_124 ?_
      exact k_X7_painedTrial_125 C hK5 hK94  hw (lv_sub hl [0, 1, 2, 4, 5] rfl) h
    · rw [if_neg hc] at h
      refine y_iconst C dX7_painedTrial_120 ?_
      refine y_goto (tgt := 125) C dX7_painedTrial_121 (by decide) ?_
      exact k_X7_painedTrial_125 C hK5 hK94  hw (lv_sub hl [0, 1, 2, 4, 5] rfl) h
set_option maxRecDepth 100000 in
theorem k_X7_painedTrial_94 {K5 : Int → Int → Int → Int → St → Option (Int × St)} (C : Cx cX7_painedTrial RX7 6 (some .int) D cA adK adV A p s m args meth c) (hK5 : ∀ (v1 : Int) (v2 : Int) (v3 : Int) (v4 : Int) (σ : St) (H : Heap) (locs : List Loc) (ls : Array Slot) , At D cA ad kX 151 R A s σ H locs → lv_has ls 6 [(0, .ref (ad 0)), (1, .int (zI v1)), (2, .int (zI v2)), (3, .int (zI v3)), (4, .int (zI v4))] → K5 v1 v2 v3 v4 σ = some res → W p l e (rmU 5 123) s m args below meth c H locs 0 0 (MQ below (QI D cA ad kX 151 R A res) args s 0 0 A) (F0 m 5 ls [])) : ∀ (n : Nat) (v1 : Int) (v2 : Int) (v3 : Int) (v4 : Int) (v5 : Int) (σ : St) (H : Heap) (locs : List Loc) (ls : Array Slot) , At D cA ad kX 151 R A s σ H locs → lv_has ls 6 [(0, .ref (ad 0)), (1, .int (zI v1)), (2, .int (zI v2)), (3, .int (zI v3)), (4, .int (zI v4)), (5, .int (zI v5))] → p_X7_painedTrial_94 K5 n v1 v2 v3 v4 v5 σ = some res → W p l e (rmU 5 123) s m args below meth c H locs 0 0 (MQ below (QI D cA ad kX 151 R A res) args s 0 0 A) (F0 m 94 ls []) := by
  intro n
  induction n with
  | zero =>
    intro v1 v2 v3 v4 v5 σ H locs ls  hw hl h
    have h : none = some res := h
    cases h
  | succ n ih =>
    intro v1 v2 v3 v4 v5 σ H locs ls  hw hl h
    exact k_X7_painedTrial_94b C hK5 ih  hw hl h
set_option maxRecDepth 100000 in
set_option maxHeartbeats 4000000 in
theorem k_X7_painedTrial_5b {K5 : Int → Int → Int → Int → St → Option (Int × St)} {v1 : Int} {v2 : Int} {v3 : Int} {v4 : Int} (C : Cx cX7_painedTrial RX7 6 (some .int) D cA adK adV A p s m args meth c)  (hK5 : ∀ (v1 : Int) (v2 : Int) (v3 : Int) (v4 : Int) (σ : St) (H : Heap) (locs : List Loc) (ls : Array Slot) , At D cA ad kX 151 R A s σ H locs → lv_has ls 6 [(0, .ref (ad 0)), (1, .int (zI v1)), (2, .int (zI v2)), (3, .int (zI v3)), (4, .int (zI v4))] → K5 v1 v2 v3 v4 σ = some res → W p l e (rmU 5 123) s m args below meth c H locs 0 0 (MQ below (QI D cA ad kX 151 R A res) args s 0 0 A) (F0 m 5 ls [])) {σ : St} {H : Heap} {locs : List Loc} {ls : Array Slot}  (hw : At D cA ad kX 151 R A s σ H locs) (hl : lv_has ls 6 [(0, .ref (ad 0)), (1, .int (zI v1)), (2, .int (zI v2)), (3, .int (zI v3)), (4, .int (zI v4))]) (h : p_X7_painedTrial_5b K5 v1 v2 v3 v4 σ = some res) : W p l e (rmU 5 123) s m args below meth c H locs 0 0 (MQ below (QI D cA ad kX 151 R A res) args s 0 0 A) (F0 m 5 ls []) := by
  have h := h
  unfold p_X7_painedTrial_5b at h
  refine y_iload C dX7_painedTrial_5 (lv_at hl 4 rfl) ?_
  refine y_aload_n C dX7_painedTrial_7 (lv_at hl 0 rfl) ?_
  refine g7 C hw kx_0 11 (by decide) wd_305 rfl dX7_painedTrial_8 ?_
  refine y_icmp_ge (tgt := 139) C (a' := zm v4) (b' := zm (σ 0 11)) rfl rfl dX7_painedTrial_11 (by decide) (fun hc => ?_) (fun hc => ?_)
  · rw [if_pos hc] at h
    refine y_iload_n C dX7_painedTrial_139 (lv_at hl 3 rfl) ?_
    exact y_iret C hw h dX7_painedTrial_140
  · rw [if_neg hc] at h
    refine y_aload_n C dX7_painedTrial_14 (lv_at hl 0 rfl) ?_
    refine g7 C hw kx_0 6 (by decide) wd_300 rfl dX7_painedTrial_15 ?_
    refine y_aload_n C dX7_painedTrial_18 (lv_at hl 0 rfl) ?_
    refine g7 C hw kx_0 2 (by decide) wd_296 rfl dX7_painedTrial_19 ?_
    refine y_iload C dX7_painedTrial_22 (lv_at hl 4 rfl) ?_
    obtain ⟨hg24, h⟩ := gd_some h
    refine y_aald C hw kx_4 (by decide) rfl rfl (i' := zm v4) rfl hg24 dX7_painedTrial_24 ?_
    refine y_aload_n C dX7_painedTrial_25 (lv_at hl 0 rfl) ?_
    refine g7 C hw kx_0 5 (by decide) wd_299 rfl dX7_painedTrial_26 ?_
    refine y_null (ad := ad) C dX7_painedTrial_29 ?_
    obtain ⟨x30, hc30, h⟩ := bd_some h
    refine y_cv (rest := []) hw (y_rV C hw kx_107 (by decide) rfl rfl (c_X3_begin kx_107 (kr_31 (i := zm v4) hg24) kx_7 hc30) mi_X3_begin wd_671 wd_672 wd_673 rfl ⟨by decide, by decide⟩ hl rfl (Nat.le_of_ble_eq_true rfl) dX7_painedTrial_30) (fun H locs hw => ?_)
    refine y_aload_n C dX7_painedTrial_33 (lv_at hl 0 rfl) ?_
    refine g7 C hw kx_0 6 (by decide) wd_300 rfl dX7_painedTrial_34 ?_
    refine y_iload_n C dX7_painedTrial_37 (lv_at hl 1 rfl) ?_
    obtain ⟨x38, hc38, h⟩ := bd_some h
    refine y_cv (rest := []) hw (y_rV C hw kx_107 (by decide) rfl rfl (c_X3_know kx_107 hc38) mi_X3_know wd_592 wd_593 wd_594 rfl ⟨by decide, by decide⟩ hl rfl (Nat.le_of_ble_eq_true rfl) dX7_painedTrial_38) (fun H locs hw => ?_)
    refine y_aload_n C dX7_painedTrial_41 (lv_at hl 0 rfl) ?_
    refine g7 C hw kx_0 7 (by decide) wd_301 rfl dX7_painedTrial_42 ?_
    refine y_aload_n C dX7_painedTrial_45 (lv_at hl 0 rfl) ?_
    refine g7 C hw kx_0 6 (by decide) wd_300 rfl dX7_painedTrial_46 ?_
    refine y_iload_n C dX7_painedTrial_49 (lv_at hl 1 rfl) ?_
    obtain ⟨x50, hc50, h⟩ := bd_some h
    refine y_cv (rest := []) hw (y_rV C hw kx_9 (by decide) rfl rfl (c_X1_reckon kx_9 kx_107 hc50) mi_X1_reckon wd_710 wd_711 wd_712 rfl ⟨by decide, by decide⟩ hl rfl (Nat.le_of_ble_eq_true rfl) dX7_painedTrial_50) (fun H locs hw => ?_)
    refine y_aload_n C dX7_painedTrial_53 (lv_at hl 0 rfl) ?_
    refine g7 C hw kx_0 7 (by decide) wd_301 rfl dX7_painedTrial_54 ?_
    refine y_aload_n C dX7_painedTrial_57 (lv_at hl 0 rfl) ?_
    refine g7 C hw kx_0 5 (by decide) wd_299 rfl dX7_painedTrial_58 ?_
    refine y_bipush C dX7_painedTrial_61 (by decide) ?_
    obtain ⟨x63, hc63, h⟩ := bd_some h
    refine y_cv (rest := []) hw (y_rV C hw kx_9 (by decide) rfl rfl (c_X1_goTo kx_9 kx_7 hc63) mi_X1_goTo wd_736 wd_737 wd_738 rfl ⟨by decide, by decide⟩ hl rfl (Nat.le_of_ble_eq_true rfl) dX7_painedTrial_63) (fun H locs hw => ?_)
    refine y_aload_n C dX7_painedTrial_66 (lv_at hl 0 rfl) ?_
    refine g7 C hw kx_0 7 (by decide) wd_301 rfl dX7_painedTrial_67 ?_
    refine y_aload_n C dX7_painedTrial_70 (lv_at hl 0 rfl) ?_
    refine g7 C hw kx_0 5 (by decide) wd_299 rfl dX7_painedTrial_71 ?_
    obtain ⟨x74, hc74, h⟩ := bd_some h
    refine y_ci (rest := []) hw (y_rV C hw kx_9 (by decide) rfl rfl (c_X1_paid kx_9 kx_7 hc74) mi_X1_paid wd_759 wd_760 wd_761 rfl ⟨by decide, by decide⟩ hl rfl (Nat.le_of_ble_eq_true rfl) dX7_painedTrial_74) (fun H locs hw => ?_)
    refine y_aload_n C dX7_painedTrial_77 (lv_at hl 0 rfl) ?_
    refine g7 C hw kx_0 7 (by decide) wd_301 rfl dX7_painedTrial_78 ?_
    obtain ⟨x81, hc81, h⟩ := bd_some h
    refine y_ci (rest := [.int (zI x74.1)]) hw (y_rV C hw kx_9 (by decide) rfl rfl (c_X1_askedFor kx_9 hc81) mi_X1_askedFor wd_763 wd_764 wd_765 rfl ⟨by decide, by decide⟩ hl rfl (Nat.le_of_ble_eq_true rfl) dX7_painedTrial_81) (fun H locs hw => ?_)
    refine y_isub C dX7_painedTrial_84 ?_
    refine y_iload_n C dX7_painedTrial_85 (lv_at hl 2 rfl) ?_
    refine y_icmp_ge (tgt := 91) C (a' := zm (x74.1 - x81.1)) (b' := zm v2) rfl rfl dX7_painedTrial_86 (by decide) (fun hc => ?_) (fun hc => ?_)
    · rw [if_pos hc] at h
      refine y_iconst C dX7_painedTrial_91 ?_
      refine y_istore (lv' := [(5, .int (zI 0)), (0, .ref (ad 0)), (1, .int (zI v1)), (2, .int (zI v2)), (3, .int (zI v3)), (4, .int (zI v4))]) C dX7_painedTrial_92 hl (by decide) rfl (fun ls hl => ?_)
      exact k_X7_painedTrial_94 C hK5 FU _ _ _ _ _ _ _ _ _  hw (lv_sub hl [1, 2, 3, 4, 5, 0] rfl) h
    · rw [if_neg hc] at h
      refine y_iconst C dX7_painedTrial_89 ?_
      exact y_iret C hw h dX7_painedTrial_90
set_option maxRecDepth 100000 in
theorem k_X7_painedTrial_5  (C : Cx cX7_painedTrial RX7 6 (some .int) D cA adK adV A p s m args meth c)  : ∀ (n : Nat) (v1 : Int) (v2 : Int) (v3 : Int) (v4 : Int) (σ : St) (H : Heap) (locs : List Loc) (ls : Array Slot) , At D cA ad kX 151 R A s σ H locs → lv_has ls 6 [(0, .ref (ad 0)), (1, .int (zI v1)), (2, .int (zI v2)), (3, .int (zI v3)), (4, .int (zI v4))] → p_X7_painedTrial_5  n v1 v2 v3 v4 σ = some res → W p l e (rmU 5 123) s m args below meth c H locs 0 0 (MQ below (QI D cA ad kX 151 R A res) args s 0 0 A) (F0 m 5 ls []) := by
  intro n
  induction n with
  | zero =>
    intro v1 v2 v3 v4 σ H locs ls  hw hl h
    have h : none = some res := h
    cases h
  | succ n ih =>
    intro v1 v2 v3 v4 σ H locs ls  hw hl h
    exact k_X7_painedTrial_5b C  ih  hw hl h
set_option maxRecDepth 100000 in
set_option maxHeartbeats 4000000 in
theorem k_X7_painedTrial_0  {v1 : Int} {v2 : Int} (C : Cx cX7_painedTrial RX7 6 (some .int) D cA adK adV A p s m args meth c)  {σ : St} {H : Heap} {locs : List Loc} {ls : Array Slot}  (hw : At D cA ad kX 151 R A s σ H locs) (hl : lv_has ls 6 [(0, .ref (ad 0)), (1, .int (zI v1)), (2, .int (zI v2))]) (h : p_X7_painedTrial  v1 v2 σ = some res) : W p l e (rmU 5 123) s m args below meth c H locs 0 0 (MQ below (QI D cA ad kX 151 R A res) args s 0 0 A) (F0 m 0 ls []) := by
  have h := h
  unfold p_X7_painedTrial at h
  refine y_iconst C dX7_painedTrial_0 ?_
  refine y_istore_n (lv' := [(3, .int (zI 0)), (0, .ref (ad 0)), (1, .int (zI v1)), (2, .int (zI v2))]) C dX7_painedTrial_1 hl (by decide) rfl (fun ls hl => ?_)
  refine y_iconst C dX7_painedTrial_2 ?_
  refine y_istore (lv' := [(4, .int (zI 0)), (3, .int (zI 0)), (0, .ref (ad 0)), (1, .int (zI v1)), (2, .int (zI v2))]) C dX7_painedTrial_3 hl (by decide) rfl (fun ls hl => ?_)
  exact k_X7_painedTrial_5 C  FU _ _ _ _ _ _ _ _  hw (lv_sub hl [2, 3, 4, 1, 0] rfl) h
theorem c_X7_painedTrial {l : Launch} {D : va_G} {cA : Nat → ClassId} {adK adV : Nat → Nat} {A : Nat → Prop} {ad : Int → Nat} {R : va_W} {σ : St} {res : Int × St} {v1 : Int} {v2 : Int}  (h : p_X7_painedTrial v1 v2 σ = some res) : Met l yX7_painedTrial (wsU yX7_painedTrial cX7_painedTrial 6 (some .int)) (rmU 5 123) (va_Pc [.ref (ad 0), .int (zI v1), .int (zI v2)] (Pr D cA adK adV ad kX 151 R A σ)) (QI D cA ad kX 151 R A res) 0 0 A :=
  y_met (own := RX7) (by decide) rfl _ (Nat.le_of_ble_eq_true rfl) (fun p e s m args below meth c ls C hl hw => k_X7_painedTrial_0 C  hw hl h)
/-! RungHouse.setting -/
set_option maxRecDepth 100000 in
set_option maxHeartbeats 4000000 in
theorem k_X7_setting_162 {K59 : Int → Int → Int → Int → Int → St → Option (Int × St)} {v2 : Int} {v3 : Int} {v4 : Int} {v5 : Int} {v6 : Int} (C : Cx cX7_setting RX7 8 (some .int) D cA adK adV A p s m args meth c) (hK59 : ∀ (v2 : Int) (v3 : Int) (v4 : Int) (v5 : Int) (v6 : Int) (σ : St) (H : Heap) (locs : List Loc) (ls : Array Slot) , At D cA ad kX 151 R A s σ H locs → lv_has ls 8 [(0, .ref (ad 0)), (2, .int (zI v2)), (3, .int (zI v3)), (4, .int (zI v4)), (5, .int (zI v5)), (6, .int (zI v6))] → K59 v2 v3 v4 v5 v6 σ = some res → W p l e (rmU 6 148) s m args below meth c H locs 0 0 (MQ below (QI D cA ad kX 151 R A res) args s 0 0 A) (F0 m 59 ls [])) {σ : St} {H : Heap} {locs : List Loc} {ls : Array Slot}  (hw : At D cA ad kX 151 R A s σ H locs) (hl : lv_has ls 8 [(0, .ref (ad 0)), (2, .int (zI v2)), (3, .int (zI v3)), (4, .int (zI v4)), (5, .int (zI v5)), (6, .int (zI v6))]) (h : p_X7_setting_162 K59 v2 v3 v4 v5 v6 σ = some res) : W p l e (rmU 6 148) s m args below meth c H locs 0 0 (MQ below (QI D cA ad kX 151 R A res) args s 0 0 A) (F0 m 162 ls []) := by
  have h := h
  unfold p_X7_setting_162 at h
  refine y_iinc (lv' := [(6, .int (zI (v6 + 1))), (0, .ref (ad 0)), (2, .int (zI v2)), (3, .int (zI v3)), (4, .int (zI v4)), (5, .int (zI v5))]) C dX7_setting_162 hl (k := 5) rfl (by decide) rfl (fun ls hl => ?_)
  refine y_goto (tgt := 59) C dX7_setting_165 (by decide) ?_
  exact hK59 _ _ _ _ _ _ _ _ _  hw (lv_sub hl [1, 2, 3, 4, 5, 0] rfl) h
set_option maxRecDepth 100000 in
set_option maxHeartbeats 4000000 in
theorem k_X7_setting_59b {K59 : Int → Int → Int → Int → Int → St → Option (Int × St)} {v2 : Int} {v3 : Int} {v4 : Int} {v5 : Int} {v6 : Int} (C : Cx cX7_setting RX7 8 (some .int) D cA adK adV A p s m args meth c)  (hK59 : ∀ (v2 : Int) (v3 : Int) (v4 : Int) (v5 : Int) (v6 : Int) (σ : St) (H : Heap) (locs : List Loc) (ls : Array Slot) , At D cA ad kX 151 R A s σ H locs → lv_has ls 8 [(0, .ref (ad 0)), (2, .int (zI v2)), (3, .int (zI v3)), (4, .int (zI v4)), (5, .int (zI v5)), (6, .int (zI v6))] → K59 v2 v3 v4 v5 v6 σ = some res → W p l e (rmU 6 148) s m args below meth c H locs 0 0 (MQ below (QI D cA ad kX 151 R A res) args s 0 0 A) (F0 m 59 ls [])) {σ : St} {H : Heap} {locs : List Loc} {ls : Array Slot}  (hw : At D cA ad kX 151 R A s σ H locs) (hl : lv_has ls 8 [(0, .ref (ad 0)), (2, .int (zI v2)), (3, .int (zI v3)), (4, .int (zI v4)), (5, .int (zI v5)), (6, .int (zI v6))]) (h : p_X7_setting_59b K59 v2 v3 v4 v5 v6 σ = some res) : W p l e (rmU 6 148) s m args below meth c H locs 0 0 (MQ below (QI D cA ad kX 151 R A res) args s 0 0 A) (F0 m 59 ls []) := by
  have h := h
  unfold p_X7_setting_59b at h
  refine y_iload C dX7_setting_59 (lv_at hl 5 rfl) ?_
  refine y_bipush C dX7_setting_61 (by decide) ?_
  refine y_icmp_ge (tgt := 168) C (a' := zm v6) (b' := 36) rfl (by decide) dX7_setting_63 (by decide) (fun hc => ?_) (fun hc => ?_)
  · rw [if_pos hc] at h
    refine y_iload C dX7_setting_168 (lv_at hl 4 rfl) ?_
    exact y_iret C hw h dX7_setting_170
  · rw [if_neg hc] at h
    refine y_aload_n C dX7_setting_66 (lv_at hl 0 rfl) ?_
    refine g7 C hw kx_0 5 (by decide) wd_299 rfl dX7_setting_67 ?_
    refine y_iconst C dX7_setting_70 ?_
    refine y_iload C dX7_setting_71 (lv_at hl 5 rfl) ?_
    refine y_bipush C dX7_setting_73 (by decide) ?_
    refine y_idiv C (b' := 12) (by decide) (by decide) dX7_setting_75 ?_
    refine y_iadd C dX7_setting_76 ?_
    obtain ⟨σ77, eσ77, h⟩ := nx_some h
    refine q0 C hw kx_7 3 (by decide) wd_90 rfl rfl rfl (by decide) (1 + ((zm v6).tdiv 12)) 3 rfl rfl dX7_setting_77 (fun H locs hw => ?_)
    rw [← eσ77] at hw
    refine y_aload_n C dX7_setting_80 (lv_at hl 0 rfl) ?_
    refine g7 C hw kx_0 5 (by decide) wd_299 rfl dX7_setting_81 ?_
    refine y_iconst C dX7_setting_84 ?_
    refine y_iload C dX7_setting_85 (lv_at hl 5 rfl) ?_
    refine y_iconst C dX7_setting_87 ?_
    refine y_idiv C (b' := 3) (by decide) (by decide) dX7_setting_88 ?_
    refine y_iconst C dX7_setting_89 ?_
    refine y_irem C (b' := 4) (by decide) (by decide) dX7_setting_90 ?_
    refine y_iadd C dX7_setting_91 ?_
    obtain ⟨σ92, eσ92, h⟩ := nx_some h
    refine q0 C hw kx_7 4 (by decide) wd_92 rfl rfl rfl (by decide) (1 + ((zm ((zm v6).tdiv 3)).tmod 4)) 4 rfl rfl dX7_setting_92 (fun H locs hw => ?_)
    rw [← eσ92] at hw
    refine y_aload_n C dX7_setting_95 (lv_at hl 0 rfl) ?_
    refine g7 C hw kx_0 5 (by decide) wd_299 rfl dX7_setting_96 ?_
    refine y_iload C dX7_setting_99 (lv_at hl 5 rfl) ?_
    refine y_iconst C dX7_setting_101 ?_
    refine y_irem C (b' := 3) (by decide) (by decide) dX7_setting_102 ?_
    refine y_bipush C dX7_setting_103 (by decide) ?_
    refine y_imul C dX7_setting_105 ?_
    obtain ⟨σ106, eσ106, h⟩ := nx_some h
    refine q0 C hw kx_7 5 (by decide) wd_94 rfl rfl rfl (by decide) (((zm v6).tmod 3) * 10) 5 rfl rfl dX7_setting_106 (fun H locs hw => ?_)
    rw [← eσ106] at hw
    refine y_aload_n C dX7_setting_109 (lv_at hl 0 rfl) ?_
    refine y_iload_n C dX7_setting_110 (lv_at hl 1 rfl) ?_
    refine y_iload_n C dX7_setting_111 (lv_at hl 2 rfl) ?_
    obtain ⟨x112, hc112, h⟩ := bd_some h
    refine y_ci (rest := []) hw (y_rV C hw kx_0 (by decide) rfl rfl (c_X7_painedTrial  hc112) mi_X7_painedTrial wd_824 wd_826 ws_24 rfl ⟨by decide, by decide⟩ hl rfl (Nat.le_of_ble_eq_true rfl) dX7_setting_112) (fun H locs hw => ?_)
    refine y_istore (lv' := [(7, .int (zI x112.1)), (0, .ref (ad 0)), (2, .int (zI v2)), (3, .int (zI v3)), (4, .int (zI v4)), (5, .int (zI v5)), (6, .int (zI v6))]) C dX7_setting_115 hl (by decide) rfl (fun ls hl => ?_)
    refine y_iload C dX7_setting_117 (lv_at hl 0 rfl) ?_
    refine y_iload C dX7_setting_119 (lv_at hl 4 rfl) ?_
    refine y_icmp_le (tgt := 162) C (a' := zm x112.1) (b' := zm v4) rfl rfl dX7_setting_121 (by decide) (fun hc => ?_) (fun hc => ?_)
    · rw [if_pos hc] at h
      exact k_X7_setting_162 C hK59  hw (lv_sub hl [1, 2, 3, 4, 5, 6] rfl) h
    · rw [if_neg hc] at h
      refine y_iload C dX7_setting_124 (lv_at hl 0 rfl) ?_
      refine y_istore (lv' := [(4, .int (zI x112.1)), (7, .int (zI x112.1)), (0, .ref (ad 0)), (2, .int (zI v2)), (3, .int (zI v3)), (5, .int (zI v5)), (6, .int (zI v6))]) C dX7_setting_126 hl (by decide) rfl (fun ls hl => ?_)
      refine y_bipush C dX7_setting_128 (by decide) ?_
      refine y_aload_n C dX7_setting_130 (lv_at hl 2 rfl) ?_
      refine g7 C hw kx_0 5 (by decide) wd_299 rfl dX7_setting_131 ?_
      refine g0 C hw kx_7 3 (by decide) wd_90 rfl dX7_setting_134 ?_
      refine y_imul C dX7_setting_137 ?_
      refine y_bipush C dX7_setting_138 (by decide) ?_
      refine y_aload_n C dX7_setting_140 (lv_at hl 2 rfl) ?_
      refine g7 C hw kx_0 5 (by decide) wd_299 rfl dX7_setting_141 ?_
      refine g0 C hw kx_7 4 (by decide) wd_92 rfl dX7_setting_144 ?_
      refine y_imul C dX7_setting_147 ?_
      refine y_iadd C dX7_setting_148 ?_
      refine y_aload_n C dX7_setting_149 (lv_at hl 2 rfl) ?_
      refine g7 C hw kx_0 5 (by decide) wd_299 rfl dX7_setting_150 ?_
      refine g0 C hw kx_7 5 (by decide) wd_94 rfl dX7_setting_153 ?_
      refine y_bipush C dX7_setting_156 (by decide) ?_
      refine y_idiv C (b' := 10) (by decide) (by decide) dX7_setting_158 ?_
      refine y_iadd C dX7_setting_159 ?_
      obtain ⟨z160, ez160, h⟩ := nz_some h
      rw [← ez160]
      refine y_istore (lv' := [(5, .int (zI z160)), (4, .int (zI x112.1)), (7, .int (zI x112.1)), (0, .ref (ad 0)), (2, .int (zI v2)), (3, .int (zI v3)), (6, .int (zI v6))]) C dX7_setting_160 hl (by decide) rfl (fun ls hl => ?_)
      exact k_X7_setting_162 C hK59  hw (lv_sub hl [3, 4, 5, 1, 0, 6] rfl) h
set_option maxRecDepth 100000 in
theorem k_X7_setting_59  (C : Cx cX7_setting RX7 8 (some .int) D cA adK adV A p s m args meth c)  : ∀ (n : Nat) (v2 : Int) (v3 : Int) (v4 : Int) (v5 : Int) (v6 : Int) (σ : St) (H : Heap) (locs : List Loc) (ls : Array Slot) , At D cA ad kX 151 R A s σ H locs → lv_has ls 8 [(0, .ref (ad 0)), (2, .int (zI v2)), (3, .int (zI v3)), (4, .int (zI v4)), (5, .int (zI v5)), (6, .int (zI v6))] → p_X7_setting_59  n v2 v3 v4 v5 v6 σ = some res → W p l e (rmU 6 148) s m args below meth c H locs 0 0 (MQ below (QI D cA ad kX 151 R A res) args s 0 0 A) (F0 m 59 ls []) := by
  intro n
  induction n with
  | zero =>
    intro v2 v3 v4 v5 v6 σ H locs ls  hw hl h
    have h : none = some res := h
    cases h
  | succ n ih =>
    intro v2 v3 v4 v5 v6 σ H locs ls  hw hl h
    exact k_X7_setting_59b C  ih  hw hl h
set_option maxRecDepth 100000 in
set_option maxHeartbeats 4000000 in
theorem k_X7_setting_0  {v1 : Int} {v2 : Int} {v3 : Int} (C : Cx cX7_setting RX7 8 (some .int) D cA adK adV A p s m args meth c)  {σ : St} {H : Heap} {locs : List Loc} {ls : Array Slot}  (hw : At D cA ad kX 151 R A s σ H locs) (hl : lv_has ls 8 [(0, .ref (ad 0)), (1, .int (zI v1)), (2, .int (zI v2)), (3, .int (zI v3))]) (h : p_X7_setting  v1 v2 v3 σ = some res) : W p l e (rmU 6 148) s m args below meth c H locs 0 0 (MQ below (QI D cA ad kX 151 R A res) args s 0 0 A) (F0 m 0 ls []) := by
  have h := h
  unfold p_X7_setting at h
  refine y_aload_n C dX7_setting_0 (lv_at hl 0 rfl) ?_
  refine y_iload_n C dX7_setting_1 (lv_at hl 1 rfl) ?_
  obtain ⟨x2, hc2, h⟩ := bd_some h
  refine y_ci (rest := []) hw (y_rV C hw kx_0 (by decide) rfl rfl (c_X7_isHouse  hc2) mi_X7_isHouse wd_546 wd_548 ws_10 rfl ⟨by decide, by decide⟩ hl rfl (Nat.le_of_ble_eq_true rfl) dX7_setting_2) (fun H locs hw => ?_)
  refine y_if_ne (tgt := 11) C (a' := zm x2.1) rfl dX7_setting_5 (by decide) (fun hc => ?_) (fun hc => ?_)
  · rw [if_pos hc] at h
    refine y_ldc C (z := (-1000000001)) wd_354 (by decide) dX7_setting_8 ?_
    exact y_iret C hw h dX7_setting_10
  · rw [if_neg hc] at h
    refine y_iload_n C dX7_setting_11 (lv_at hl 2 rfl) ?_
    refine y_iconst C dX7_setting_12 ?_
    refine y_bipush C dX7_setting_13 (by decide) ?_
    obtain ⟨x15, hc15, h⟩ := bd_some h
    refine y_ci (rest := []) hw (y_rS C hw (c_X7_isOut  hc15) mi_X7_isOut wd_341 wd_342 rfl ⟨by decide, by decide⟩ hl rfl (Nat.le_of_ble_eq_true rfl) dX7_setting_15) (fun H locs hw => ?_)
    refine y_if_ne (tgt := 34) C (a' := zm x15.1) rfl dX7_setting_18 (by decide) (fun hc => ?_) (fun hc => ?_)
    · rw [if_pos hc] at h
      refine y_iload_n C dX7_setting_21 (lv_at hl 3 rfl) ?_
      refine y_ldcw C (z := (-9999999)) wd_822 (by decide) dX7_setting_22 ?_
      refine y_ldcw C (z := 9999999) wd_823 (by decide) dX7_setting_25 ?_
      obtain ⟨x28, hc28, h⟩ := bd_some h
      refine y_ci (rest := []) hw (y_rS C hw (c_X7_isOut  hc28) mi_X7_isOut wd_341 wd_342 rfl ⟨by decide, by decide⟩ hl rfl (Nat.le_of_ble_eq_true rfl) dX7_setting_28) (fun H locs hw => ?_)
      refine y_if_eq (tgt := 37) C (a' := zm x28.1) rfl dX7_setting_31 (by decide) (fun hc => ?_) (fun hc => ?_)
      · rw [if_pos hc] at h
        refine y_aload_n C dX7_setting_37 (lv_at hl 0 rfl) ?_
        refine g7 C hw kx_0 5 (by decide) wd_299 rfl dX7_setting_38 ?_
        refine y_aload_n C dX7_setting_41 (lv_at hl 0 rfl) ?_
        refine g7 C hw kx_0 1 (by decide) wd_295 rfl dX7_setting_42 ?_
        refine y_iload_n C dX7_setting_45 (lv_at hl 1 rfl) ?_
        obtain ⟨hg46, h⟩ := gd_some h
        refine y_aald C hw kx_3 (by decide) rfl rfl (i' := zm v1) rfl hg46 dX7_setting_46 ?_
        obtain ⟨x47, hc47, h⟩ := bd_some h
        refine y_cv (rest := []) hw (y_rV C hw kx_7 (by decide) rfl rfl (c_X0_copyFrom kx_7 (kr_30 (i := zm v1) hg46) hc47) mi_X0_copyFrom wd_477 wd_478 wd_479 rfl ⟨by decide, by decide⟩ hl rfl (Nat.le_of_ble_eq_true rfl) dX7_setting_47) (fun H locs hw => ?_)
        refine y_iconst C dX7_setting_50 ?_
        refine y_istore (lv' := [(4, .int (zI (-1))), (0, .ref (ad 0)), (1, .int (zI v1)), (2, .int (zI v2)), (3, .int (zI v3))]) C dX7_setting_51 hl (by decide) rfl (fun ls hl => ?_)
        refine y_iconst C dX7_setting_53 ?_
        refine y_istore (lv' := [(5, .int (zI (-1))), (4, .int (zI (-1))), (0, .ref (ad 0)), (1, .int (zI v1)), (2, .int (zI v2)), (3, .int (zI v3))]) C dX7_setting_54 hl (by decide) rfl (fun ls hl => ?_)
        refine y_iconst C dX7_setting_56 ?_
        refine y_istore (lv' := [(6, .int (zI 0)), (5, .int (zI (-1))), (4, .int (zI (-1))), (0, .ref (ad 0)), (1, .int (zI v1)), (2, .int (zI v2)), (3, .int (zI v3))]) C dX7_setting_57 hl (by decide) rfl (fun ls hl => ?_)
        exact k_X7_setting_59 C  FU _ _ _ _ _ _ _ _ _  hw (lv_sub hl [3, 5, 6, 2, 1, 0] rfl) h
      · rw [if_neg hc] at h
        refine y_ldc C (z := (-1000000002)) wd_344 (by decide) dX7_setting_34 ?_
        exact y_iret C hw h dX7_setting_36
    · rw [if_neg hc] at h
      refine y_ldc C (z := (-1000000002)) wd_344 (by decide) dX7_setting_34 ?_
      exact y_iret C hw h dX7_setting_36
theorem c_X7_setting {l : Launch} {D : va_G} {cA : Nat → ClassId} {adK adV : Nat → Nat} {A : Nat → Prop} {ad : Int → Nat} {R : va_W} {σ : St} {res : Int × St} {v1 : Int} {v2 : Int} {v3 : Int}  (h : p_X7_setting v1 v2 v3 σ = some res) : Met l yX7_setting (wsU yX7_setting cX7_setting 8 (some .int)) (rmU 6 148) (va_Pc [.ref (ad 0), .int (zI v1), .int (zI v2), .int (zI v3)] (Pr D cA adK adV ad kX 151 R A σ)) (QI D cA ad kX 151 R A res) 0 0 A :=
  y_met (own := RX7) (by decide) rfl _ (Nat.le_of_ble_eq_true rfl) (fun p e s m args below meth c ls C hl hw => k_X7_setting_0 C  hw hl h)
/-! RungHouse.seed -/
set_option maxRecDepth 100000 in
set_option maxHeartbeats 4000000 in
theorem k_X7_seed_0  {v1 : Int} (C : Cx cX7_seed RX7 3 (some .int) D cA adK adV A p s m args meth c)  {σ : St} {H : Heap} {locs : List Loc} {ls : Array Slot}  (hw : At D cA ad kX 151 R A s σ H locs) (hl : lv_has ls 3 [(0, .ref (ad 0)), (1, .int (zI v1))]) (h : p_X7_seed  v1 σ = some res) : W p l e (rmU 0 0) s m args below meth c H locs 0 0 (MQ below (QI D cA ad kX 151 R A res) args s 0 0 A) (F0 m 0 ls []) := by
  have h := h
  unfold p_X7_seed at h
  refine y_iload_n C dX7_seed_0 (lv_at hl 1 rfl) ?_
  refine y_if_ge (tgt := 7) C (a' := zm v1) rfl dX7_seed_1 (by decide) (fun hc => ?_) (fun hc => ?_)
  · rw [if_pos hc] at h
    refine y_aload_n C dX7_seed_7 (lv_at hl 0 rfl) ?_
    refine g7 C hw kx_0 9 (by decide) wd_303 rfl dX7_seed_8 ?_
    refine g2 C hw kx_16 7 (by decide) wd_157 rfl dX7_seed_11 ?_
    refine y_istore_n (lv' := [(2, .int (zI (σ 16 7))), (0, .ref (ad 0)), (1, .int (zI v1))]) C dX7_seed_14 hl (by decide) rfl (fun ls hl => ?_)
    refine y_aload_n C dX7_seed_15 (lv_at hl 1 rfl) ?_
    refine g7 C hw kx_0 9 (by decide) wd_303 rfl dX7_seed_16 ?_
    refine y_iload_n C dX7_seed_19 (lv_at hl 2 rfl) ?_
    obtain ⟨σ20, eσ20, h⟩ := nx_some h
    refine q2 C hw kx_16 7 (by decide) wd_157 rfl rfl rfl (by decide) v1 7 rfl rfl dX7_seed_20 (fun H locs hw => ?_)
    rw [← eσ20] at hw
    refine y_iload_n C dX7_seed_23 (lv_at hl 0 rfl) ?_
    exact y_iret C hw h dX7_seed_24
  · rw [if_neg hc] at h
    refine y_ldc C (z := (-1000000002)) wd_344 (by decide) dX7_seed_4 ?_
    exact y_iret C hw h dX7_seed_6
theorem c_X7_seed {l : Launch} {D : va_G} {cA : Nat → ClassId} {adK adV : Nat → Nat} {A : Nat → Prop} {ad : Int → Nat} {R : va_W} {σ : St} {res : Int × St} {v1 : Int}  (h : p_X7_seed v1 σ = some res) : Met l yX7_seed (wsU yX7_seed cX7_seed 3 (some .int)) (rmU 0 0) (va_Pc [.ref (ad 0), .int (zI v1)] (Pr D cA adK adV ad kX 151 R A σ)) (QI D cA ad kX 151 R A res) 0 0 A :=
  y_met (own := RX7) (by decide) rfl _ (Nat.le_of_ble_eq_true rfl) (fun p e s m args below meth c ls C hl hw => k_X7_seed_0 C  hw hl h)
/-! RungHouse.lives -/
set_option maxRecDepth 100000 in
set_option maxHeartbeats 4000000 in
theorem k_X7_lives_183 {K62 : Int → Int → Int → Int → Int → Int → Int → St → Option (Int × St)} {K88 : Int → Int → Int → Int → Int → Int → Int → Int → Int → St → Option (Int × St)} {v1 : Int} {v3 : Int} {v4 : Int} {o5 : Int} {v6 : Int} {v7 : Int} {v8 : Int} {v10 : Int} {vs0 : Int} (C : Cx cX7_lives RX7 13 (some .int) D cA adK adV A p s m args meth c) (hK62 : ∀ (v1 : Int) (v3 : Int) (v4 : Int) (o5 : Int) (v6 : Int) (v7 : Int) (v8 : Int) (σ : St) (H : Heap) (locs : List Loc) (ls : Array Slot) (ho5 : kX o5 = (0, 0)), At D cA ad kX 151 R A s σ H locs → lv_has ls 13 [(0, .ref (ad 0)), (1, .int (zI v1)), (3, .int (zI v3)), (4, .int (zI v4)), (5, .ref (ad o5)), (6, .int (zI v6)), (7, .int (zI v7)), (8, .int (zI v8))] → K62 v1 v3 v4 o5 v6 v7 v8 σ = some res → W p l e (rmU 2 46) s m args below meth c H locs 0 0 (MQ below (QI D cA ad kX 151 R A res) args s 0 0 A) (F0 m 62 ls [])) (hK88 : ∀ (v1 : Int) (v3 : Int) (v4 : Int) (o5 : Int) (v6 : Int) (v7 : Int) (v8 : Int) (v9 : Int) (v10 : Int) (σ : St) (H : Heap) (locs : List Loc) (ls : Array Slot) (ho5 : kX o5 = (0, 0)), At D cA ad kX 151 R A s σ H locs → lv_has ls 13 [(0, .ref (ad 0)), (1, .int (zI v1)), (3, .int (zI v3)), (4, .int (zI v4)), (5, .ref (ad o5)), (6, .int (zI v6)), (7, .int (zI v7)), (8, .int (zI v8)), (9, .int (zI v9)), (10, .int (zI v10))] → K88 v1 v3 v4 o5 v6 v7 v8 v9 v10 σ = some res → W p l e (rmU 2 46) s m args below meth c H locs 0 0 (MQ below (QI D cA ad kX 151 R A res) args s 0 0 A) (F0 m 88 ls [])) {σ : St} {H : Heap} {locs : List Loc} {ls : Array Slot} (ho5 : kX o5 = (0, 0)) (hw : At D cA ad kX 151 R A s σ H locs) (hl : lv_has ls 13 [(0, .ref (ad 0)), (1, .int (zI v1)), (3, .int (zI v3)), (4, .int (zI v4)), (5, .ref (ad o5)), (6, .int (zI v6)), (7, .int (zI v7)), (8, .int (zI v8)), (10, .int (zI v10))]) (h : p_X7_lives_183 K62 K88 v1 v3 v4 o5 v6 v7 v8 v10 vs0 σ = some res) : W p l e (rmU 2 46) s m args below meth c H locs 0 0 (MQ below (QI D cA ad kX 151 R A res) args s 0 0 A) (F0 m 183 ls [.int (zI vs0)]) := by
  have h := h
  unfold p_X7_lives_183 at h
  refine y_istore (lv' := [(9, .int (zI vs0)), (0, .ref (ad 0)), (1, .int (zI v1)), (3, .int (zI v3)), (4, .int (zI v4)), (5, .ref (ad o5)), (6, .int (zI v6)), (7, .int (zI v7)), (8, .int (zI v8)), (10, .int (zI v10))]) C dX7_lives_183 hl (by decide) rfl (fun ls hl => ?_)
  refine y_iinc (lv' := [(10, .int (zI (v10 + 1))), (9, .int (zI vs0)), (0, .ref (ad 0)), (1, .int (zI v1)), (3, .int (zI v3)), (4, .int (zI v4)), (5, .ref (ad o5)), (6, .int (zI v6)), (7, .int (zI v7)), (8, .int (zI v8))]) C dX7_lives_185 hl (k := 9) rfl (by decide) rfl (fun ls hl => ?_)
  refine y_goto (tgt := 88) C dX7_lives_188 (by decide) ?_
  exact hK88 _ _ _ _ _ _ _ _ _ _ _ _ _ ho5 hw (lv_sub hl [2, 3, 4, 5, 6, 7, 8, 9, 1, 0] rfl) h
set_option maxRecDepth 100000 in
set_option maxHeartbeats 4000000 in
theorem k_X7_lives_165 {K62 : Int → Int → Int → Int → Int → Int → Int → St → Option (Int × St)} {K88 : Int → Int → Int → Int → Int → Int → Int → Int → Int → St → Option (Int × St)} {v1 : Int} {v3 : Int} {v4 : Int} {o5 : Int} {v6 : Int} {v8 : Int} {v9 : Int} {v10 : Int} {v12 : Int} {vs0 : Int} {vs1 : Int} (C : Cx cX7_lives RX7 13 (some .int) D cA adK adV A p s m args meth c) (hK62 : ∀ (v1 : Int) (v3 : Int) (v4 : Int) (o5 : Int) (v6 : Int) (v7 : Int) (v8 : Int) (σ : St) (H : Heap) (locs : List Loc) (ls : Array Slot) (ho5 : kX o5 = (0, 0)), At D cA ad kX 151 R A s σ H locs → lv_has ls 13 [(0, .ref (ad 0)), (1, .int (zI v1)), (3, .int (zI v3)), (4, .int (zI v4)), (5, .ref (ad o5)), (6, .int (zI v6)), (7, .int (zI v7)), (8, .int (zI v8))] → K62 v1 v3 v4 o5 v6 v7 v8 σ = some res → W p l e (rmU 2 46) s m args below meth c H locs 0 0 (MQ below (QI D cA ad kX 151 R A res) args s 0 0 A) (F0 m 62 ls [])) (hK88 : ∀ (v1 : Int) (v3 : Int) (v4 : Int) (o5 : Int) (v6 : Int) (v7 : Int) (v8 : Int) (v9 : Int) (v10 : Int) (σ : St) (H : Heap) (locs : List Loc) (ls : Array Slot) (ho5 : kX o5 = (0, 0)), At D cA ad kX 151 R A s σ H locs → lv_has ls 13 [(0, .ref (ad 0)), (1, .int (zI v1)), (3, .int (zI v3)), (4, .int (zI v4)), (5, .ref (ad o5)), (6, .int (zI v6)), (7, .int (zI v7)), (8, .int (zI v8)), (9, .int (zI v9)), (10, .int (zI v10))] → K88 v1 v3 v4 o5 v6 v7 v8 v9 v10 σ = some res → W p l e (rmU 2 46) s m args below meth c H locs 0 0 (MQ below (QI D cA ad kX 151 R A res) args s 0 0 A) (F0 m 88 ls [])) {σ : St} {H : Heap} {locs : List Loc} {ls : Array Slot} (ho5 : kX o5 = (0, 0)) (hw : At D cA ad kX 151 R A s σ H locs) (hl : lv_has ls 13 [(0, .ref (ad 0)), (1, .int (zI v1)), (3, .int (zI v3)), (4, .int (zI v4)), (5, .ref (ad o5)), (6, .int (zI v6)), (8, .int (zI v8)), (9, .int (zI v9)), (10, .int (zI v10)), (12, .int (zI v12))]) (h : p_X7_lives_165 K62 K88 v1 v3 v4 o5 v6 v8 v9 v10 v12 vs0 vs1 σ = some res) : W p l e (rmU 2 46) s m args below meth c H locs 0 0 (MQ below (QI D cA ad kX 151 R A res) args s 0 0 A) (F0 m 165 ls [.int (zI vs1), .int (zI vs0)]) := by
  have h := h
  unfold p_X7_lives_165 at h
  refine y_iadd C dX7_lives_165 ?_
  refine y_istore (lv' := [(7, .int (zI (vs0 + vs1))), (0, .ref (ad 0)), (1, .int (zI v1)), (3, .int (zI v3)), (4, .int (zI v4)), (5, .ref (ad o5)), (6, .int (zI v6)), (8, .int (zI v8)), (9, .int (zI v9)), (10, .int (zI v10)), (12, .int (zI v12))]) C dX7_lives_166 hl (by decide) rfl (fun ls hl => ?_)
  refine y_iload C dX7_lives_168 (lv_at hl 10 rfl) ?_
  refine y_if_eq (tgt := 181) C (a' := zm v12) rfl dX7_lives_170 (by decide) (fun hc => ?_) (fun hc => ?_)
  · rw [if_pos hc] at h
    refine y_iload C dX7_lives_181 (lv_at hl 8 rfl) ?_
    exact k_X7_lives_183 C hK62 hK88 ho5 hw (lv_sub hl [1, 2, 3, 4, 5, 6, 0, 7, 9] rfl) h
  · rw [if_neg hc] at h
    refine y_iload C dX7_lives_173 (lv_at hl 8 rfl) ?_
    obtain ⟨x175, hc175, h⟩ := bd_some h
    refine y_ci (rest := []) hw (y_rS C hw (c_X7_oneMore  hc175) mi_X7_oneMore wd_695 wd_696 rfl ⟨by decide, by decide⟩ hl rfl (Nat.le_of_ble_eq_true rfl) dX7_lives_175) (fun H locs hw => ?_)
    refine y_goto (tgt := 183) C dX7_lives_178 (by decide) ?_
    exact k_X7_lives_183 C hK62 hK88 ho5 hw (lv_sub hl [1, 2, 3, 4, 5, 6, 0, 7, 9] rfl) h
set_option maxRecDepth 100000 in
set_option maxHeartbeats 4000000 in
theorem k_X7_lives_144 {K62 : Int → Int → Int → Int → Int → Int → Int → St → Option (Int × St)} {K88 : Int → Int → Int → Int → Int → Int → Int → Int → Int → St → Option (Int × St)} {v1 : Int} {v3 : Int} {v4 : Int} {o5 : Int} {v6 : Int} {v7 : Int} {v8 : Int} {v9 : Int} {v10 : Int} {v11 : Int} {vs0 : Int} (C : Cx cX7_lives RX7 13 (some .int) D cA adK adV A p s m args meth c) (hK62 : ∀ (v1 : Int) (v3 : Int) (v4 : Int) (o5 : Int) (v6 : Int) (v7 : Int) (v8 : Int) (σ : St) (H : Heap) (locs : List Loc) (ls : Array Slot) (ho5 : kX o5 = (0, 0)), At D cA ad kX 151 R A s σ H locs → lv_has ls 13 [(0, .ref (ad 0)), (1, .int (zI v1)), (3, .int (zI v3)), (4, .int (zI v4)), (5, .ref (ad o5)), (6, .int (zI v6)), (7, .int (zI v7)), (8, .int (zI v8))] → K62 v1 v3 v4 o5 v6 v7 v8 σ = some res → W p l e (rmU 2 46) s m args below meth c H locs 0 0 (MQ below (QI D cA ad kX 151 R A res) args s 0 0 A) (F0 m 62 ls [])) (hK88 : ∀ (v1 : Int) (v3 : Int) (v4 : Int) (o5 : Int) (v6 : Int) (v7 : Int) (v8 : Int) (v9 : Int) (v10 : Int) (σ : St) (H : Heap) (locs : List Loc) (ls : Array Slot) (ho5 : kX o5 = (0, 0)), At D cA ad kX 151 R A s σ H locs → lv_has ls 13 [(0, .ref (ad 0)), (1, .int (zI v1)), (3, .int (zI v3)), (4, .int (zI v4)), (5, .ref (ad o5)), (6, .int (zI v6)), (7, .int (zI v7)), (8, .int (zI v8)), (9, .int (zI v9)), (10, .int (zI v10))] → K88 v1 v3 v4 o5 v6 v7 v8 v9 v10 σ = some res → W p l e (rmU 2 46) s m args below meth c H locs 0 0 (MQ below (QI D cA ad kX 151 R A res) args s 0 0 A) (F0 m 88 ls [])) {σ : St} {H : Heap} {locs : List Loc} {ls : Array Slot} (ho5 : kX o5 = (0, 0)) (hw : At D cA ad kX 151 R A s σ H locs) (hl : lv_has ls 13 [(0, .ref (ad 0)), (1, .int (zI v1)), (3, .int (zI v3)), (4, .int (zI v4)), (5, .ref (ad o5)), (6, .int (zI v6)), (7, .int (zI v7)), (8, .int (zI v8)), (9, .int (zI v9)), (10, .int (zI v10)), (11, .int (zI v11))]) (h : p_X7_lives_144 K62 K88 v1 v3 v4 o5 v6 v7 v8 v9 v10 v11 vs0 σ = some res) : W p l e (rmU 2 46) s m args below meth c H locs 0 0 (MQ below (QI D cA ad kX 151 R A res) args s 0 0 A) (F0 m 144 ls [.int (zI vs0)]) := by
  have h := h
  unfold p_X7_lives_144 at h
  refine y_istore (lv' := [(12, .int (zI vs0)), (0, .ref (ad 0)), (1, .int (zI v1)), (3, .int (zI v3)), (4, .int (zI v4)), (5, .ref (ad o5)), (6, .int (zI v6)), (7, .int (zI v7)), (8, .int (zI v8)), (9, .int (zI v9)), (10, .int (zI v10)), (11, .int (zI v11))]) C dX7_lives_144 hl (by decide) rfl (fun ls hl => ?_)
  refine y_iload C dX7_lives_146 (lv_at hl 7 rfl) ?_
  refine y_iload C dX7_lives_148 (lv_at hl 0 rfl) ?_
  refine y_if_eq (tgt := 163) C (a' := zm vs0) rfl dX7_lives_150 (by decide) (fun hc => ?_) (fun hc => ?_)
  · rw [if_pos hc] at h
    refine y_iload C dX7_lives_163 (lv_at hl 11 rfl) ?_
    exact k_X7_lives_165 C hK62 hK88 ho5 hw (lv_sub hl [1, 2, 3, 4, 5, 6, 8, 9, 10, 0] rfl) h
  · rw [if_neg hc] at h
    refine y_aload C dX7_lives_153 (lv_at hl 5 rfl) ?_
    refine y_iload C dX7_lives_155 (lv_at hl 11 rfl) ?_
    obtain ⟨x157, hc157, h⟩ := bd_some h
    refine y_ci (rest := [.int (zI v7)]) hw (y_rV C hw ho5 (by decide) rfl rfl (c_X0_bears ho5 hc157) mi_X0_bears wd_816 wd_613 wd_614 rfl ⟨by decide, by decide⟩ hl rfl (Nat.le_of_ble_eq_true rfl) dX7_lives_157) (fun H locs hw => ?_)
    refine y_goto (tgt := 165) C dX7_lives_160 (by decide) ?_
    exact k_X7_lives_165 C hK62 hK88 ho5 hw (lv_sub hl [1, 2, 3, 4, 5, 6, 8, 9, 10, 0] rfl) h
set_option maxRecDepth 100000 in
set_option maxHeartbeats 4000000 in
theorem k_X7_lives_143 {K62 : Int → Int → Int → Int → Int → Int → Int → St → Option (Int × St)} {K88 : Int → Int → Int → Int → Int → Int → Int → Int → Int → St → Option (Int × St)} {v1 : Int} {v3 : Int} {v4 : Int} {o5 : Int} {v6 : Int} {v7 : Int} {v8 : Int} {v9 : Int} {v10 : Int} {v11 : Int} (C : Cx cX7_lives RX7 13 (some .int) D cA adK adV A p s m args meth c) (hK62 : ∀ (v1 : Int) (v3 : Int) (v4 : Int) (o5 : Int) (v6 : Int) (v7 : Int) (v8 : Int) (σ : St) (H : Heap) (locs : List Loc) (ls : Array Slot) (ho5 : kX o5 = (0, 0)), At D cA ad kX 151 R A s σ H locs → lv_has ls 13 [(0, .ref (ad 0)), (1, .int (zI v1)), (3, .int (zI v3)), (4, .int (zI v4)), (5, .ref (ad o5)), (6, .int (zI v6)), (7, .int (zI v7)), (8, .int (zI v8))] → K62 v1 v3 v4 o5 v6 v7 v8 σ = some res → W p l e (rmU 2 46) s m args below meth c H locs 0 0 (MQ below (QI D cA ad kX 151 R A res) args s 0 0 A) (F0 m 62 ls [])) (hK88 : ∀ (v1 : Int) (v3 : Int) (v4 : Int) (o5 : Int) (v6 : Int) (v7 : Int) (v8 : Int) (v9 : Int) (v10 : Int) (σ : St) (H : Heap) (locs : List Loc) (ls : Array Slot) (ho5 : kX o5 = (0, 0)), At D cA ad kX 151 R A s σ H locs → lv_has ls 13 [(0, .ref (ad 0)), (1, .int (zI v1)), (3, .int (zI v3)), (4, .int (zI v4)), (5, .ref (ad o5)), (6, .int (zI v6)), (7, .int (zI v7)), (8, .int (zI v8)), (9, .int (zI v9)), (10, .int (zI v10))] → K88 v1 v3 v4 o5 v6 v7 v8 v9 v10 σ = some res → W p l e (rmU 2 46) s m args below meth c H locs 0 0 (MQ below (QI D cA ad kX 151 R A res) args s 0 0 A) (F0 m 88 ls [])) {σ : St} {H : Heap} {locs : List Loc} {ls : Array Slot} (ho5 : kX o5 = (0, 0)) (hw : At D cA ad kX 151 R A s σ H locs) (hl : lv_has ls 13 [(0, .ref (ad 0)), (1, .int (zI v1)), (3, .int (zI v3)), (4, .int (zI v4)), (5, .ref (ad o5)), (6, .int (zI v6)), (7, .int (zI v7)), (8, .int (zI v8)), (9, .int (zI v9)), (10, .int (zI v10)), (11, .int (zI v11))]) (h : p_X7_lives_143 K62 K88 v1 v3 v4 o5 v6 v7 v8 v9 v10 v11 σ = some res) : W p l e (rmU 2 46) s m args below meth c H locs 0 0 (MQ below (QI D cA ad kX 151 R A res) args s 0 0 A) (F0 m 143 ls []) := by
  have h := h
  unfold p_X7_lives_143 at h
  refine y_iconst C dX7_lives_143 ?_
  exact k_X7_lives_144 C hK62 hK88 ho5 hw hl h
set_option maxRecDepth 100000 in
set_option maxHeartbeats 4000000 in
theorem k_X7_lives_88b {K62 : Int → Int → Int → Int → Int → Int → Int → St → Option (Int × St)} {K88 : Int → Int → Int → Int → Int → Int → Int → Int → Int → St → Option (Int × St)} {v1 : Int} {v3 : Int} {v4 : Int} {o5 : Int} {v6 : Int} {v7 : Int} {v8 : Int} {v9 : Int} {v10 : Int} (C : Cx cX7_lives RX7 13 (some .int) D cA adK adV A p s m args meth c) (hK62 : ∀ (v1 : Int) (v3 : Int) (v4 : Int) (o5 : Int) (v6 : Int) (v7 : Int) (v8 : Int) (σ : St) (H : Heap) (locs : List Loc) (ls : Array Slot) (ho5 : kX o5 = (0, 0)), At D cA ad kX 151 R A s σ H locs → lv_has ls 13 [(0, .ref (ad 0)), (1, .int (zI v1)), (3, .int (zI v3)), (4, .int (zI v4)), (5, .ref (ad o5)), (6, .int (zI v6)), (7, .int (zI v7)), (8, .int (zI v8))] → K62 v1 v3 v4 o5 v6 v7 v8 σ = some res → W p l e (rmU 2 46) s m args below meth c H locs 0 0 (MQ below (QI D cA ad kX 151 R A res) args s 0 0 A) (F0 m 62 ls [])) (hK88 : ∀ (v1 : Int) (v3 : Int) (v4 : Int) (o5 : Int) (v6 : Int) (v7 : Int) (v8 : Int) (v9 : Int) (v10 : Int) (σ : St) (H : Heap) (locs : List Loc) (ls : Array Slot) (ho5 : kX o5 = (0, 0)), At D cA ad kX 151 R A s σ H locs → lv_has ls 13 [(0, .ref (ad 0)), (1, .int (zI v1)), (3, .int (zI v3)), (4, .int (zI v4)), (5, .ref (ad o5)), (6, .int (zI v6)), (7, .int (zI v7)), (8, .int (zI v8)), (9, .int (zI v9)), (10, .int (zI v10))] → K88 v1 v3 v4 o5 v6 v7 v8 v9 v10 σ = some res → W p l e (rmU 2 46) s m args below meth c H locs 0 0 (MQ below (QI D cA ad kX 151 R A res) args s 0 0 A) (F0 m 88 ls [])) {σ : St} {H : Heap} {locs : List Loc} {ls : Array Slot} (ho5 : kX o5 = (0, 0)) (hw : At D cA ad kX 151 R A s σ H locs) (hl : lv_has ls 13 [(0, .ref (ad 0)), (1, .int (zI v1)), (3, .int (zI v3)), (4, .int (zI v4)), (5, .ref (ad o5)), (6, .int (zI v6)), (7, .int (zI v7)), (8, .int (zI v8)), (9, .int (zI v9)), (10, .int (zI v10))]) (h : p_X7_lives_88b K62 K88 v1 v3 v4 o5 v6 v7 v8 v9 v10 σ = some res) : W p l e (rmU 2 46) s m args below meth c H locs 0 0 (MQ below (QI D cA ad kX 151 R A res) args s 0 0 A) (F0 m 88 ls []) := by
  have h := h
  unfold p_X7_lives_88b at h
  refine y_iload C dX7_lives_88 (lv_at hl 9 rfl) ?_
  refine y_bipush C dX7_lives_90 (by decide) ?_
  refine y_icmp_ge (tgt := 191) C (a' := zm v10) (b' := 12) rfl (by decide) dX7_lives_92 (by decide) (fun hc => ?_) (fun hc => ?_)
  · rw [if_pos hc] at h
    refine y_aload C dX7_lives_191 (lv_at hl 4 rfl) ?_
    refine y_iload C dX7_lives_193 (lv_at hl 5 rfl) ?_
    refine y_iload C dX7_lives_195 (lv_at hl 8 rfl) ?_
    obtain ⟨x197, hc197, h⟩ := bd_some h
    refine y_ci (rest := []) hw (y_rV C hw ho5 (by decide) rfl rfl (c_X0_rungAfter ho5 hc197) mi_X0_rungAfter wd_562 wd_563 wd_564 rfl ⟨by decide, by decide⟩ hl rfl (Nat.le_of_ble_eq_true rfl) dX7_lives_197) (fun H locs hw => ?_)
    refine y_istore (lv' := [(6, .int (zI x197.1)), (0, .ref (ad 0)), (1, .int (zI v1)), (3, .int (zI v3)), (4, .int (zI v4)), (5, .ref (ad o5)), (7, .int (zI v7)), (8, .int (zI v8)), (9, .int (zI v9)), (10, .int (zI v10))]) C dX7_lives_200 hl (by decide) rfl (fun ls hl => ?_)
    refine y_iinc (lv' := [(8, .int (zI (v8 + 1))), (6, .int (zI x197.1)), (0, .ref (ad 0)), (1, .int (zI v1)), (3, .int (zI v3)), (4, .int (zI v4)), (5, .ref (ad o5)), (7, .int (zI v7)), (9, .int (zI v9)), (10, .int (zI v10))]) C dX7_lives_202 hl (k := 7) rfl (by decide) rfl (fun ls hl => ?_)
    refine y_goto (tgt := 62) C dX7_lives_205 (by decide) ?_
    exact hK62 _ _ _ _ _ _ _ _ _ _ _ ho5 hw (lv_sub hl [2, 3, 4, 5, 6, 1, 7, 0] rfl) h
  · rw [if_neg hc] at h
    refine y_aload_n C dX7_lives_95 (lv_at hl 0 rfl) ?_
    refine g7 C hw kx_0 2 (by decide) wd_296 rfl dX7_lives_96 ?_
    refine y_iload_n C dX7_lives_99 (lv_at hl 1 rfl) ?_
    obtain ⟨hg100, h⟩ := gd_some h
    refine y_aald C hw kx_4 (by decide) rfl rfl (i' := zm v1) rfl hg100 dX7_lives_100 ?_
    refine y_aload_n C dX7_lives_101 (lv_at hl 0 rfl) ?_
    refine g7 C hw kx_0 9 (by decide) wd_303 rfl dX7_lives_102 ?_
    refine y_sipush C dX7_lives_105 (by decide) ?_
    obtain ⟨x108, hc108, h⟩ := bd_some h
    refine y_ci (rest := [.ref (ad (27 + 4 * zm v1))]) hw (y_rV C hw kx_16 (by decide) rfl rfl (c_X2_draw kx_16 hc108) mi_X2_draw wd_836 wd_837 wd_838 rfl ⟨by decide, by decide⟩ hl rfl (Nat.le_of_ble_eq_true rfl) dX7_lives_108) (fun H locs hw => ?_)
    obtain ⟨x111, hc111, h⟩ := bd_some h
    refine y_ci (rest := []) hw (y_rV C hw (kr_31 (i := zm v1) hg100) (by decide) rfl rfl (c_X6_sumDrawn (kr_31 (i := zm v1) hg100) hc111) mi_X6_sumDrawn wd_844 wd_845 wd_846 rfl ⟨by decide, by decide⟩ hl rfl (Nat.le_of_ble_eq_true rfl) dX7_lives_111) (fun H locs hw => ?_)
    refine y_istore (lv' := [(11, .int (zI x111.1)), (0, .ref (ad 0)), (1, .int (zI v1)), (3, .int (zI v3)), (4, .int (zI v4)), (5, .ref (ad o5)), (6, .int (zI v6)), (7, .int (zI v7)), (8, .int (zI v8)), (9, .int (zI v9)), (10, .int (zI v10))]) C dX7_lives_114 hl (by decide) rfl (fun ls hl => ?_)
    refine y_iload C dX7_lives_116 (lv_at hl 0 rfl) ?_
    refine y_if_le (tgt := 143) C (a' := zm x111.1) rfl dX7_lives_118 (by decide) (fun hc => ?_) (fun hc => ?_)
    · rw [if_pos hc] at h
      exact k_X7_lives_143 C hK62 hK88 ho5 hw (lv_sub hl [1, 2, 3, 4, 5, 6, 7, 8, 9, 10, 0] rfl) h
    · rw [if_neg hc] at h
      refine y_iload C dX7_lives_121 (lv_at hl 0 rfl) ?_
      refine y_aload_n C dX7_lives_123 (lv_at hl 1 rfl) ?_
      refine g7 C hw kx_0 3 (by decide) wd_297 rfl dX7_lives_124 ?_
      refine y_iload_n C dX7_lives_127 (lv_at hl 3 rfl) ?_
      obtain ⟨hg128, h⟩ := gd_some h
      refine y_aald C hw kx_5 (by decide) rfl rfl (i' := zm v3) rfl hg128 dX7_lives_128 ?_
      refine y_iload C dX7_lives_129 (lv_at hl 6 rfl) ?_
      refine y_iload C dX7_lives_131 (lv_at hl 10 rfl) ?_
      obtain ⟨x133, hc133, h⟩ := bd_some h
      refine y_ci (rest := [.int (zI x111.1)]) hw (y_rV C hw (kr_32 (i := zm v3) hg128) (by decide) rfl rfl (c_X5_barOn (kr_32 (i := zm v3) hg128) hc133) mi_X5_barOn wd_848 wd_626 wd_627 rfl ⟨by decide, by decide⟩ hl rfl (Nat.le_of_ble_eq_true rfl) dX7_lives_133) (fun H locs hw => ?_)
      refine y_icmp_lt (tgt := 143) C (a' := zm x111.1) (b' := zm x133.1) rfl rfl dX7_lives_136 (by decide) (fun hc => ?_) (fun hc => ?_)
      · rw [if_pos hc] at h
        exact k_X7_lives_143 C hK62 hK88 ho5 hw (lv_sub hl [1, 2, 3, 4, 5, 6, 7, 8, 9, 10, 0] rfl) h
      · rw [if_neg hc] at h
        refine y_iconst C dX7_lives_139 ?_
        refine y_goto (tgt := 144) C dX7_lives_140 (by decide) ?_
        exact k_X7_lives_144 C hK62 hK88 ho5 hw (lv_sub hl [1, 2, 3, 4, 5, 6, 7, 8, 9, 10, 0] rfl) h
set_option maxRecDepth 100000 in
theorem k_X7_lives_88 {K62 : Int → Int → Int → Int → Int → Int → Int → St → Option (Int × St)} (C : Cx cX7_lives RX7 13 (some .int) D cA adK adV A p s m args meth c) (hK62 : ∀ (v1 : Int) (v3 : Int) (v4 : Int) (o5 : Int) (v6 : Int) (v7 : Int) (v8 : Int) (σ : St) (H : Heap) (locs : List Loc) (ls : Array Slot) (ho5 : kX o5 = (0, 0)), At D cA ad kX 151 R A s σ H locs → lv_has ls 13 [(0, .ref (ad 0)), (1, .int (zI v1)), (3, .int (zI v3)), (4, .int (zI v4)), (5, .ref (ad o5)), (6, .int (zI v6)), (7, .int (zI v7)), (8, .int (zI v8))] → K62 v1 v3 v4 o5 v6 v7 v8 σ = some res → W p l e (rmU 2 46) s m args below meth c H locs 0 0 (MQ below (QI D cA ad kX 151 R A res) args s 0 0 A) (F0 m 62 ls [])) : ∀ (n : Nat) (v1 : Int) (v3 : Int) (v4 : Int) (o5 : Int) (v6 : Int) (v7 : Int) (v8 : Int) (v9 : Int) (v10 : Int) (σ : St) (H : Heap) (locs : List Loc) (ls : Array Slot) (ho5 : kX o5 = (0, 0)), At D cA ad kX 151 R A s σ H locs → lv_has ls 13 [(0, .ref (ad 0)), (1, .int (zI v1)), (3, .int (zI v3)), (4, .int (zI v4)), (5, .ref (ad o5)), (6, .int (zI v6)), (7, .int (zI v7)), (8, .int (zI v8)), (9, .int (zI v9)), (10, .int (zI v10))] → p_X7_lives_88 K62 n v1 v3 v4 o5 v6 v7 v8 v9 v10 σ = some res → W p l e (rmU 2 46) s m args below meth c H locs 0 0 (MQ below (QI D cA ad kX 151 R A res) args s 0 0 A) (F0 m 88 ls []) := by
  intro n
  induction n with
  | zero =>
    intro v1 v3 v4 o5 v6 v7 v8 v9 v10 σ H locs ls ho5 hw hl h
    have h : none = some res := h
    cases h
  | succ n ih =>
    intro v1 v3 v4 o5 v6 v7 v8 v9 v10 σ H locs ls ho5 hw hl h
    exact k_X7_lives_88b C hK62 ih ho5 hw hl h
set_option maxRecDepth 100000 in
set_option maxHeartbeats 4000000 in
theorem k_X7_lives_62b {K62 : Int → Int → Int → Int → Int → Int → Int → St → Option (Int × St)} {v1 : Int} {v3 : Int} {v4 : Int} {o5 : Int} {v6 : Int} {v7 : Int} {v8 : Int} (C : Cx cX7_lives RX7 13 (some .int) D cA adK adV A p s m args meth c)  (hK62 : ∀ (v1 : Int) (v3 : Int) (v4 : Int) (o5 : Int) (v6 : Int) (v7 : Int) (v8 : Int) (σ : St) (H : Heap) (locs : List Loc) (ls : Array Slot) (ho5 : kX o5 = (0, 0)), At D cA ad kX 151 R A s σ H locs → lv_has ls 13 [(0, .ref (ad 0)), (1, .int (zI v1)), (3, .int (zI v3)), (4, .int (zI v4)), (5, .ref (ad o5)), (6, .int (zI v6)), (7, .int (zI v7)), (8, .int (zI v8))] → K62 v1 v3 v4 o5 v6 v7 v8 σ = some res → W p l e (rmU 2 46) s m args below meth c H locs 0 0 (MQ below (QI D cA ad kX 151 R A res) args s 0 0 A) (F0 m 62 ls [])) {σ : St} {H : Heap} {locs : List Loc} {ls : Array Slot} (ho5 : kX o5 = (0, 0)) (hw : At D cA ad kX 151 R A s σ H locs) (hl : lv_has ls 13 [(0, .ref (ad 0)), (1, .int (zI v1)), (3, .int (zI v3)), (4, .int (zI v4)), (5, .ref (ad o5)), (6, .int (zI v6)), (7, .int (zI v7)), (8, .int (zI v8))]) (h : p_X7_lives_62b K62 v1 v3 v4 o5 v6 v7 v8 σ = some res) : W p l e (rmU 2 46) s m args below meth c H locs 0 0 (MQ below (QI D cA ad kX 151 R A res) args s 0 0 A) (F0 m 62 ls []) := by
  have h := h
  unfold p_X7_lives_62b at h
  refine y_iload C dX7_lives_62 (lv_at hl 7 rfl) ?_
  refine y_iload C dX7_lives_64 (lv_at hl 3 rfl) ?_
  refine y_icmp_ge (tgt := 208) C (a' := zm v8) (b' := zm v4) rfl rfl dX7_lives_66 (by decide) (fun hc => ?_) (fun hc => ?_)
  · rw [if_pos hc] at h
    refine y_iload C dX7_lives_208 (lv_at hl 6 rfl) ?_
    exact y_iret C hw h dX7_lives_210
  · rw [if_neg hc] at h
    refine y_iload C dX7_lives_69 (lv_at hl 6 rfl) ?_
    refine y_aload C dX7_lives_71 (lv_at hl 4 rfl) ?_
    refine g0 C hw ho5 0 (by decide) wd_81 rfl dX7_lives_73 ?_
    refine y_iload C dX7_lives_76 (lv_at hl 5 rfl) ?_
    obtain ⟨hg78, h⟩ := gd_some h
    refine y_iald C hw (ka0_prices ho5) (i' := zm v6) rfl hg78 dX7_lives_78 ?_
    refine y_iadd C dX7_lives_79 ?_
    refine y_istore (lv' := [(7, .int (zI (v7 + (σ (o5 + 1) (zm v6))))), (0, .ref (ad 0)), (1, .int (zI v1)), (3, .int (zI v3)), (4, .int (zI v4)), (5, .ref (ad o5)), (6, .int (zI v6)), (8, .int (zI v8))]) C dX7_lives_80 hl (by decide) rfl (fun ls hl => ?_)
    refine y_iconst C dX7_lives_82 ?_
    refine y_istore (lv' := [(9, .int (zI 0)), (7, .int (zI (v7 + (σ (o5 + 1) (zm v6))))), (0, .ref (ad 0)), (1, .int (zI v1)), (3, .int (zI v3)), (4, .int (zI v4)), (5, .ref (ad o5)), (6, .int (zI v6)), (8, .int (zI v8))]) C dX7_lives_83 hl (by decide) rfl (fun ls hl => ?_)
    refine y_iconst C dX7_lives_85 ?_
    refine y_istore (lv' := [(10, .int (zI 0)), (9, .int (zI 0)), (7, .int (zI (v7 + (σ (o5 + 1) (zm v6))))), (0, .ref (ad 0)), (1, .int (zI v1)), (3, .int (zI v3)), (4, .int (zI v4)), (5, .ref (ad o5)), (6, .int (zI v6)), (8, .int (zI v8))]) C dX7_lives_86 hl (by decide) rfl (fun ls hl => ?_)
    exact k_X7_lives_88 C hK62 FU _ _ _ _ _ _ _ _ _ _ _ _ _ ho5 hw (lv_sub hl [3, 4, 5, 6, 7, 8, 2, 9, 1, 0] rfl) h
set_option maxRecDepth 100000 in
theorem k_X7_lives_62  (C : Cx cX7_lives RX7 13 (some .int) D cA adK adV A p s m args meth c)  : ∀ (n : Nat) (v1 : Int) (v3 : Int) (v4 : Int) (o5 : Int) (v6 : Int) (v7 : Int) (v8 : Int) (σ : St) (H : Heap) (locs : List Loc) (ls : Array Slot) (ho5 : kX o5 = (0, 0)), At D cA ad kX 151 R A s σ H locs → lv_has ls 13 [(0, .ref (ad 0)), (1, .int (zI v1)), (3, .int (zI v3)), (4, .int (zI v4)), (5, .ref (ad o5)), (6, .int (zI v6)), (7, .int (zI v7)), (8, .int (zI v8))] → p_X7_lives_62  n v1 v3 v4 o5 v6 v7 v8 σ = some res → W p l e (rmU 2 46) s m args below meth c H locs 0 0 (MQ below (QI D cA ad kX 151 R A res) args s 0 0 A) (F0 m 62 ls []) := by
  intro n
  induction n with
  | zero =>
    intro v1 v3 v4 o5 v6 v7 v8 σ H locs ls ho5 hw hl h
    have h : none = some res := h
    cases h
  | succ n ih =>
    intro v1 v3 v4 o5 v6 v7 v8 σ H locs ls ho5 hw hl h
    exact k_X7_lives_62b C  ih ho5 hw hl h
set_option maxRecDepth 100000 in
set_option maxHeartbeats 4000000 in
theorem k_X7_lives_0  {v1 : Int} {v2 : Int} {v3 : Int} {v4 : Int} (C : Cx cX7_lives RX7 13 (some .int) D cA adK adV A p s m args meth c)  {σ : St} {H : Heap} {locs : List Loc} {ls : Array Slot}  (hw : At D cA ad kX 151 R A s σ H locs) (hl : lv_has ls 13 [(0, .ref (ad 0)), (1, .int (zI v1)), (2, .int (zI v2)), (3, .int (zI v3)), (4, .int (zI v4))]) (h : p_X7_lives  v1 v2 v3 v4 σ = some res) : W p l e (rmU 2 46) s m args below meth c H locs 0 0 (MQ below (QI D cA ad kX 151 R A res) args s 0 0 A) (F0 m 0 ls []) := by
  have h := h
  unfold p_X7_lives at h
  refine y_aload_n C dX7_lives_0 (lv_at hl 0 rfl) ?_
  refine y_iload_n C dX7_lives_1 (lv_at hl 1 rfl) ?_
  obtain ⟨x2, hc2, h⟩ := bd_some h
  refine y_ci (rest := []) hw (y_rV C hw kx_0 (by decide) rfl rfl (c_X7_isSort  hc2) mi_X7_isSort wd_580 wd_582 ws_12 rfl ⟨by decide, by decide⟩ hl rfl (Nat.le_of_ble_eq_true rfl) dX7_lives_2) (fun H locs hw => ?_)
  refine y_if_eq (tgt := 24) C (a' := zm x2.1) rfl dX7_lives_5 (by decide) (fun hc => ?_) (fun hc => ?_)
  · rw [if_pos hc] at h
    refine y_ldc C (z := (-1000000001)) wd_354 (by decide) dX7_lives_24 ?_
    exact y_iret C hw h dX7_lives_26
  · rw [if_neg hc] at h
    refine y_aload_n C dX7_lives_8 (lv_at hl 0 rfl) ?_
    refine y_iload_n C dX7_lives_9 (lv_at hl 2 rfl) ?_
    obtain ⟨x10, hc10, h⟩ := bd_some h
    refine y_ci (rest := []) hw (y_rV C hw kx_0 (by decide) rfl rfl (c_X7_isHouse  hc10) mi_X7_isHouse wd_546 wd_548 ws_10 rfl ⟨by decide, by decide⟩ hl rfl (Nat.le_of_ble_eq_true rfl) dX7_lives_10) (fun H locs hw => ?_)
    refine y_if_eq (tgt := 24) C (a' := zm x10.1) rfl dX7_lives_13 (by decide) (fun hc => ?_) (fun hc => ?_)
    · rw [if_pos hc] at h
      refine y_ldc C (z := (-1000000001)) wd_354 (by decide) dX7_lives_24 ?_
      exact y_iret C hw h dX7_lives_26
    · rw [if_neg hc] at h
      refine y_aload_n C dX7_lives_16 (lv_at hl 0 rfl) ?_
      refine y_iload_n C dX7_lives_17 (lv_at hl 3 rfl) ?_
      obtain ⟨x18, hc18, h⟩ := bd_some h
      refine y_ci (rest := []) hw (y_rV C hw kx_0 (by decide) rfl rfl (c_X7_isRule  hc18) mi_X7_isRule wd_667 wd_669 ws_18 rfl ⟨by decide, by decide⟩ hl rfl (Nat.le_of_ble_eq_true rfl) dX7_lives_18) (fun H locs hw => ?_)
      refine y_if_ne (tgt := 27) C (a' := zm x18.1) rfl dX7_lives_21 (by decide) (fun hc => ?_) (fun hc => ?_)
      · rw [if_pos hc] at h
        refine y_ldc C (z := (-1000000001)) wd_354 (by decide) dX7_lives_24 ?_
        exact y_iret C hw h dX7_lives_26
      · rw [if_neg hc] at h
        refine y_iload C dX7_lives_27 (lv_at hl 4 rfl) ?_
        refine y_iconst C dX7_lives_29 ?_
        refine y_bipush C dX7_lives_30 (by decide) ?_
        obtain ⟨x32, hc32, h⟩ := bd_some h
        refine y_ci (rest := []) hw (y_rS C hw (c_X7_isOut  hc32) mi_X7_isOut wd_341 wd_342 rfl ⟨by decide, by decide⟩ hl rfl (Nat.le_of_ble_eq_true rfl) dX7_lives_32) (fun H locs hw => ?_)
        refine y_if_eq (tgt := 41) C (a' := zm x32.1) rfl dX7_lives_35 (by decide) (fun hc => ?_) (fun hc => ?_)
        · rw [if_pos hc] at h
          refine y_aload_n C dX7_lives_41 (lv_at hl 0 rfl) ?_
          refine g7 C hw kx_0 1 (by decide) wd_295 rfl dX7_lives_42 ?_
          refine y_iload_n C dX7_lives_45 (lv_at hl 2 rfl) ?_
          obtain ⟨hg46, h⟩ := gd_some h
          refine y_aald C hw kx_3 (by decide) rfl rfl (i' := zm v2) rfl hg46 dX7_lives_46 ?_
          refine y_astore (lv' := [(5, .ref (ad (23 + 2 * zm v2))), (0, .ref (ad 0)), (1, .int (zI v1)), (2, .int (zI v2)), (3, .int (zI v3)), (4, .int (zI v4))]) C dX7_lives_47 hl (by decide) rfl (fun ls hl => ?_)
          refine y_aload C dX7_lives_49 (lv_at hl 0 rfl) ?_
          refine g0 C hw (kr_30 (i := zm v2) hg46) 6 (by decide) wd_97 rfl dX7_lives_51 ?_
          refine y_istore (lv' := [(6, .int (zI (x32.2 (23 + 2 * zm v2) 6))), (5, .ref (ad (23 + 2 * zm v2))), (0, .ref (ad 0)), (1, .int (zI v1)), (2, .int (zI v2)), (3, .int (zI v3)), (4, .int (zI v4))]) C dX7_lives_54 hl (by decide) rfl (fun ls hl => ?_)
          refine y_iconst C dX7_lives_56 ?_
          refine y_istore (lv' := [(7, .int (zI 0)), (6, .int (zI (x32.2 (23 + 2 * zm v2) 6))), (5, .ref (ad (23 + 2 * zm v2))), (0, .ref (ad 0)), (1, .int (zI v1)), (2, .int (zI v2)), (3, .int (zI v3)), (4, .int (zI v4))]) C dX7_lives_57 hl (by decide) rfl (fun ls hl => ?_)
          refine y_iconst C dX7_lives_59 ?_
          refine y_istore (lv' := [(8, .int (zI 0)), (7, .int (zI 0)), (6, .int (zI (x32.2 (23 + 2 * zm v2) 6))), (5, .ref (ad (23 + 2 * zm v2))), (0, .ref (ad 0)), (1, .int (zI v1)), (2, .int (zI v2)), (3, .int (zI v3)), (4, .int (zI v4))]) C dX7_lives_60 hl (by decide) rfl (fun ls hl => ?_)
          exact k_X7_lives_62 C  FU _ _ _ _ _ _ _ _ _ _ _ (kr_30 (i := zm v2) hg46) hw (lv_sub hl [4, 5, 7, 8, 3, 2, 1, 0] rfl) h
        · rw [if_neg hc] at h
          refine y_ldc C (z := (-1000000002)) wd_344 (by decide) dX7_lives_38 ?_
          exact y_iret C hw h dX7_lives_40
theorem c_X7_lives {l : Launch} {D : va_G} {cA : Nat → ClassId} {adK adV : Nat → Nat} {A : Nat → Prop} {ad : Int → Nat} {R : va_W} {σ : St} {res : Int × St} {v1 : Int} {v2 : Int} {v3 : Int} {v4 : Int}  (h : p_X7_lives v1 v2 v3 v4 σ = some res) : Met l yX7_lives (wsU yX7_lives cX7_lives 13 (some .int)) (rmU 2 46) (va_Pc [.ref (ad 0), .int (zI v1), .int (zI v2), .int (zI v3), .int (zI v4)] (Pr D cA adK adV ad kX 151 R A σ)) (QI D cA ad kX 151 R A res) 0 0 A :=
  y_met (own := RX7) (by decide) rfl _ (Nat.le_of_ble_eq_true rfl) (fun p e s m args below meth c ls C hl hw => k_X7_lives_0 C  hw hl h)
/-! RungHouse.count -/
set_option maxRecDepth 100000 in
set_option maxHeartbeats 4000000 in
theorem k_X7_count_0  {v1 : Int} (C : Cx cX7_count RX7 2 (some .int) D cA adK adV A p s m args meth c)  {σ : St} {H : Heap} {locs : List Loc} {ls : Array Slot}  (hw : At D cA ad kX 151 R A s σ H locs) (hl : lv_has ls 2 [(0, .ref (ad 0)), (1, .int (zI v1))]) (h : p_X7_count  v1 σ = some res) : W p l e (rmU 0 0) s m args below meth c H locs 0 0 (MQ below (QI D cA ad kX 151 R A res) args s 0 0 A) (F0 m 0 ls []) := by
  have h := h
  unfold p_X7_count at h
  refine y_iload_n C dX7_count_0 (lv_at hl 1 rfl) ?_
  by_cases hc0 : zm v1 = 0
  · rw [if_pos hc0] at h
    refine y_tabIn (tgt := 36) C dX7_count_1 hc0 (by decide) (by decide) rfl (by decide) ?_
    refine y_aload_n C dX7_count_36 (lv_at hl 0 rfl) ?_
    refine g7 C hw kx_0 11 (by decide) wd_305 rfl dX7_count_37 ?_
    exact y_iret C hw h dX7_count_40
  · rw [if_neg hc0] at h
    by_cases hc1 : zm v1 = 1
    · rw [if_pos hc1] at h
      refine y_tabIn (tgt := 41) C dX7_count_1 hc1 (by decide) (by decide) rfl (by decide) ?_
      refine y_aload_n C dX7_count_41 (lv_at hl 0 rfl) ?_
      refine g7 C hw kx_0 12 (by decide) wd_306 rfl dX7_count_42 ?_
      exact y_iret C hw h dX7_count_45
    · rw [if_neg hc1] at h
      by_cases hc2 : zm v1 = 2
      · rw [if_pos hc2] at h
        refine y_tabIn (tgt := 46) C dX7_count_1 hc2 (by decide) (by decide) rfl (by decide) ?_
        refine y_aload_n C dX7_count_46 (lv_at hl 0 rfl) ?_
        refine g7 C hw kx_0 9 (by decide) wd_303 rfl dX7_count_47 ?_
        refine g2 C hw kx_16 3 (by decide) wd_149 rfl dX7_count_50 ?_
        exact y_iret C hw h dX7_count_53
      · rw [if_neg hc2] at h
        by_cases hc3 : zm v1 = 3
        · rw [if_pos hc3] at h
          refine y_tabIn (tgt := 54) C dX7_count_1 hc3 (by decide) (by decide) rfl (by decide) ?_
          refine y_aload_n C dX7_count_54 (lv_at hl 0 rfl) ?_
          refine g7 C hw kx_0 9 (by decide) wd_303 rfl dX7_count_55 ?_
          refine g2 C hw kx_16 6 (by decide) wd_155 rfl dX7_count_58 ?_
          exact y_iret C hw h dX7_count_61
        · rw [if_neg hc3] at h
          by_cases hc4 : zm v1 = 4
          · rw [if_pos hc4] at h
            refine y_tabIn (tgt := 62) C dX7_count_1 hc4 (by decide) (by decide) rfl (by decide) ?_
            refine y_aload_n C dX7_count_62 (lv_at hl 0 rfl) ?_
            refine g7 C hw kx_0 0 (by decide) wd_294 rfl dX7_count_63 ?_
            refine g4 C hw kx_1 1 (by decide) wd_31 rfl dX7_count_66 ?_
            exact y_iret C hw h dX7_count_69
          · rw [if_neg hc4] at h
            refine y_tabOut (tgt := 70) C dX7_count_1 (by omega) (by decide) ?_
            refine y_ldc C (z := (-1000000002)) wd_344 (by decide) dX7_count_70 ?_
            exact y_iret C hw h dX7_count_72
theorem c_X7_count {l : Launch} {D : va_G} {cA : Nat → ClassId} {adK adV : Nat → Nat} {A : Nat → Prop} {ad : Int → Nat} {R : va_W} {σ : St} {res : Int × St} {v1 : Int}  (h : p_X7_count v1 σ = some res) : Met l yX7_count (wsU yX7_count cX7_count 2 (some .int)) (rmU 0 0) (va_Pc [.ref (ad 0), .int (zI v1)] (Pr D cA adK adV ad kX 151 R A σ)) (QI D cA ad kX 151 R A res) 0 0 A :=
  y_met (own := RX7) (by decide) rfl _ (Nat.le_of_ble_eq_true rfl) (fun p e s m args below meth c ls C hl hw => k_X7_count_0 C  hw hl h)
/-! RungHouse.keep -/
set_option maxRecDepth 100000 in
set_option maxHeartbeats 4000000 in
theorem k_X7_keep_0  {v1 : Int} (C : Cx cX7_keep RX7 2 (some .int) D cA adK adV A p s m args meth c)  {σ : St} {H : Heap} {locs : List Loc} {ls : Array Slot}  (hw : At D cA ad kX 151 R A s σ H locs) (hl : lv_has ls 2 [(0, .ref (ad 0)), (1, .int (zI v1))]) (h : p_X7_keep  v1 σ = some res) : W p l e (rmU 1 22) s m args below meth c H locs 0 0 (MQ below (QI D cA ad kX 151 R A res) args s 0 0 A) (F0 m 0 ls []) := by
  have h := h
  unfold p_X7_keep at h
  refine y_iload_n C dX7_keep_0 (lv_at hl 1 rfl) ?_
  refine y_iconst C dX7_keep_1 ?_
  refine y_iconst C dX7_keep_2 ?_
  obtain ⟨x3, hc3, h⟩ := bd_some h
  refine y_ci (rest := []) hw (y_rS C hw (c_X7_isOut  hc3) mi_X7_isOut wd_341 wd_342 rfl ⟨by decide, by decide⟩ hl rfl (Nat.le_of_ble_eq_true rfl) dX7_keep_3) (fun H locs hw => ?_)
  refine y_if_eq (tgt := 12) C (a' := zm x3.1) rfl dX7_keep_6 (by decide) (fun hc => ?_) (fun hc => ?_)
  · rw [if_pos hc] at h
    refine y_aload_n C dX7_keep_12 (lv_at hl 0 rfl) ?_
    refine g7 C hw kx_0 10 (by decide) wd_304 rfl dX7_keep_13 ?_
    refine y_iload_n C dX7_keep_16 (lv_at hl 1 rfl) ?_
    obtain ⟨hg17, h⟩ := gd_some h
    refine y_aald C hw kx_22 (by decide) rfl rfl (i' := zm v1) rfl hg17 dX7_keep_17 ?_
    refine y_aload_n C dX7_keep_18 (lv_at hl 0 rfl) ?_
    refine g7 C hw kx_0 9 (by decide) wd_303 rfl dX7_keep_19 ?_
    obtain ⟨x22, hc22, h⟩ := bd_some h
    refine y_cv (rest := []) hw (y_rV C hw (kr_34 (i := zm v1) hg17) (by decide) rfl rfl (c_X2_copyFrom (kr_34 (i := zm v1) hg17) kx_16 hc22) mi_X2_copyFrom wd_857 wd_858 wd_859 rfl ⟨by decide, by decide⟩ hl rfl (Nat.le_of_ble_eq_true rfl) dX7_keep_22) (fun H locs hw => ?_)
    refine y_aload_n C dX7_keep_25 (lv_at hl 0 rfl) ?_
    refine g7 C hw kx_0 10 (by decide) wd_304 rfl dX7_keep_26 ?_
    refine y_iload_n C dX7_keep_29 (lv_at hl 1 rfl) ?_
    refine y_aald C hw kx_22 (by decide) rfl rfl (i' := zm v1) rfl hg17 dX7_keep_30 ?_
    refine y_iconst C dX7_keep_31 ?_
    obtain ⟨σ32, eσ32, h⟩ := nx_some h
    refine q2 C hw (kr_34 (i := zm v1) hg17) 8 (by decide) wd_159 rfl (zb_nar (by decide)) rfl (by decide) 1 8 rfl rfl dX7_keep_32 (fun H locs hw => ?_)
    rw [← eσ32] at hw
    refine y_iconst C dX7_keep_35 ?_
    exact y_iret C hw h dX7_keep_36
  · rw [if_neg hc] at h
    refine y_ldc C (z := (-1000000001)) wd_354 (by decide) dX7_keep_9 ?_
    exact y_iret C hw h dX7_keep_11
theorem c_X7_keep {l : Launch} {D : va_G} {cA : Nat → ClassId} {adK adV : Nat → Nat} {A : Nat → Prop} {ad : Int → Nat} {R : va_W} {σ : St} {res : Int × St} {v1 : Int}  (h : p_X7_keep v1 σ = some res) : Met l yX7_keep (wsU yX7_keep cX7_keep 2 (some .int)) (rmU 1 22) (va_Pc [.ref (ad 0), .int (zI v1)] (Pr D cA adK adV ad kX 151 R A σ)) (QI D cA ad kX 151 R A res) 0 0 A :=
  y_met (own := RX7) (by decide) rfl _ (Nat.le_of_ble_eq_true rfl) (fun p e s m args below meth c ls C hl hw => k_X7_keep_0 C  hw hl h)
/-! RungHouse.goBack -/
set_option maxRecDepth 100000 in
set_option maxHeartbeats 4000000 in
theorem k_X7_goBack_0  {v1 : Int} (C : Cx cX7_goBack RX7 2 (some .int) D cA adK adV A p s m args meth c)  {σ : St} {H : Heap} {locs : List Loc} {ls : Array Slot}  (hw : At D cA ad kX 151 R A s σ H locs) (hl : lv_has ls 2 [(0, .ref (ad 0)), (1, .int (zI v1))]) (h : p_X7_goBack  v1 σ = some res) : W p l e (rmU 1 22) s m args below meth c H locs 0 0 (MQ below (QI D cA ad kX 151 R A res) args s 0 0 A) (F0 m 0 ls []) := by
  have h := h
  unfold p_X7_goBack at h
  refine y_iload_n C dX7_goBack_0 (lv_at hl 1 rfl) ?_
  refine y_iconst C dX7_goBack_1 ?_
  refine y_iconst C dX7_goBack_2 ?_
  obtain ⟨x3, hc3, h⟩ := bd_some h
  refine y_ci (rest := []) hw (y_rS C hw (c_X7_isOut  hc3) mi_X7_isOut wd_341 wd_342 rfl ⟨by decide, by decide⟩ hl rfl (Nat.le_of_ble_eq_true rfl) dX7_goBack_3) (fun H locs hw => ?_)
  refine y_if_eq (tgt := 12) C (a' := zm x3.1) rfl dX7_goBack_6 (by decide) (fun hc => ?_) (fun hc => ?_)
  · rw [if_pos hc] at h
    refine y_aload_n C dX7_goBack_12 (lv_at hl 0 rfl) ?_
    refine g7 C hw kx_0 10 (by decide) wd_304 rfl dX7_goBack_13 ?_
    refine y_iload_n C dX7_goBack_16 (lv_at hl 1 rfl) ?_
    obtain ⟨hg17, h⟩ := gd_some h
    refine y_aald C hw kx_22 (by decide) rfl rfl (i' := zm v1) rfl hg17 dX7_goBack_17 ?_
    refine g2 C hw (kr_34 (i := zm v1) hg17) 8 (by decide) wd_159 rfl dX7_goBack_18 ?_
    refine y_if_ne (tgt := 27) C (a' := zm (x3.2 (139 + 6 * zm v1) 8)) rfl dX7_goBack_21 (by decide) (fun hc => ?_) (fun hc => ?_)
    · rw [if_pos hc] at h
      refine y_ldc C (z := (-1000000003)) wd_490 (by decide) dX7_goBack_24 ?_
      exact y_iret C hw h dX7_goBack_26
    · rw [if_neg hc] at h
      refine y_aload_n C dX7_goBack_27 (lv_at hl 0 rfl) ?_
      refine g7 C hw kx_0 9 (by decide) wd_303 rfl dX7_goBack_28 ?_
      refine y_aload_n C dX7_goBack_31 (lv_at hl 0 rfl) ?_
      refine g7 C hw kx_0 10 (by decide) wd_304 rfl dX7_goBack_32 ?_
      refine y_iload_n C dX7_goBack_35 (lv_at hl 1 rfl) ?_
      refine y_aald C hw kx_22 (by decide) rfl rfl (i' := zm v1) rfl hg17 dX7_goBack_36 ?_
      obtain ⟨x37, hc37, h⟩ := bd_some h
      refine y_cv (rest := []) hw (y_rV C hw kx_16 (by decide) rfl rfl (c_X2_copyFrom kx_16 (kr_34 (i := zm v1) hg17) hc37) mi_X2_copyFrom wd_857 wd_858 wd_859 rfl ⟨by decide, by decide⟩ hl rfl (Nat.le_of_ble_eq_true rfl) dX7_goBack_37) (fun H locs hw => ?_)
      refine y_iconst C dX7_goBack_40 ?_
      exact y_iret C hw h dX7_goBack_41
  · rw [if_neg hc] at h
    refine y_ldc C (z := (-1000000001)) wd_354 (by decide) dX7_goBack_9 ?_
    exact y_iret C hw h dX7_goBack_11
theorem c_X7_goBack {l : Launch} {D : va_G} {cA : Nat → ClassId} {adK adV : Nat → Nat} {A : Nat → Prop} {ad : Int → Nat} {R : va_W} {σ : St} {res : Int × St} {v1 : Int}  (h : p_X7_goBack v1 σ = some res) : Met l yX7_goBack (wsU yX7_goBack cX7_goBack 2 (some .int)) (rmU 1 22) (va_Pc [.ref (ad 0), .int (zI v1)] (Pr D cA adK adV ad kX 151 R A σ)) (QI D cA ad kX 151 R A res) 0 0 A :=
  y_met (own := RX7) (by decide) rfl _ (Nat.le_of_ble_eq_true rfl) (fun p e s m args below meth c ls C hl hw => k_X7_goBack_0 C  hw hl h)
end K
