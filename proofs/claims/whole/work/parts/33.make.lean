set_option maxRecDepth 100000 in
set_option maxHeartbeats 4000000 in
theorem ci_X4_init {l : Launch} {D : va_G} {cA : Nat → ClassId} {adK adV : Nat → Nat} {A : Nat → Prop} {ws : va_W} {h0 : Nat} : Met l yX4_init (wsU yX4_init cX4_init 1 none) { frames := 1, cells := 1, slots := 300, locals := 12 } (va_Pc [.ref h0] (PrI D cA adK adV A (ws ++ [(h0, .inr (4, [.null, .int 0, .int 0, .int 0, .int 0, .int 0, .int 0, .int 0, .int 0]))]))) (QN D A (fun u : Nat => ws ++ [(h0, .inr (4, [.ref u, .int (zI 0), .int (zI 0), .int (zI (-1)), .int (zI 0), .int (zI 0), .int (zI 0), .int (zI 0), .int (zI 0)])), (u, .inl (cA 0, 300, .inl (fun _ => 0)))])) 1 300 A :=
  z_met (own := RX4) (by decide) rfl rfl _ (Nat.le_of_ble_eq_true rfl) (fun p e s m args below meth c ls C hnm hA hl hw => by
    have hl : lv_has ls 1 [(0, .ref h0)] := hl
    refine y_aload_n C dX4_init_0 (lv_at hl 0 rfl) ?_
    refine z_obj C hl wd_28 (by decide) (by decide) dX4_init_1 ?_
    refine y_aload_n C dX4_init_4 (lv_at hl 0 rfl) ?_
    refine y_sipush C dX4_init_5 (by decide) ?_
    refine z_newa C hA hw (ty := .int) rfl wd_65 0 rfl (fun _ h => h) (a0 := (300, .inl (fun _ => 0))) (fun _ => rfl) (by decide) (by decide) (by decide) (by decide) (by decide) dX4_init_8 (fun q8_0 H hw => ?_)
    have hw : AW D A s (ws ++ [(h0, .inr (4, [.null, .int 0, .int 0, .int 0, .int 0, .int 0, .int 0, .int 0, .int 0])), (q8_0, .inl (cA 0, 300, .inl (fun _ => 0)))]) H [] := by rw [List.append_assoc] at hw; exact hw
    refine z_putF C hnm hw inX4 tyX4 tyX4_ok nmX4 rfl rfl 0 rfl 0 (by decide) wd_29 (trX4 0) rfl rfl rfl (Nat.le_of_ble_eq_true rfl) dX4_init_10 (fun H locs hw => ?_)
    have hw : AW D A s (ws ++ [(h0, .inr (4, [.ref q8_0, .int 0, .int 0, .int 0, .int 0, .int 0, .int 0, .int 0, .int 0])), (q8_0, .inl (cA 0, 300, .inl (fun _ => 0)))]) H locs := hw
    refine y_aload_n C dX4_init_13 (lv_at hl 0 rfl) ?_
    refine y_iconst C dX4_init_14 ?_
    refine z_put C hw inX4 tyX4 tyX4_ok nmX4 rfl 0 rfl 1 (by decide) wd_30 (trX4 1) rfl rfl rfl (Nat.le_of_ble_eq_true rfl) dX4_init_15 (fun H locs hw => ?_)
    have hw : AW D A s (ws ++ [(h0, .inr (4, [.ref q8_0, .int (zI 0), .int 0, .int 0, .int 0, .int 0, .int 0, .int 0, .int 0])), (q8_0, .inl (cA 0, 300, .inl (fun _ => 0)))]) H locs := hw
    refine y_aload_n C dX4_init_18 (lv_at hl 0 rfl) ?_
    refine y_iconst C dX4_init_19 ?_
    refine z_put C hw inX4 tyX4 tyX4_ok nmX4 rfl 0 rfl 2 (by decide) wd_34 (trX4 2) rfl rfl rfl (Nat.le_of_ble_eq_true rfl) dX4_init_20 (fun H locs hw => ?_)
    have hw : AW D A s (ws ++ [(h0, .inr (4, [.ref q8_0, .int (zI 0), .int (zI 0), .int 0, .int 0, .int 0, .int 0, .int 0, .int 0])), (q8_0, .inl (cA 0, 300, .inl (fun _ => 0)))]) H locs := hw
    refine y_aload_n C dX4_init_23 (lv_at hl 0 rfl) ?_
    refine y_iconst C dX4_init_24 ?_
    refine z_put C hw inX4 tyX4 tyX4_ok nmX4 rfl 0 rfl 3 (by decide) wd_36 (trX4 3) rfl rfl rfl (Nat.le_of_ble_eq_true rfl) dX4_init_25 (fun H locs hw => ?_)
    have hw : AW D A s (ws ++ [(h0, .inr (4, [.ref q8_0, .int (zI 0), .int (zI 0), .int (zI (-1)), .int 0, .int 0, .int 0, .int 0, .int 0])), (q8_0, .inl (cA 0, 300, .inl (fun _ => 0)))]) H locs := hw
    refine y_aload_n C dX4_init_28 (lv_at hl 0 rfl) ?_
    refine y_iconst C dX4_init_29 ?_
    refine z_put C hw inX4 tyX4 tyX4_ok nmX4 rfl 0 rfl 4 (by decide) wd_38 (trX4 4) rfl rfl rfl (Nat.le_of_ble_eq_true rfl) dX4_init_30 (fun H locs hw => ?_)
    have hw : AW D A s (ws ++ [(h0, .inr (4, [.ref q8_0, .int (zI 0), .int (zI 0), .int (zI (-1)), .int (zI 0), .int 0, .int 0, .int 0, .int 0])), (q8_0, .inl (cA 0, 300, .inl (fun _ => 0)))]) H locs := hw
    refine y_aload_n C dX4_init_33 (lv_at hl 0 rfl) ?_
    refine y_iconst C dX4_init_34 ?_
    refine z_put C hw inX4 tyX4 tyX4_ok nmX4 rfl 0 rfl 5 (by decide) wd_39 (trX4 5) rfl rfl rfl (Nat.le_of_ble_eq_true rfl) dX4_init_35 (fun H locs hw => ?_)
    have hw : AW D A s (ws ++ [(h0, .inr (4, [.ref q8_0, .int (zI 0), .int (zI 0), .int (zI (-1)), .int (zI 0), .int (zI 0), .int 0, .int 0, .int 0])), (q8_0, .inl (cA 0, 300, .inl (fun _ => 0)))]) H locs := hw
    refine y_aload_n C dX4_init_38 (lv_at hl 0 rfl) ?_
    refine y_iconst C dX4_init_39 ?_
    refine z_put C hw inX4 tyX4 tyX4_ok nmX4 rfl 0 rfl 6 (by decide) wd_43 (trX4 6) rfl rfl rfl (Nat.le_of_ble_eq_true rfl) dX4_init_40 (fun H locs hw => ?_)
    have hw : AW D A s (ws ++ [(h0, .inr (4, [.ref q8_0, .int (zI 0), .int (zI 0), .int (zI (-1)), .int (zI 0), .int (zI 0), .int (zI 0), .int 0, .int 0])), (q8_0, .inl (cA 0, 300, .inl (fun _ => 0)))]) H locs := hw
    refine y_aload_n C dX4_init_43 (lv_at hl 0 rfl) ?_
    refine y_iconst C dX4_init_44 ?_
    refine z_put C hw inX4 tyX4 tyX4_ok nmX4 rfl 0 rfl 7 (by decide) wd_44 (trX4 7) rfl rfl rfl (Nat.le_of_ble_eq_true rfl) dX4_init_45 (fun H locs hw => ?_)
    have hw : AW D A s (ws ++ [(h0, .inr (4, [.ref q8_0, .int (zI 0), .int (zI 0), .int (zI (-1)), .int (zI 0), .int (zI 0), .int (zI 0), .int (zI 0), .int 0])), (q8_0, .inl (cA 0, 300, .inl (fun _ => 0)))]) H locs := hw
    refine y_aload_n C dX4_init_48 (lv_at hl 0 rfl) ?_
    refine y_iconst C dX4_init_49 ?_
    refine z_put C hw inX4 tyX4 tyX4_ok nmX4 rfl 0 rfl 8 (by decide) wd_45 (trX4 8) rfl rfl rfl (Nat.le_of_ble_eq_true rfl) dX4_init_50 (fun H locs hw => ?_)
    have hw : AW D A s (ws ++ [(h0, .inr (4, [.ref q8_0, .int (zI 0), .int (zI 0), .int (zI (-1)), .int (zI 0), .int (zI 0), .int (zI 0), .int (zI 0), .int (zI 0)])), (q8_0, .inl (cA 0, 300, .inl (fun _ => 0)))]) H locs := hw
    refine W.widen (k := 1) (n := 300) (by decide) (by decide) ?_
    exact z_ret (Wp := fun u : Nat => ws ++ [(h0, .inr (4, [.ref u, .int (zI 0), .int (zI 0), .int (zI (-1)), .int (zI 0), .int (zI 0), .int (zI 0), .int (zI 0), .int (zI 0)])), (u, .inl (cA 0, 300, .inl (fun _ => 0)))]) C q8_0 hw dX4_init_53)
set_option maxRecDepth 100000 in
set_option maxHeartbeats 4000000 in
theorem ci_X0_init {l : Launch} {D : va_G} {cA : Nat → ClassId} {adK adV : Nat → Nat} {A : Nat → Prop} {ws : va_W} {h0 : Nat} : Met l yX0_init (wsU yX0_init cX0_init 1 none) { frames := 1, cells := 1, slots := 10, locals := 12 } (va_Pc [.ref h0] (PrI D cA adK adV A (ws ++ [(h0, .inr (0, [.null, .int 0, .int 0, .int 0, .int 0, .int 0, .int 0]))]))) (QN D A (fun u : Nat => ws ++ [(h0, .inr (0, [.ref u, .int (zI 0), .int (zI 0), .int (zI 1), .int (zI 3), .int (zI 0), .int (zI 0)])), (u, .inl (cA 0, 10, .inl (fun _ => 0)))])) 1 10 A :=
  z_met (own := RX0) (by decide) rfl rfl _ (Nat.le_of_ble_eq_true rfl) (fun p e s m args below meth c ls C hnm hA hl hw => by
    have hl : lv_has ls 1 [(0, .ref h0)] := hl
    refine y_aload_n C dX0_init_0 (lv_at hl 0 rfl) ?_
    refine z_obj C hl wd_78 (by decide) (by decide) dX0_init_1 ?_
    refine y_aload_n C dX0_init_4 (lv_at hl 0 rfl) ?_
    refine y_bipush C dX0_init_5 (by decide) ?_
    refine z_newa C hA hw (ty := .int) rfl wd_65 0 rfl (fun _ h => h) (a0 := (10, .inl (fun _ => 0))) (fun _ => rfl) (by decide) (by decide) (by decide) (by decide) (by decide) dX0_init_7 (fun q7_0 H hw => ?_)
    have hw : AW D A s (ws ++ [(h0, .inr (0, [.null, .int 0, .int 0, .int 0, .int 0, .int 0, .int 0])), (q7_0, .inl (cA 0, 10, .inl (fun _ => 0)))]) H [] := by rw [List.append_assoc] at hw; exact hw
    refine z_putF C hnm hw inX0 tyX0 tyX0_ok nmX0 rfl rfl 0 rfl 0 (by decide) wd_79 (trX0 0) rfl rfl rfl (Nat.le_of_ble_eq_true rfl) dX0_init_9 (fun H locs hw => ?_)
    have hw : AW D A s (ws ++ [(h0, .inr (0, [.ref q7_0, .int 0, .int 0, .int 0, .int 0, .int 0, .int 0])), (q7_0, .inl (cA 0, 10, .inl (fun _ => 0)))]) H locs := hw
    refine y_aload_n C dX0_init_12 (lv_at hl 0 rfl) ?_
    refine y_iconst C dX0_init_13 ?_
    refine z_put C hw inX0 tyX0 tyX0_ok nmX0 rfl 0 rfl 1 (by decide) wd_83 (trX0 1) rfl rfl rfl (Nat.le_of_ble_eq_true rfl) dX0_init_14 (fun H locs hw => ?_)
    have hw : AW D A s (ws ++ [(h0, .inr (0, [.ref q7_0, .int (zI 0), .int 0, .int 0, .int 0, .int 0, .int 0])), (q7_0, .inl (cA 0, 10, .inl (fun _ => 0)))]) H locs := hw
    refine y_aload_n C dX0_init_17 (lv_at hl 0 rfl) ?_
    refine y_iconst C dX0_init_18 ?_
    refine z_put C hw inX0 tyX0 tyX0_ok nmX0 rfl 0 rfl 2 (by decide) wd_87 (trX0 2) rfl rfl rfl (Nat.le_of_ble_eq_true rfl) dX0_init_19 (fun H locs hw => ?_)
    have hw : AW D A s (ws ++ [(h0, .inr (0, [.ref q7_0, .int (zI 0), .int (zI 0), .int 0, .int 0, .int 0, .int 0])), (q7_0, .inl (cA 0, 10, .inl (fun _ => 0)))]) H locs := hw
    refine y_aload_n C dX0_init_22 (lv_at hl 0 rfl) ?_
    refine y_iconst C dX0_init_23 ?_
    refine z_put C hw inX0 tyX0 tyX0_ok nmX0 rfl 0 rfl 3 (by decide) wd_89 (trX0 3) rfl rfl rfl (Nat.le_of_ble_eq_true rfl) dX0_init_24 (fun H locs hw => ?_)
    have hw : AW D A s (ws ++ [(h0, .inr (0, [.ref q7_0, .int (zI 0), .int (zI 0), .int (zI 1), .int 0, .int 0, .int 0])), (q7_0, .inl (cA 0, 10, .inl (fun _ => 0)))]) H locs := hw
    refine y_aload_n C dX0_init_27 (lv_at hl 0 rfl) ?_
    refine y_iconst C dX0_init_28 ?_
    refine z_put C hw inX0 tyX0 tyX0_ok nmX0 rfl 0 rfl 4 (by decide) wd_91 (trX0 4) rfl rfl rfl (Nat.le_of_ble_eq_true rfl) dX0_init_29 (fun H locs hw => ?_)
    have hw : AW D A s (ws ++ [(h0, .inr (0, [.ref q7_0, .int (zI 0), .int (zI 0), .int (zI 1), .int (zI 3), .int 0, .int 0])), (q7_0, .inl (cA 0, 10, .inl (fun _ => 0)))]) H locs := hw
    refine y_aload_n C dX0_init_32 (lv_at hl 0 rfl) ?_
    refine y_iconst C dX0_init_33 ?_
    refine z_put C hw inX0 tyX0 tyX0_ok nmX0 rfl 0 rfl 5 (by decide) wd_93 (trX0 5) rfl rfl rfl (Nat.le_of_ble_eq_true rfl) dX0_init_34 (fun H locs hw => ?_)
    have hw : AW D A s (ws ++ [(h0, .inr (0, [.ref q7_0, .int (zI 0), .int (zI 0), .int (zI 1), .int (zI 3), .int (zI 0), .int 0])), (q7_0, .inl (cA 0, 10, .inl (fun _ => 0)))]) H locs := hw
    refine y_aload_n C dX0_init_37 (lv_at hl 0 rfl) ?_
    refine y_iconst C dX0_init_38 ?_
    refine z_put C hw inX0 tyX0 tyX0_ok nmX0 rfl 0 rfl 6 (by decide) wd_95 (trX0 6) rfl rfl rfl (Nat.le_of_ble_eq_true rfl) dX0_init_39 (fun H locs hw => ?_)
    have hw : AW D A s (ws ++ [(h0, .inr (0, [.ref q7_0, .int (zI 0), .int (zI 0), .int (zI 1), .int (zI 3), .int (zI 0), .int (zI 0)])), (q7_0, .inl (cA 0, 10, .inl (fun _ => 0)))]) H locs := hw
    refine W.widen (k := 1) (n := 10) (by decide) (by decide) ?_
    exact z_ret (Wp := fun u : Nat => ws ++ [(h0, .inr (0, [.ref u, .int (zI 0), .int (zI 0), .int (zI 1), .int (zI 3), .int (zI 0), .int (zI 0)])), (u, .inl (cA 0, 10, .inl (fun _ => 0)))]) C q7_0 hw dX0_init_42)
set_option maxRecDepth 100000 in
set_option maxHeartbeats 4000000 in
theorem ci_X1_init {l : Launch} {D : va_G} {cA : Nat → ClassId} {adK adV : Nat → Nat} {A : Nat → Prop} {ws : va_W} {h0 : Nat} : Met l yX1_init (wsU yX1_init cX1_init 1 none) { frames := 1, cells := 5, slots := 74, locals := 12 } (va_Pc [.ref h0] (PrI D cA adK adV A (ws ++ [(h0, .inr (1, [.null, .null, .null, .null, .null]))]))) (QN D A (fun u : Nat × Nat × Nat × Nat × Nat => ws ++ [(h0, .inr (1, [.ref u.1, .ref u.2.1, .ref u.2.2.1, .ref u.2.2.2.1, .ref u.2.2.2.2])), (u.1, .inl (cA 0, 10, .inl (fun _ => 0))), (u.2.1, .inl (cA 0, 10, .inl (fun _ => 0))), (u.2.2.1, .inl (cA 0, 40, .inl (fun _ => 0))), (u.2.2.2.1, .inl (cA 0, 10, .inl (fun _ => 0))), (u.2.2.2.2, .inl (cA 0, 4, .inl (fun _ => 0)))])) 5 74 A :=
  z_met (own := RX1) (by decide) rfl rfl _ (Nat.le_of_ble_eq_true rfl) (fun p e s m args below meth c ls C hnm hA hl hw => by
    have hl : lv_has ls 1 [(0, .ref h0)] := hl
    refine y_aload_n C dX1_init_0 (lv_at hl 0 rfl) ?_
    refine z_obj C hl wd_118 (by decide) (by decide) dX1_init_1 ?_
    refine y_aload_n C dX1_init_4 (lv_at hl 0 rfl) ?_
    refine y_bipush C dX1_init_5 (by decide) ?_
    refine z_newa C hA hw (ty := .int) rfl wd_65 0 rfl (fun _ h => h) (a0 := (10, .inl (fun _ => 0))) (fun _ => rfl) (by decide) (by decide) (by decide) (by decide) (by decide) dX1_init_7 (fun q7_0 H hw => ?_)
    have hw : AW D A s (ws ++ [(h0, .inr (1, [.null, .null, .null, .null, .null])), (q7_0, .inl (cA 0, 10, .inl (fun _ => 0)))]) H [] := by rw [List.append_assoc] at hw; exact hw
    refine z_putF C hnm hw inX1 tyX1 tyX1_ok nmX1 rfl rfl 0 rfl 0 (by decide) wd_119 (trX1 0) rfl rfl rfl (Nat.le_of_ble_eq_true rfl) dX1_init_9 (fun H locs hw => ?_)
    have hw : AW D A s (ws ++ [(h0, .inr (1, [.ref q7_0, .null, .null, .null, .null])), (q7_0, .inl (cA 0, 10, .inl (fun _ => 0)))]) H locs := hw
    refine y_aload_n C dX1_init_12 (lv_at hl 0 rfl) ?_
    refine y_bipush C dX1_init_13 (by decide) ?_
    refine z_newa C hA hw (ty := .int) rfl wd_65 0 rfl (fun _ h => h) (a0 := (10, .inl (fun _ => 0))) (fun _ => rfl) (by decide) (by decide) (by decide) (by decide) (by decide) dX1_init_15 (fun q15_1 H hw => ?_)
    have hw : AW D A s (ws ++ [(h0, .inr (1, [.ref q7_0, .null, .null, .null, .null])), (q7_0, .inl (cA 0, 10, .inl (fun _ => 0))), (q15_1, .inl (cA 0, 10, .inl (fun _ => 0)))]) H locs := by rw [List.append_assoc] at hw; exact hw
    refine z_putF C hnm hw inX1 tyX1 tyX1_ok nmX1 rfl rfl 0 rfl 1 (by decide) wd_121 (trX1 1) rfl rfl rfl (Nat.le_of_ble_eq_true rfl) dX1_init_17 (fun H locs hw => ?_)
    have hw : AW D A s (ws ++ [(h0, .inr (1, [.ref q7_0, .ref q15_1, .null, .null, .null])), (q7_0, .inl (cA 0, 10, .inl (fun _ => 0))), (q15_1, .inl (cA 0, 10, .inl (fun _ => 0)))]) H locs := hw
    refine y_aload_n C dX1_init_20 (lv_at hl 0 rfl) ?_
    refine y_bipush C dX1_init_21 (by decide) ?_
    refine z_newa C hA hw (ty := .int) rfl wd_65 0 rfl (fun _ h => h) (a0 := (40, .inl (fun _ => 0))) (fun _ => rfl) (by decide) (by decide) (by decide) (by decide) (by decide) dX1_init_23 (fun q23_2 H hw => ?_)
    have hw : AW D A s (ws ++ [(h0, .inr (1, [.ref q7_0, .ref q15_1, .null, .null, .null])), (q7_0, .inl (cA 0, 10, .inl (fun _ => 0))), (q15_1, .inl (cA 0, 10, .inl (fun _ => 0))), (q23_2, .inl (cA 0, 40, .inl (fun _ => 0)))]) H locs := by rw [List.append_assoc] at hw; exact hw
    refine z_putF C hnm hw inX1 tyX1 tyX1_ok nmX1 rfl rfl 0 rfl 2 (by decide) wd_122 (trX1 2) rfl rfl rfl (Nat.le_of_ble_eq_true rfl) dX1_init_25 (fun H locs hw => ?_)
    have hw : AW D A s (ws ++ [(h0, .inr (1, [.ref q7_0, .ref q15_1, .ref q23_2, .null, .null])), (q7_0, .inl (cA 0, 10, .inl (fun _ => 0))), (q15_1, .inl (cA 0, 10, .inl (fun _ => 0))), (q23_2, .inl (cA 0, 40, .inl (fun _ => 0)))]) H locs := hw
    refine y_aload_n C dX1_init_28 (lv_at hl 0 rfl) ?_
    refine y_bipush C dX1_init_29 (by decide) ?_
    refine z_newa C hA hw (ty := .int) rfl wd_65 0 rfl (fun _ h => h) (a0 := (10, .inl (fun _ => 0))) (fun _ => rfl) (by decide) (by decide) (by decide) (by decide) (by decide) dX1_init_31 (fun q31_3 H hw => ?_)
    have hw : AW D A s (ws ++ [(h0, .inr (1, [.ref q7_0, .ref q15_1, .ref q23_2, .null, .null])), (q7_0, .inl (cA 0, 10, .inl (fun _ => 0))), (q15_1, .inl (cA 0, 10, .inl (fun _ => 0))), (q23_2, .inl (cA 0, 40, .inl (fun _ => 0))), (q31_3, .inl (cA 0, 10, .inl (fun _ => 0)))]) H locs := by rw [List.append_assoc] at hw; exact hw
    refine z_putF C hnm hw inX1 tyX1 tyX1_ok nmX1 rfl rfl 0 rfl 3 (by decide) wd_123 (trX1 3) rfl rfl rfl (Nat.le_of_ble_eq_true rfl) dX1_init_33 (fun H locs hw => ?_)
    have hw : AW D A s (ws ++ [(h0, .inr (1, [.ref q7_0, .ref q15_1, .ref q23_2, .ref q31_3, .null])), (q7_0, .inl (cA 0, 10, .inl (fun _ => 0))), (q15_1, .inl (cA 0, 10, .inl (fun _ => 0))), (q23_2, .inl (cA 0, 40, .inl (fun _ => 0))), (q31_3, .inl (cA 0, 10, .inl (fun _ => 0)))]) H locs := hw
    refine y_aload_n C dX1_init_36 (lv_at hl 0 rfl) ?_
    refine y_iconst C dX1_init_37 ?_
    refine z_newa C hA hw (ty := .int) rfl wd_65 0 rfl (fun _ h => h) (a0 := (4, .inl (fun _ => 0))) (fun _ => rfl) (by decide) (by decide) (by decide) (by decide) (by decide) dX1_init_38 (fun q38_4 H hw => ?_)
    have hw : AW D A s (ws ++ [(h0, .inr (1, [.ref q7_0, .ref q15_1, .ref q23_2, .ref q31_3, .null])), (q7_0, .inl (cA 0, 10, .inl (fun _ => 0))), (q15_1, .inl (cA 0, 10, .inl (fun _ => 0))), (q23_2, .inl (cA 0, 40, .inl (fun _ => 0))), (q31_3, .inl (cA 0, 10, .inl (fun _ => 0))), (q38_4, .inl (cA 0, 4, .inl (fun _ => 0)))]) H locs := by rw [List.append_assoc] at hw; exact hw
    refine z_putF C hnm hw inX1 tyX1 tyX1_ok nmX1 rfl rfl 0 rfl 4 (by decide) wd_124 (trX1 4) rfl rfl rfl (Nat.le_of_ble_eq_true rfl) dX1_init_40 (fun H locs hw => ?_)
    have hw : AW D A s (ws ++ [(h0, .inr (1, [.ref q7_0, .ref q15_1, .ref q23_2, .ref q31_3, .ref q38_4])), (q7_0, .inl (cA 0, 10, .inl (fun _ => 0))), (q15_1, .inl (cA 0, 10, .inl (fun _ => 0))), (q23_2, .inl (cA 0, 40, .inl (fun _ => 0))), (q31_3, .inl (cA 0, 10, .inl (fun _ => 0))), (q38_4, .inl (cA 0, 4, .inl (fun _ => 0)))]) H locs := hw
    refine W.widen (k := 5) (n := 74) (by decide) (by decide) ?_
    exact z_ret (Wp := fun u : Nat × Nat × Nat × Nat × Nat => ws ++ [(h0, .inr (1, [.ref u.1, .ref u.2.1, .ref u.2.2.1, .ref u.2.2.2.1, .ref u.2.2.2.2])), (u.1, .inl (cA 0, 10, .inl (fun _ => 0))), (u.2.1, .inl (cA 0, 10, .inl (fun _ => 0))), (u.2.2.1, .inl (cA 0, 40, .inl (fun _ => 0))), (u.2.2.2.1, .inl (cA 0, 10, .inl (fun _ => 0))), (u.2.2.2.2, .inl (cA 0, 4, .inl (fun _ => 0)))]) C ⟨q7_0, q15_1, q23_2, q31_3, q38_4⟩ hw dX1_init_43)
set_option maxRecDepth 100000 in
set_option maxHeartbeats 4000000 in
theorem ci_X2_init {l : Launch} {D : va_G} {cA : Nat → ClassId} {adK adV : Nat → Nat} {A : Nat → Prop} {ws : va_W} {h0 : Nat} : Met l yX2_init (wsU yX2_init cX2_init 1 none) { frames := 1, cells := 5, slots := 52, locals := 12 } (va_Pc [.ref h0] (PrI D cA adK adV A (ws ++ [(h0, .inr (2, [.null, .null, .null, .int 0, .null, .null, .int 0, .int 0, .int 0]))]))) (QN D A (fun u : Nat × Nat × Nat × Nat × Nat => ws ++ [(h0, .inr (2, [.ref u.1, .ref u.2.1, .ref u.2.2.1, .int (zI 0), .ref u.2.2.2.1, .ref u.2.2.2.2, .int (zI 0), .int (zI 0), .int (zI 0)])), (u.1, .inl (cA 0, 12, .inl (fun _ => 0))), (u.2.1, .inl (cA 0, 12, .inl (fun _ => 0))), (u.2.2.1, .inl (cA 1, 12, .inl (fun _ => 0))), (u.2.2.2.1, .inl (cA 0, 8, .inl (fun _ => 0))), (u.2.2.2.2, .inl (cA 0, 8, .inl (fun _ => 0)))])) 5 52 A :=
  z_met (own := RX2) (by decide) rfl rfl _ (Nat.le_of_ble_eq_true rfl) (fun p e s m args below meth c ls C hnm hA hl hw => by
    have hl : lv_has ls 1 [(0, .ref h0)] := hl
    refine y_aload_n C dX2_init_0 (lv_at hl 0 rfl) ?_
    refine z_obj C hl wd_141 (by decide) (by decide) dX2_init_1 ?_
    refine y_aload_n C dX2_init_4 (lv_at hl 0 rfl) ?_
    refine y_bipush C dX2_init_5 (by decide) ?_
    refine z_newa C hA hw (ty := .int) rfl wd_65 0 rfl (fun _ h => h) (a0 := (12, .inl (fun _ => 0))) (fun _ => rfl) (by decide) (by decide) (by decide) (by decide) (by decide) dX2_init_7 (fun q7_0 H hw => ?_)
    have hw : AW D A s (ws ++ [(h0, .inr (2, [.null, .null, .null, .int 0, .null, .null, .int 0, .int 0, .int 0])), (q7_0, .inl (cA 0, 12, .inl (fun _ => 0)))]) H [] := by rw [List.append_assoc] at hw; exact hw
    refine z_putF C hnm hw inX2 tyX2 tyX2_ok nmX2 rfl rfl 0 rfl 0 (by decide) wd_142 (trX2 0) rfl rfl rfl (Nat.le_of_ble_eq_true rfl) dX2_init_9 (fun H locs hw => ?_)
    have hw : AW D A s (ws ++ [(h0, .inr (2, [.ref q7_0, .null, .null, .int 0, .null, .null, .int 0, .int 0, .int 0])), (q7_0, .inl (cA 0, 12, .inl (fun _ => 0)))]) H locs := hw
    refine y_aload_n C dX2_init_12 (lv_at hl 0 rfl) ?_
    refine y_bipush C dX2_init_13 (by decide) ?_
    refine z_newa C hA hw (ty := .int) rfl wd_65 0 rfl (fun _ h => h) (a0 := (12, .inl (fun _ => 0))) (fun _ => rfl) (by decide) (by decide) (by decide) (by decide) (by decide) dX2_init_15 (fun q15_1 H hw => ?_)
    have hw : AW D A s (ws ++ [(h0, .inr (2, [.ref q7_0, .null, .null, .int 0, .null, .null, .int 0, .int 0, .int 0])), (q7_0, .inl (cA 0, 12, .inl (fun _ => 0))), (q15_1, .inl (cA 0, 12, .inl (fun _ => 0)))]) H locs := by rw [List.append_assoc] at hw; exact hw
    refine z_putF C hnm hw inX2 tyX2 tyX2_ok nmX2 rfl rfl 0 rfl 1 (by decide) wd_144 (trX2 1) rfl rfl rfl (Nat.le_of_ble_eq_true rfl) dX2_init_17 (fun H locs hw => ?_)
    have hw : AW D A s (ws ++ [(h0, .inr (2, [.ref q7_0, .ref q15_1, .null, .int 0, .null, .null, .int 0, .int 0, .int 0])), (q7_0, .inl (cA 0, 12, .inl (fun _ => 0))), (q15_1, .inl (cA 0, 12, .inl (fun _ => 0)))]) H locs := hw
    refine y_aload_n C dX2_init_20 (lv_at hl 0 rfl) ?_
    refine y_bipush C dX2_init_21 (by decide) ?_
    refine z_newa C hA hw (ty := .boolean) rfl wd_180 1 rfl (fun _ h => h) (a0 := (12, .inl (fun _ => 0))) (fun _ => rfl) (by decide) (by decide) (by decide) (by decide) (by decide) dX2_init_23 (fun q23_2 H hw => ?_)
    have hw : AW D A s (ws ++ [(h0, .inr (2, [.ref q7_0, .ref q15_1, .null, .int 0, .null, .null, .int 0, .int 0, .int 0])), (q7_0, .inl (cA 0, 12, .inl (fun _ => 0))), (q15_1, .inl (cA 0, 12, .inl (fun _ => 0))), (q23_2, .inl (cA 1, 12, .inl (fun _ => 0)))]) H locs := by rw [List.append_assoc] at hw; exact hw
    refine z_putF C hnm hw inX2 tyX2 tyX2_ok nmX2 rfl rfl 0 rfl 2 (by decide) wd_146 (trX2 2) rfl rfl rfl (Nat.le_of_ble_eq_true rfl) dX2_init_25 (fun H locs hw => ?_)
    have hw : AW D A s (ws ++ [(h0, .inr (2, [.ref q7_0, .ref q15_1, .ref q23_2, .int 0, .null, .null, .int 0, .int 0, .int 0])), (q7_0, .inl (cA 0, 12, .inl (fun _ => 0))), (q15_1, .inl (cA 0, 12, .inl (fun _ => 0))), (q23_2, .inl (cA 1, 12, .inl (fun _ => 0)))]) H locs := hw
    refine y_aload_n C dX2_init_28 (lv_at hl 0 rfl) ?_
    refine y_iconst C dX2_init_29 ?_
    refine z_put C hw inX2 tyX2 tyX2_ok nmX2 rfl 0 rfl 3 (by decide) wd_148 (trX2 3) rfl rfl rfl (Nat.le_of_ble_eq_true rfl) dX2_init_30 (fun H locs hw => ?_)
    have hw : AW D A s (ws ++ [(h0, .inr (2, [.ref q7_0, .ref q15_1, .ref q23_2, .int (zI 0), .null, .null, .int 0, .int 0, .int 0])), (q7_0, .inl (cA 0, 12, .inl (fun _ => 0))), (q15_1, .inl (cA 0, 12, .inl (fun _ => 0))), (q23_2, .inl (cA 1, 12, .inl (fun _ => 0)))]) H locs := hw
    refine y_aload_n C dX2_init_33 (lv_at hl 0 rfl) ?_
    refine y_bipush C dX2_init_34 (by decide) ?_
    refine z_newa C hA hw (ty := .int) rfl wd_65 0 rfl (fun _ h => h) (a0 := (8, .inl (fun _ => 0))) (fun _ => rfl) (by decide) (by decide) (by decide) (by decide) (by decide) dX2_init_36 (fun q36_3 H hw => ?_)
    have hw : AW D A s (ws ++ [(h0, .inr (2, [.ref q7_0, .ref q15_1, .ref q23_2, .int (zI 0), .null, .null, .int 0, .int 0, .int 0])), (q7_0, .inl (cA 0, 12, .inl (fun _ => 0))), (q15_1, .inl (cA 0, 12, .inl (fun _ => 0))), (q23_2, .inl (cA 1, 12, .inl (fun _ => 0))), (q36_3, .inl (cA 0, 8, .inl (fun _ => 0)))]) H locs := by rw [List.append_assoc] at hw; exact hw
    refine z_putF C hnm hw inX2 tyX2 tyX2_ok nmX2 rfl rfl 0 rfl 4 (by decide) wd_150 (trX2 4) rfl rfl rfl (Nat.le_of_ble_eq_true rfl) dX2_init_38 (fun H locs hw => ?_)
    have hw : AW D A s (ws ++ [(h0, .inr (2, [.ref q7_0, .ref q15_1, .ref q23_2, .int (zI 0), .ref q36_3, .null, .int 0, .int 0, .int 0])), (q7_0, .inl (cA 0, 12, .inl (fun _ => 0))), (q15_1, .inl (cA 0, 12, .inl (fun _ => 0))), (q23_2, .inl (cA 1, 12, .inl (fun _ => 0))), (q36_3, .inl (cA 0, 8, .inl (fun _ => 0)))]) H locs := hw
    refine y_aload_n C dX2_init_41 (lv_at hl 0 rfl) ?_
    refine y_bipush C dX2_init_42 (by decide) ?_
    refine z_newa C hA hw (ty := .int) rfl wd_65 0 rfl (fun _ h => h) (a0 := (8, .inl (fun _ => 0))) (fun _ => rfl) (by decide) (by decide) (by decide) (by decide) (by decide) dX2_init_44 (fun q44_4 H hw => ?_)
    have hw : AW D A s (ws ++ [(h0, .inr (2, [.ref q7_0, .ref q15_1, .ref q23_2, .int (zI 0), .ref q36_3, .null, .int 0, .int 0, .int 0])), (q7_0, .inl (cA 0, 12, .inl (fun _ => 0))), (q15_1, .inl (cA 0, 12, .inl (fun _ => 0))), (q23_2, .inl (cA 1, 12, .inl (fun _ => 0))), (q36_3, .inl (cA 0, 8, .inl (fun _ => 0))), (q44_4, .inl (cA 0, 8, .inl (fun _ => 0)))]) H locs := by rw [List.append_assoc] at hw; exact hw
    refine z_putF C hnm hw inX2 tyX2 tyX2_ok nmX2 rfl rfl 0 rfl 5 (by decide) wd_152 (trX2 5) rfl rfl rfl (Nat.le_of_ble_eq_true rfl) dX2_init_46 (fun H locs hw => ?_)
    have hw : AW D A s (ws ++ [(h0, .inr (2, [.ref q7_0, .ref q15_1, .ref q23_2, .int (zI 0), .ref q36_3, .ref q44_4, .int 0, .int 0, .int 0])), (q7_0, .inl (cA 0, 12, .inl (fun _ => 0))), (q15_1, .inl (cA 0, 12, .inl (fun _ => 0))), (q23_2, .inl (cA 1, 12, .inl (fun _ => 0))), (q36_3, .inl (cA 0, 8, .inl (fun _ => 0))), (q44_4, .inl (cA 0, 8, .inl (fun _ => 0)))]) H locs := hw
    refine y_aload_n C dX2_init_49 (lv_at hl 0 rfl) ?_
    refine y_iconst C dX2_init_50 ?_
    refine z_put C hw inX2 tyX2 tyX2_ok nmX2 rfl 0 rfl 6 (by decide) wd_154 (trX2 6) rfl rfl rfl (Nat.le_of_ble_eq_true rfl) dX2_init_51 (fun H locs hw => ?_)
    have hw : AW D A s (ws ++ [(h0, .inr (2, [.ref q7_0, .ref q15_1, .ref q23_2, .int (zI 0), .ref q36_3, .ref q44_4, .int (zI 0), .int 0, .int 0])), (q7_0, .inl (cA 0, 12, .inl (fun _ => 0))), (q15_1, .inl (cA 0, 12, .inl (fun _ => 0))), (q23_2, .inl (cA 1, 12, .inl (fun _ => 0))), (q36_3, .inl (cA 0, 8, .inl (fun _ => 0))), (q44_4, .inl (cA 0, 8, .inl (fun _ => 0)))]) H locs := hw
    refine y_aload_n C dX2_init_54 (lv_at hl 0 rfl) ?_
    refine y_iconst C dX2_init_55 ?_
    refine z_put C hw inX2 tyX2 tyX2_ok nmX2 rfl 0 rfl 7 (by decide) wd_156 (trX2 7) rfl rfl rfl (Nat.le_of_ble_eq_true rfl) dX2_init_56 (fun H locs hw => ?_)
    have hw : AW D A s (ws ++ [(h0, .inr (2, [.ref q7_0, .ref q15_1, .ref q23_2, .int (zI 0), .ref q36_3, .ref q44_4, .int (zI 0), .int (zI 0), .int 0])), (q7_0, .inl (cA 0, 12, .inl (fun _ => 0))), (q15_1, .inl (cA 0, 12, .inl (fun _ => 0))), (q23_2, .inl (cA 1, 12, .inl (fun _ => 0))), (q36_3, .inl (cA 0, 8, .inl (fun _ => 0))), (q44_4, .inl (cA 0, 8, .inl (fun _ => 0)))]) H locs := hw
    refine y_aload_n C dX2_init_59 (lv_at hl 0 rfl) ?_
    refine y_iconst C dX2_init_60 ?_
    refine z_put C hw inX2 tyX2 tyX2_ok nmX2 rfl 0 rfl 8 (by decide) wd_158 (trX2 8) rfl rfl rfl (Nat.le_of_ble_eq_true rfl) dX2_init_61 (fun H locs hw => ?_)
    have hw : AW D A s (ws ++ [(h0, .inr (2, [.ref q7_0, .ref q15_1, .ref q23_2, .int (zI 0), .ref q36_3, .ref q44_4, .int (zI 0), .int (zI 0), .int (zI 0)])), (q7_0, .inl (cA 0, 12, .inl (fun _ => 0))), (q15_1, .inl (cA 0, 12, .inl (fun _ => 0))), (q23_2, .inl (cA 1, 12, .inl (fun _ => 0))), (q36_3, .inl (cA 0, 8, .inl (fun _ => 0))), (q44_4, .inl (cA 0, 8, .inl (fun _ => 0)))]) H locs := hw
    refine W.widen (k := 5) (n := 52) (by decide) (by decide) ?_
    exact z_ret (Wp := fun u : Nat × Nat × Nat × Nat × Nat => ws ++ [(h0, .inr (2, [.ref u.1, .ref u.2.1, .ref u.2.2.1, .int (zI 0), .ref u.2.2.2.1, .ref u.2.2.2.2, .int (zI 0), .int (zI 0), .int (zI 0)])), (u.1, .inl (cA 0, 12, .inl (fun _ => 0))), (u.2.1, .inl (cA 0, 12, .inl (fun _ => 0))), (u.2.2.1, .inl (cA 1, 12, .inl (fun _ => 0))), (u.2.2.2.1, .inl (cA 0, 8, .inl (fun _ => 0))), (u.2.2.2.2, .inl (cA 0, 8, .inl (fun _ => 0)))]) C ⟨q7_0, q15_1, q23_2, q36_3, q44_4⟩ hw dX2_init_64)
set_option maxRecDepth 100000 in
set_option maxHeartbeats 4000000 in
theorem ci_X6_init {l : Launch} {D : va_G} {cA : Nat → ClassId} {adK adV : Nat → Nat} {A : Nat → Prop} {ws : va_W} {h0 : Nat} : Met l yX6_init (wsU yX6_init cX6_init 1 none) { frames := 1, cells := 3, slots := 24, locals := 12 } (va_Pc [.ref h0] (PrI D cA adK adV A (ws ++ [(h0, .inr (6, [.null, .null, .null, .int 0, .int 0, .int 0, .int 0, .int 0]))]))) (QN D A (fun u : Nat × Nat × Nat => ws ++ [(h0, .inr (6, [.ref u.1, .ref u.2.1, .ref u.2.2, .int (zI 0), .int (zI 0), .int (zI 0), .int (zI 0), .int (zI 0)])), (u.1, .inl (cA 0, 8, .inl (fun _ => 0))), (u.2.1, .inl (cA 0, 8, .inl (fun _ => 0))), (u.2.2, .inl (cA 0, 8, .inl (fun _ => 0)))])) 3 24 A :=
  z_met (own := RX6) (by decide) rfl rfl _ (Nat.le_of_ble_eq_true rfl) (fun p e s m args below meth c ls C hnm hA hl hw => by
    have hl : lv_has ls 1 [(0, .ref h0)] := hl
    refine y_aload_n C dX6_init_0 (lv_at hl 0 rfl) ?_
    refine z_obj C hl wd_186 (by decide) (by decide) dX6_init_1 ?_
    refine y_aload_n C dX6_init_4 (lv_at hl 0 rfl) ?_
    refine y_bipush C dX6_init_5 (by decide) ?_
    refine z_newa C hA hw (ty := .int) rfl wd_65 0 rfl (fun _ h => h) (a0 := (8, .inl (fun _ => 0))) (fun _ => rfl) (by decide) (by decide) (by decide) (by decide) (by decide) dX6_init_7 (fun q7_0 H hw => ?_)
    have hw : AW D A s (ws ++ [(h0, .inr (6, [.null, .null, .null, .int 0, .int 0, .int 0, .int 0, .int 0])), (q7_0, .inl (cA 0, 8, .inl (fun _ => 0)))]) H [] := by rw [List.append_assoc] at hw; exact hw
    refine z_putF C hnm hw inX6 tyX6 tyX6_ok nmX6 rfl rfl 0 rfl 0 (by decide) wd_187 (trX6 0) rfl rfl rfl (Nat.le_of_ble_eq_true rfl) dX6_init_9 (fun H locs hw => ?_)
    have hw : AW D A s (ws ++ [(h0, .inr (6, [.ref q7_0, .null, .null, .int 0, .int 0, .int 0, .int 0, .int 0])), (q7_0, .inl (cA 0, 8, .inl (fun _ => 0)))]) H locs := hw
    refine y_aload_n C dX6_init_12 (lv_at hl 0 rfl) ?_
    refine y_bipush C dX6_init_13 (by decide) ?_
    refine z_newa C hA hw (ty := .int) rfl wd_65 0 rfl (fun _ h => h) (a0 := (8, .inl (fun _ => 0))) (fun _ => rfl) (by decide) (by decide) (by decide) (by decide) (by decide) dX6_init_15 (fun q15_1 H hw => ?_)
    have hw : AW D A s (ws ++ [(h0, .inr (6, [.ref q7_0, .null, .null, .int 0, .int 0, .int 0, .int 0, .int 0])), (q7_0, .inl (cA 0, 8, .inl (fun _ => 0))), (q15_1, .inl (cA 0, 8, .inl (fun _ => 0)))]) H locs := by rw [List.append_assoc] at hw; exact hw
    refine z_putF C hnm hw inX6 tyX6 tyX6_ok nmX6 rfl rfl 0 rfl 1 (by decide) wd_190 (trX6 1) rfl rfl rfl (Nat.le_of_ble_eq_true rfl) dX6_init_17 (fun H locs hw => ?_)
    have hw : AW D A s (ws ++ [(h0, .inr (6, [.ref q7_0, .ref q15_1, .null, .int 0, .int 0, .int 0, .int 0, .int 0])), (q7_0, .inl (cA 0, 8, .inl (fun _ => 0))), (q15_1, .inl (cA 0, 8, .inl (fun _ => 0)))]) H locs := hw
    refine y_aload_n C dX6_init_20 (lv_at hl 0 rfl) ?_
    refine y_bipush C dX6_init_21 (by decide) ?_
    refine z_newa C hA hw (ty := .int) rfl wd_65 0 rfl (fun _ h => h) (a0 := (8, .inl (fun _ => 0))) (fun _ => rfl) (by decide) (by decide) (by decide) (by decide) (by decide) dX6_init_23 (fun q23_2 H hw => ?_)
    have hw : AW D A s (ws ++ [(h0, .inr (6, [.ref q7_0, .ref q15_1, .null, .int 0, .int 0, .int 0, .int 0, .int 0])), (q7_0, .inl (cA 0, 8, .inl (fun _ => 0))), (q15_1, .inl (cA 0, 8, .inl (fun _ => 0))), (q23_2, .inl (cA 0, 8, .inl (fun _ => 0)))]) H locs := by rw [List.append_assoc] at hw; exact hw
    refine z_putF C hnm hw inX6 tyX6 tyX6_ok nmX6 rfl rfl 0 rfl 2 (by decide) wd_192 (trX6 2) rfl rfl rfl (Nat.le_of_ble_eq_true rfl) dX6_init_25 (fun H locs hw => ?_)
    have hw : AW D A s (ws ++ [(h0, .inr (6, [.ref q7_0, .ref q15_1, .ref q23_2, .int 0, .int 0, .int 0, .int 0, .int 0])), (q7_0, .inl (cA 0, 8, .inl (fun _ => 0))), (q15_1, .inl (cA 0, 8, .inl (fun _ => 0))), (q23_2, .inl (cA 0, 8, .inl (fun _ => 0)))]) H locs := hw
    refine y_aload_n C dX6_init_28 (lv_at hl 0 rfl) ?_
    refine y_iconst C dX6_init_29 ?_
    refine z_put C hw inX6 tyX6 tyX6_ok nmX6 rfl 0 rfl 3 (by decide) wd_193 (trX6 3) rfl rfl rfl (Nat.le_of_ble_eq_true rfl) dX6_init_30 (fun H locs hw => ?_)
    have hw : AW D A s (ws ++ [(h0, .inr (6, [.ref q7_0, .ref q15_1, .ref q23_2, .int (zI 0), .int 0, .int 0, .int 0, .int 0])), (q7_0, .inl (cA 0, 8, .inl (fun _ => 0))), (q15_1, .inl (cA 0, 8, .inl (fun _ => 0))), (q23_2, .inl (cA 0, 8, .inl (fun _ => 0)))]) H locs := hw
    refine y_aload_n C dX6_init_33 (lv_at hl 0 rfl) ?_
    refine y_iconst C dX6_init_34 ?_
    refine z_put C hw inX6 tyX6 tyX6_ok nmX6 rfl 0 rfl 4 (by decide) wd_196 (trX6 4) rfl rfl rfl (Nat.le_of_ble_eq_true rfl) dX6_init_35 (fun H locs hw => ?_)
    have hw : AW D A s (ws ++ [(h0, .inr (6, [.ref q7_0, .ref q15_1, .ref q23_2, .int (zI 0), .int (zI 0), .int 0, .int 0, .int 0])), (q7_0, .inl (cA 0, 8, .inl (fun _ => 0))), (q15_1, .inl (cA 0, 8, .inl (fun _ => 0))), (q23_2, .inl (cA 0, 8, .inl (fun _ => 0)))]) H locs := hw
    refine y_aload_n C dX6_init_38 (lv_at hl 0 rfl) ?_
    refine y_iconst C dX6_init_39 ?_
    refine z_put C hw inX6 tyX6 tyX6_ok nmX6 rfl 0 rfl 5 (by decide) wd_198 (trX6 5) rfl rfl rfl (Nat.le_of_ble_eq_true rfl) dX6_init_40 (fun H locs hw => ?_)
    have hw : AW D A s (ws ++ [(h0, .inr (6, [.ref q7_0, .ref q15_1, .ref q23_2, .int (zI 0), .int (zI 0), .int (zI 0), .int 0, .int 0])), (q7_0, .inl (cA 0, 8, .inl (fun _ => 0))), (q15_1, .inl (cA 0, 8, .inl (fun _ => 0))), (q23_2, .inl (cA 0, 8, .inl (fun _ => 0)))]) H locs := hw
    refine y_aload_n C dX6_init_43 (lv_at hl 0 rfl) ?_
    refine y_iconst C dX6_init_44 ?_
    refine z_put C hw inX6 tyX6 tyX6_ok nmX6 rfl 0 rfl 6 (by decide) wd_201 (trX6 6) rfl rfl rfl (Nat.le_of_ble_eq_true rfl) dX6_init_45 (fun H locs hw => ?_)
    have hw : AW D A s (ws ++ [(h0, .inr (6, [.ref q7_0, .ref q15_1, .ref q23_2, .int (zI 0), .int (zI 0), .int (zI 0), .int (zI 0), .int 0])), (q7_0, .inl (cA 0, 8, .inl (fun _ => 0))), (q15_1, .inl (cA 0, 8, .inl (fun _ => 0))), (q23_2, .inl (cA 0, 8, .inl (fun _ => 0)))]) H locs := hw
    refine y_aload_n C dX6_init_48 (lv_at hl 0 rfl) ?_
    refine y_iconst C dX6_init_49 ?_
    refine z_put C hw inX6 tyX6 tyX6_ok nmX6 rfl 0 rfl 7 (by decide) wd_204 (trX6 7) rfl rfl rfl (Nat.le_of_ble_eq_true rfl) dX6_init_50 (fun H locs hw => ?_)
    have hw : AW D A s (ws ++ [(h0, .inr (6, [.ref q7_0, .ref q15_1, .ref q23_2, .int (zI 0), .int (zI 0), .int (zI 0), .int (zI 0), .int (zI 0)])), (q7_0, .inl (cA 0, 8, .inl (fun _ => 0))), (q15_1, .inl (cA 0, 8, .inl (fun _ => 0))), (q23_2, .inl (cA 0, 8, .inl (fun _ => 0)))]) H locs := hw
    refine W.widen (k := 3) (n := 24) (by decide) (by decide) ?_
    exact z_ret (Wp := fun u : Nat × Nat × Nat => ws ++ [(h0, .inr (6, [.ref u.1, .ref u.2.1, .ref u.2.2, .int (zI 0), .int (zI 0), .int (zI 0), .int (zI 0), .int (zI 0)])), (u.1, .inl (cA 0, 8, .inl (fun _ => 0))), (u.2.1, .inl (cA 0, 8, .inl (fun _ => 0))), (u.2.2, .inl (cA 0, 8, .inl (fun _ => 0)))]) C ⟨q7_0, q15_1, q23_2⟩ hw dX6_init_53)
set_option maxRecDepth 100000 in
set_option maxHeartbeats 4000000 in
theorem ci_X3_init {l : Launch} {D : va_G} {cA : Nat → ClassId} {adK adV : Nat → Nat} {A : Nat → Prop} {ws : va_W} {h0 : Nat} {a1 a2 : Nat} : Met l yX3_init (wsU yX3_init cX3_init 3 none) { frames := 1, cells := 7, slots := 467, locals := 12 } (va_Pc [.ref h0, .ref a1, .ref a2] (PrI D cA adK adV A (ws ++ [(h0, .inr (3, [.null, .null, .null, .null, .null, .int 0, .null, .null, .null, .null, .null, .int 0, .int 0]))]))) (QN D A (fun u : Nat × Nat × Nat × Nat × Nat × Nat × Nat => ws ++ [(h0, .inr (3, [.ref a1, .ref a2, .null, .ref u.1, .ref u.2.1, .int (zI 0), .ref u.2.2.1, .ref u.2.2.2.1, .ref u.2.2.2.2.1, .ref u.2.2.2.2.2.1, .ref u.2.2.2.2.2.2, .int (zI 0), .int (zI 0)])), (u.1, .inl (cA 0, 310, .inl (fun _ => 0))), (u.2.1, .inl (cA 0, 31, .inl (fun _ => 0))), (u.2.2.1, .inl (cA 0, 52, .inl (fun _ => 0))), (u.2.2.2.1, .inl (cA 0, 48, .inl (fun _ => 0))), (u.2.2.2.2.1, .inl (cA 0, 8, .inl (fun _ => 0))), (u.2.2.2.2.2.1, .inl (cA 0, 9, .inl (fun _ => 0))), (u.2.2.2.2.2.2, .inl (cA 0, 9, .inl (fun _ => 0)))])) 7 467 A :=
  z_met (own := RX3) (by decide) rfl rfl _ (Nat.le_of_ble_eq_true rfl) (fun p e s m args below meth c ls C hnm hA hl hw => by
    have hl : lv_has ls 3 [(0, .ref h0), (1, .ref a1), (2, .ref a2)] := hl
    refine y_aload_n C dX3_init_0 (lv_at hl 0 rfl) ?_
    refine z_obj C hl wd_227 (by decide) (by decide) dX3_init_1 ?_
    refine y_aload_n C dX3_init_4 (lv_at hl 0 rfl) ?_
    refine lv_null C.1 C.2.1 dX3_init_5 ?_
    refine z_put C hw inX3 tyX3 tyX3_ok nmX3 rfl 0 rfl 2 (by decide) wd_231 (trX3 2) rfl rfl rfl (Nat.le_of_ble_eq_true rfl) dX3_init_6 (fun H locs hw => ?_)
    have hw : AW D A s (ws ++ [(h0, .inr (3, [.null, .null, .null, .null, .null, .int 0, .null, .null, .null, .null, .null, .int 0, .int 0]))]) H locs := hw
    refine y_aload_n C dX3_init_9 (lv_at hl 0 rfl) ?_
    refine y_sipush C dX3_init_10 (by decide) ?_
    refine z_newa C hA hw (ty := .int) rfl wd_65 0 rfl (fun _ h => h) (a0 := (310, .inl (fun _ => 0))) (fun _ => rfl) (by decide) (by decide) (by decide) (by decide) (by decide) dX3_init_13 (fun q13_0 H hw => ?_)
    have hw : AW D A s (ws ++ [(h0, .inr (3, [.null, .null, .null, .null, .null, .int 0, .null, .null, .null, .null, .null, .int 0, .int 0])), (q13_0, .inl (cA 0, 310, .inl (fun _ => 0)))]) H locs := by rw [List.append_assoc] at hw; exact hw
    refine z_putF C hnm hw inX3 tyX3 tyX3_ok nmX3 rfl rfl 0 rfl 3 (by decide) wd_233 (trX3 3) rfl rfl rfl (Nat.le_of_ble_eq_true rfl) dX3_init_15 (fun H locs hw => ?_)
    have hw : AW D A s (ws ++ [(h0, .inr (3, [.null, .null, .null, .ref q13_0, .null, .int 0, .null, .null, .null, .null, .null, .int 0, .int 0])), (q13_0, .inl (cA 0, 310, .inl (fun _ => 0)))]) H locs := hw
    refine y_aload_n C dX3_init_18 (lv_at hl 0 rfl) ?_
    refine y_bipush C dX3_init_19 (by decide) ?_
    refine z_newa C hA hw (ty := .int) rfl wd_65 0 rfl (fun _ h => h) (a0 := (31, .inl (fun _ => 0))) (fun _ => rfl) (by decide) (by decide) (by decide) (by decide) (by decide) dX3_init_21 (fun q21_1 H hw => ?_)
    have hw : AW D A s (ws ++ [(h0, .inr (3, [.null, .null, .null, .ref q13_0, .null, .int 0, .null, .null, .null, .null, .null, .int 0, .int 0])), (q13_0, .inl (cA 0, 310, .inl (fun _ => 0))), (q21_1, .inl (cA 0, 31, .inl (fun _ => 0)))]) H locs := by rw [List.append_assoc] at hw; exact hw
    refine z_putF C hnm hw inX3 tyX3 tyX3_ok nmX3 rfl rfl 0 rfl 4 (by decide) wd_234 (trX3 4) rfl rfl rfl (Nat.le_of_ble_eq_true rfl) dX3_init_23 (fun H locs hw => ?_)
    have hw : AW D A s (ws ++ [(h0, .inr (3, [.null, .null, .null, .ref q13_0, .ref q21_1, .int 0, .null, .null, .null, .null, .null, .int 0, .int 0])), (q13_0, .inl (cA 0, 310, .inl (fun _ => 0))), (q21_1, .inl (cA 0, 31, .inl (fun _ => 0)))]) H locs := hw
    refine y_aload_n C dX3_init_26 (lv_at hl 0 rfl) ?_
    refine y_iconst C dX3_init_27 ?_
    refine z_put C hw inX3 tyX3 tyX3_ok nmX3 rfl 0 rfl 5 (by decide) wd_235 (trX3 5) rfl rfl rfl (Nat.le_of_ble_eq_true rfl) dX3_init_28 (fun H locs hw => ?_)
    have hw : AW D A s (ws ++ [(h0, .inr (3, [.null, .null, .null, .ref q13_0, .ref q21_1, .int (zI 0), .null, .null, .null, .null, .null, .int 0, .int 0])), (q13_0, .inl (cA 0, 310, .inl (fun _ => 0))), (q21_1, .inl (cA 0, 31, .inl (fun _ => 0)))]) H locs := hw
    refine y_aload_n C dX3_init_31 (lv_at hl 0 rfl) ?_
    refine y_bipush C dX3_init_32 (by decide) ?_
    refine z_newa C hA hw (ty := .int) rfl wd_65 0 rfl (fun _ h => h) (a0 := (52, .inl (fun _ => 0))) (fun _ => rfl) (by decide) (by decide) (by decide) (by decide) (by decide) dX3_init_34 (fun q34_2 H hw => ?_)
    have hw : AW D A s (ws ++ [(h0, .inr (3, [.null, .null, .null, .ref q13_0, .ref q21_1, .int (zI 0), .null, .null, .null, .null, .null, .int 0, .int 0])), (q13_0, .inl (cA 0, 310, .inl (fun _ => 0))), (q21_1, .inl (cA 0, 31, .inl (fun _ => 0))), (q34_2, .inl (cA 0, 52, .inl (fun _ => 0)))]) H locs := by rw [List.append_assoc] at hw; exact hw
    refine z_putF C hnm hw inX3 tyX3 tyX3_ok nmX3 rfl rfl 0 rfl 6 (by decide) wd_236 (trX3 6) rfl rfl rfl (Nat.le_of_ble_eq_true rfl) dX3_init_36 (fun H locs hw => ?_)
    have hw : AW D A s (ws ++ [(h0, .inr (3, [.null, .null, .null, .ref q13_0, .ref q21_1, .int (zI 0), .ref q34_2, .null, .null, .null, .null, .int 0, .int 0])), (q13_0, .inl (cA 0, 310, .inl (fun _ => 0))), (q21_1, .inl (cA 0, 31, .inl (fun _ => 0))), (q34_2, .inl (cA 0, 52, .inl (fun _ => 0)))]) H locs := hw
    refine y_aload_n C dX3_init_39 (lv_at hl 0 rfl) ?_
    refine y_bipush C dX3_init_40 (by decide) ?_
    refine z_newa C hA hw (ty := .int) rfl wd_65 0 rfl (fun _ h => h) (a0 := (48, .inl (fun _ => 0))) (fun _ => rfl) (by decide) (by decide) (by decide) (by decide) (by decide) dX3_init_42 (fun q42_3 H hw => ?_)
    have hw : AW D A s (ws ++ [(h0, .inr (3, [.null, .null, .null, .ref q13_0, .ref q21_1, .int (zI 0), .ref q34_2, .null, .null, .null, .null, .int 0, .int 0])), (q13_0, .inl (cA 0, 310, .inl (fun _ => 0))), (q21_1, .inl (cA 0, 31, .inl (fun _ => 0))), (q34_2, .inl (cA 0, 52, .inl (fun _ => 0))), (q42_3, .inl (cA 0, 48, .inl (fun _ => 0)))]) H locs := by rw [List.append_assoc] at hw; exact hw
    refine z_putF C hnm hw inX3 tyX3 tyX3_ok nmX3 rfl rfl 0 rfl 7 (by decide) wd_237 (trX3 7) rfl rfl rfl (Nat.le_of_ble_eq_true rfl) dX3_init_44 (fun H locs hw => ?_)
    have hw : AW D A s (ws ++ [(h0, .inr (3, [.null, .null, .null, .ref q13_0, .ref q21_1, .int (zI 0), .ref q34_2, .ref q42_3, .null, .null, .null, .int 0, .int 0])), (q13_0, .inl (cA 0, 310, .inl (fun _ => 0))), (q21_1, .inl (cA 0, 31, .inl (fun _ => 0))), (q34_2, .inl (cA 0, 52, .inl (fun _ => 0))), (q42_3, .inl (cA 0, 48, .inl (fun _ => 0)))]) H locs := hw
    refine y_aload_n C dX3_init_47 (lv_at hl 0 rfl) ?_
    refine y_bipush C dX3_init_48 (by decide) ?_
    refine z_newa C hA hw (ty := .int) rfl wd_65 0 rfl (fun _ h => h) (a0 := (8, .inl (fun _ => 0))) (fun _ => rfl) (by decide) (by decide) (by decide) (by decide) (by decide) dX3_init_50 (fun q50_4 H hw => ?_)
    have hw : AW D A s (ws ++ [(h0, .inr (3, [.null, .null, .null, .ref q13_0, .ref q21_1, .int (zI 0), .ref q34_2, .ref q42_3, .null, .null, .null, .int 0, .int 0])), (q13_0, .inl (cA 0, 310, .inl (fun _ => 0))), (q21_1, .inl (cA 0, 31, .inl (fun _ => 0))), (q34_2, .inl (cA 0, 52, .inl (fun _ => 0))), (q42_3, .inl (cA 0, 48, .inl (fun _ => 0))), (q50_4, .inl (cA 0, 8, .inl (fun _ => 0)))]) H locs := by rw [List.append_assoc] at hw; exact hw
    refine z_putF C hnm hw inX3 tyX3 tyX3_ok nmX3 rfl rfl 0 rfl 8 (by decide) wd_238 (trX3 8) rfl rfl rfl (Nat.le_of_ble_eq_true rfl) dX3_init_52 (fun H locs hw => ?_)
    have hw : AW D A s (ws ++ [(h0, .inr (3, [.null, .null, .null, .ref q13_0, .ref q21_1, .int (zI 0), .ref q34_2, .ref q42_3, .ref q50_4, .null, .null, .int 0, .int 0])), (q13_0, .inl (cA 0, 310, .inl (fun _ => 0))), (q21_1, .inl (cA 0, 31, .inl (fun _ => 0))), (q34_2, .inl (cA 0, 52, .inl (fun _ => 0))), (q42_3, .inl (cA 0, 48, .inl (fun _ => 0))), (q50_4, .inl (cA 0, 8, .inl (fun _ => 0)))]) H locs := hw
    refine y_aload_n C dX3_init_55 (lv_at hl 0 rfl) ?_
    refine y_bipush C dX3_init_56 (by decide) ?_
    refine z_newa C hA hw (ty := .int) rfl wd_65 0 rfl (fun _ h => h) (a0 := (9, .inl (fun _ => 0))) (fun _ => rfl) (by decide) (by decide) (by decide) (by decide) (by decide) dX3_init_58 (fun q58_5 H hw => ?_)
    have hw : AW D A s (ws ++ [(h0, .inr (3, [.null, .null, .null, .ref q13_0, .ref q21_1, .int (zI 0), .ref q34_2, .ref q42_3, .ref q50_4, .null, .null, .int 0, .int 0])), (q13_0, .inl (cA 0, 310, .inl (fun _ => 0))), (q21_1, .inl (cA 0, 31, .inl (fun _ => 0))), (q34_2, .inl (cA 0, 52, .inl (fun _ => 0))), (q42_3, .inl (cA 0, 48, .inl (fun _ => 0))), (q50_4, .inl (cA 0, 8, .inl (fun _ => 0))), (q58_5, .inl (cA 0, 9, .inl (fun _ => 0)))]) H locs := by rw [List.append_assoc] at hw; exact hw
    refine z_putF C hnm hw inX3 tyX3 tyX3_ok nmX3 rfl rfl 0 rfl 9 (by decide) wd_239 (trX3 9) rfl rfl rfl (Nat.le_of_ble_eq_true rfl) dX3_init_60 (fun H locs hw => ?_)
    have hw : AW D A s (ws ++ [(h0, .inr (3, [.null, .null, .null, .ref q13_0, .ref q21_1, .int (zI 0), .ref q34_2, .ref q42_3, .ref q50_4, .ref q58_5, .null, .int 0, .int 0])), (q13_0, .inl (cA 0, 310, .inl (fun _ => 0))), (q21_1, .inl (cA 0, 31, .inl (fun _ => 0))), (q34_2, .inl (cA 0, 52, .inl (fun _ => 0))), (q42_3, .inl (cA 0, 48, .inl (fun _ => 0))), (q50_4, .inl (cA 0, 8, .inl (fun _ => 0))), (q58_5, .inl (cA 0, 9, .inl (fun _ => 0)))]) H locs := hw
    refine y_aload_n C dX3_init_63 (lv_at hl 0 rfl) ?_
    refine y_bipush C dX3_init_64 (by decide) ?_
    refine z_newa C hA hw (ty := .int) rfl wd_65 0 rfl (fun _ h => h) (a0 := (9, .inl (fun _ => 0))) (fun _ => rfl) (by decide) (by decide) (by decide) (by decide) (by decide) dX3_init_66 (fun q66_6 H hw => ?_)
    have hw : AW D A s (ws ++ [(h0, .inr (3, [.null, .null, .null, .ref q13_0, .ref q21_1, .int (zI 0), .ref q34_2, .ref q42_3, .ref q50_4, .ref q58_5, .null, .int 0, .int 0])), (q13_0, .inl (cA 0, 310, .inl (fun _ => 0))), (q21_1, .inl (cA 0, 31, .inl (fun _ => 0))), (q34_2, .inl (cA 0, 52, .inl (fun _ => 0))), (q42_3, .inl (cA 0, 48, .inl (fun _ => 0))), (q50_4, .inl (cA 0, 8, .inl (fun _ => 0))), (q58_5, .inl (cA 0, 9, .inl (fun _ => 0))), (q66_6, .inl (cA 0, 9, .inl (fun _ => 0)))]) H locs := by rw [List.append_assoc] at hw; exact hw
    refine z_putF C hnm hw inX3 tyX3 tyX3_ok nmX3 rfl rfl 0 rfl 10 (by decide) wd_240 (trX3 10) rfl rfl rfl (Nat.le_of_ble_eq_true rfl) dX3_init_68 (fun H locs hw => ?_)
    have hw : AW D A s (ws ++ [(h0, .inr (3, [.null, .null, .null, .ref q13_0, .ref q21_1, .int (zI 0), .ref q34_2, .ref q42_3, .ref q50_4, .ref q58_5, .ref q66_6, .int 0, .int 0])), (q13_0, .inl (cA 0, 310, .inl (fun _ => 0))), (q21_1, .inl (cA 0, 31, .inl (fun _ => 0))), (q34_2, .inl (cA 0, 52, .inl (fun _ => 0))), (q42_3, .inl (cA 0, 48, .inl (fun _ => 0))), (q50_4, .inl (cA 0, 8, .inl (fun _ => 0))), (q58_5, .inl (cA 0, 9, .inl (fun _ => 0))), (q66_6, .inl (cA 0, 9, .inl (fun _ => 0)))]) H locs := hw
    refine y_aload_n C dX3_init_71 (lv_at hl 0 rfl) ?_
    refine y_iconst C dX3_init_72 ?_
    refine z_put C hw inX3 tyX3 tyX3_ok nmX3 rfl 0 rfl 11 (by decide) wd_241 (trX3 11) rfl rfl rfl (Nat.le_of_ble_eq_true rfl) dX3_init_73 (fun H locs hw => ?_)
    have hw : AW D A s (ws ++ [(h0, .inr (3, [.null, .null, .null, .ref q13_0, .ref q21_1, .int (zI 0), .ref q34_2, .ref q42_3, .ref q50_4, .ref q58_5, .ref q66_6, .int (zI 0), .int 0])), (q13_0, .inl (cA 0, 310, .inl (fun _ => 0))), (q21_1, .inl (cA 0, 31, .inl (fun _ => 0))), (q34_2, .inl (cA 0, 52, .inl (fun _ => 0))), (q42_3, .inl (cA 0, 48, .inl (fun _ => 0))), (q50_4, .inl (cA 0, 8, .inl (fun _ => 0))), (q58_5, .inl (cA 0, 9, .inl (fun _ => 0))), (q66_6, .inl (cA 0, 9, .inl (fun _ => 0)))]) H locs := hw
    refine y_aload_n C dX3_init_76 (lv_at hl 0 rfl) ?_
    refine y_iconst C dX3_init_77 ?_
    refine z_put C hw inX3 tyX3 tyX3_ok nmX3 rfl 0 rfl 12 (by decide) wd_242 (trX3 12) rfl rfl rfl (Nat.le_of_ble_eq_true rfl) dX3_init_78 (fun H locs hw => ?_)
    have hw : AW D A s (ws ++ [(h0, .inr (3, [.null, .null, .null, .ref q13_0, .ref q21_1, .int (zI 0), .ref q34_2, .ref q42_3, .ref q50_4, .ref q58_5, .ref q66_6, .int (zI 0), .int (zI 0)])), (q13_0, .inl (cA 0, 310, .inl (fun _ => 0))), (q21_1, .inl (cA 0, 31, .inl (fun _ => 0))), (q34_2, .inl (cA 0, 52, .inl (fun _ => 0))), (q42_3, .inl (cA 0, 48, .inl (fun _ => 0))), (q50_4, .inl (cA 0, 8, .inl (fun _ => 0))), (q58_5, .inl (cA 0, 9, .inl (fun _ => 0))), (q66_6, .inl (cA 0, 9, .inl (fun _ => 0)))]) H locs := hw
    refine y_aload_n C dX3_init_81 (lv_at hl 0 rfl) ?_
    refine y_aload_n C dX3_init_82 (lv_at hl 1 rfl) ?_
    refine z_put C hw inX3 tyX3 tyX3_ok nmX3 rfl 0 rfl 0 (by decide) wd_228 (trX3 0) rfl rfl rfl (Nat.le_of_ble_eq_true rfl) dX3_init_83 (fun H locs hw => ?_)
    have hw : AW D A s (ws ++ [(h0, .inr (3, [.ref a1, .null, .null, .ref q13_0, .ref q21_1, .int (zI 0), .ref q34_2, .ref q42_3, .ref q50_4, .ref q58_5, .ref q66_6, .int (zI 0), .int (zI 0)])), (q13_0, .inl (cA 0, 310, .inl (fun _ => 0))), (q21_1, .inl (cA 0, 31, .inl (fun _ => 0))), (q34_2, .inl (cA 0, 52, .inl (fun _ => 0))), (q42_3, .inl (cA 0, 48, .inl (fun _ => 0))), (q50_4, .inl (cA 0, 8, .inl (fun _ => 0))), (q58_5, .inl (cA 0, 9, .inl (fun _ => 0))), (q66_6, .inl (cA 0, 9, .inl (fun _ => 0)))]) H locs := hw
    refine y_aload_n C dX3_init_86 (lv_at hl 0 rfl) ?_
    refine y_aload_n C dX3_init_87 (lv_at hl 2 rfl) ?_
    refine z_put C hw inX3 tyX3 tyX3_ok nmX3 rfl 0 rfl 1 (by decide) wd_229 (trX3 1) rfl rfl rfl (Nat.le_of_ble_eq_true rfl) dX3_init_88 (fun H locs hw => ?_)
    have hw : AW D A s (ws ++ [(h0, .inr (3, [.ref a1, .ref a2, .null, .ref q13_0, .ref q21_1, .int (zI 0), .ref q34_2, .ref q42_3, .ref q50_4, .ref q58_5, .ref q66_6, .int (zI 0), .int (zI 0)])), (q13_0, .inl (cA 0, 310, .inl (fun _ => 0))), (q21_1, .inl (cA 0, 31, .inl (fun _ => 0))), (q34_2, .inl (cA 0, 52, .inl (fun _ => 0))), (q42_3, .inl (cA 0, 48, .inl (fun _ => 0))), (q50_4, .inl (cA 0, 8, .inl (fun _ => 0))), (q58_5, .inl (cA 0, 9, .inl (fun _ => 0))), (q66_6, .inl (cA 0, 9, .inl (fun _ => 0)))]) H locs := hw
    refine W.widen (k := 7) (n := 467) (by decide) (by decide) ?_
    exact z_ret (Wp := fun u : Nat × Nat × Nat × Nat × Nat × Nat × Nat => ws ++ [(h0, .inr (3, [.ref a1, .ref a2, .null, .ref u.1, .ref u.2.1, .int (zI 0), .ref u.2.2.1, .ref u.2.2.2.1, .ref u.2.2.2.2.1, .ref u.2.2.2.2.2.1, .ref u.2.2.2.2.2.2, .int (zI 0), .int (zI 0)])), (u.1, .inl (cA 0, 310, .inl (fun _ => 0))), (u.2.1, .inl (cA 0, 31, .inl (fun _ => 0))), (u.2.2.1, .inl (cA 0, 52, .inl (fun _ => 0))), (u.2.2.2.1, .inl (cA 0, 48, .inl (fun _ => 0))), (u.2.2.2.2.1, .inl (cA 0, 8, .inl (fun _ => 0))), (u.2.2.2.2.2.1, .inl (cA 0, 9, .inl (fun _ => 0))), (u.2.2.2.2.2.2, .inl (cA 0, 9, .inl (fun _ => 0)))]) C ⟨q13_0, q21_1, q34_2, q42_3, q50_4, q58_5, q66_6⟩ hw dX3_init_91)
set_option maxRecDepth 100000 in
set_option maxHeartbeats 4000000 in
theorem ci_X5_init {l : Launch} {D : va_G} {cA : Nat → ClassId} {adK adV : Nat → Nat} {A : Nat → Prop} {ws : va_W} {h0 : Nat} : Met l yX5_init (wsU yX5_init cX5_init 1 none) { frames := 1, cells := 5, slots := 30, locals := 12 } (va_Pc [.ref h0] (PrI D cA adK adV A (ws ++ [(h0, .inr (5, [.null, .null, .null, .null, .null, .int 0]))]))) (QN D A (fun u : Nat × Nat × Nat × Nat × Nat => ws ++ [(h0, .inr (5, [.ref u.1, .ref u.2.1, .ref u.2.2.1, .ref u.2.2.2.1, .ref u.2.2.2.2, .int (zI 0)])), (u.1, .inl (cA 0, 6, .inl (fun _ => 0))), (u.2.1, .inl (cA 0, 6, .inl (fun _ => 0))), (u.2.2.1, .inl (cA 0, 6, .inl (fun _ => 0))), (u.2.2.2.1, .inl (cA 0, 6, .inl (fun _ => 0))), (u.2.2.2.2, .inl (cA 0, 6, .inl (fun _ => 0)))])) 5 30 A :=
  z_met (own := RX5) (by decide) rfl rfl _ (Nat.le_of_ble_eq_true rfl) (fun p e s m args below meth c ls C hnm hA hl hw => by
    have hl : lv_has ls 1 [(0, .ref h0)] := hl
    refine y_aload_n C dX5_init_0 (lv_at hl 0 rfl) ?_
    refine z_obj C hl wd_274 (by decide) (by decide) dX5_init_1 ?_
    refine y_aload_n C dX5_init_4 (lv_at hl 0 rfl) ?_
    refine y_bipush C dX5_init_5 (by decide) ?_
    refine z_newa C hA hw (ty := .int) rfl wd_65 0 rfl (fun _ h => h) (a0 := (6, .inl (fun _ => 0))) (fun _ => rfl) (by decide) (by decide) (by decide) (by decide) (by decide) dX5_init_7 (fun q7_0 H hw => ?_)
    have hw : AW D A s (ws ++ [(h0, .inr (5, [.null, .null, .null, .null, .null, .int 0])), (q7_0, .inl (cA 0, 6, .inl (fun _ => 0)))]) H [] := by rw [List.append_assoc] at hw; exact hw
    refine z_putF C hnm hw inX5 tyX5 tyX5_ok nmX5 rfl rfl 0 rfl 0 (by decide) wd_275 (trX5 0) rfl rfl rfl (Nat.le_of_ble_eq_true rfl) dX5_init_9 (fun H locs hw => ?_)
    have hw : AW D A s (ws ++ [(h0, .inr (5, [.ref q7_0, .null, .null, .null, .null, .int 0])), (q7_0, .inl (cA 0, 6, .inl (fun _ => 0)))]) H locs := hw
    refine y_aload_n C dX5_init_12 (lv_at hl 0 rfl) ?_
    refine y_bipush C dX5_init_13 (by decide) ?_
    refine z_newa C hA hw (ty := .int) rfl wd_65 0 rfl (fun _ h => h) (a0 := (6, .inl (fun _ => 0))) (fun _ => rfl) (by decide) (by decide) (by decide) (by decide) (by decide) dX5_init_15 (fun q15_1 H hw => ?_)
    have hw : AW D A s (ws ++ [(h0, .inr (5, [.ref q7_0, .null, .null, .null, .null, .int 0])), (q7_0, .inl (cA 0, 6, .inl (fun _ => 0))), (q15_1, .inl (cA 0, 6, .inl (fun _ => 0)))]) H locs := by rw [List.append_assoc] at hw; exact hw
    refine z_putF C hnm hw inX5 tyX5 tyX5_ok nmX5 rfl rfl 0 rfl 1 (by decide) wd_276 (trX5 1) rfl rfl rfl (Nat.le_of_ble_eq_true rfl) dX5_init_17 (fun H locs hw => ?_)
    have hw : AW D A s (ws ++ [(h0, .inr (5, [.ref q7_0, .ref q15_1, .null, .null, .null, .int 0])), (q7_0, .inl (cA 0, 6, .inl (fun _ => 0))), (q15_1, .inl (cA 0, 6, .inl (fun _ => 0)))]) H locs := hw
    refine y_aload_n C dX5_init_20 (lv_at hl 0 rfl) ?_
    refine y_bipush C dX5_init_21 (by decide) ?_
    refine z_newa C hA hw (ty := .int) rfl wd_65 0 rfl (fun _ h => h) (a0 := (6, .inl (fun _ => 0))) (fun _ => rfl) (by decide) (by decide) (by decide) (by decide) (by decide) dX5_init_23 (fun q23_2 H hw => ?_)
    have hw : AW D A s (ws ++ [(h0, .inr (5, [.ref q7_0, .ref q15_1, .null, .null, .null, .int 0])), (q7_0, .inl (cA 0, 6, .inl (fun _ => 0))), (q15_1, .inl (cA 0, 6, .inl (fun _ => 0))), (q23_2, .inl (cA 0, 6, .inl (fun _ => 0)))]) H locs := by rw [List.append_assoc] at hw; exact hw
    refine z_putF C hnm hw inX5 tyX5 tyX5_ok nmX5 rfl rfl 0 rfl 2 (by decide) wd_277 (trX5 2) rfl rfl rfl (Nat.le_of_ble_eq_true rfl) dX5_init_25 (fun H locs hw => ?_)
    have hw : AW D A s (ws ++ [(h0, .inr (5, [.ref q7_0, .ref q15_1, .ref q23_2, .null, .null, .int 0])), (q7_0, .inl (cA 0, 6, .inl (fun _ => 0))), (q15_1, .inl (cA 0, 6, .inl (fun _ => 0))), (q23_2, .inl (cA 0, 6, .inl (fun _ => 0)))]) H locs := hw
    refine y_aload_n C dX5_init_28 (lv_at hl 0 rfl) ?_
    refine y_bipush C dX5_init_29 (by decide) ?_
    refine z_newa C hA hw (ty := .int) rfl wd_65 0 rfl (fun _ h => h) (a0 := (6, .inl (fun _ => 0))) (fun _ => rfl) (by decide) (by decide) (by decide) (by decide) (by decide) dX5_init_31 (fun q31_3 H hw => ?_)
    have hw : AW D A s (ws ++ [(h0, .inr (5, [.ref q7_0, .ref q15_1, .ref q23_2, .null, .null, .int 0])), (q7_0, .inl (cA 0, 6, .inl (fun _ => 0))), (q15_1, .inl (cA 0, 6, .inl (fun _ => 0))), (q23_2, .inl (cA 0, 6, .inl (fun _ => 0))), (q31_3, .inl (cA 0, 6, .inl (fun _ => 0)))]) H locs := by rw [List.append_assoc] at hw; exact hw
    refine z_putF C hnm hw inX5 tyX5 tyX5_ok nmX5 rfl rfl 0 rfl 3 (by decide) wd_278 (trX5 3) rfl rfl rfl (Nat.le_of_ble_eq_true rfl) dX5_init_33 (fun H locs hw => ?_)
    have hw : AW D A s (ws ++ [(h0, .inr (5, [.ref q7_0, .ref q15_1, .ref q23_2, .ref q31_3, .null, .int 0])), (q7_0, .inl (cA 0, 6, .inl (fun _ => 0))), (q15_1, .inl (cA 0, 6, .inl (fun _ => 0))), (q23_2, .inl (cA 0, 6, .inl (fun _ => 0))), (q31_3, .inl (cA 0, 6, .inl (fun _ => 0)))]) H locs := hw
    refine y_aload_n C dX5_init_36 (lv_at hl 0 rfl) ?_
    refine y_bipush C dX5_init_37 (by decide) ?_
    refine z_newa C hA hw (ty := .int) rfl wd_65 0 rfl (fun _ h => h) (a0 := (6, .inl (fun _ => 0))) (fun _ => rfl) (by decide) (by decide) (by decide) (by decide) (by decide) dX5_init_39 (fun q39_4 H hw => ?_)
    have hw : AW D A s (ws ++ [(h0, .inr (5, [.ref q7_0, .ref q15_1, .ref q23_2, .ref q31_3, .null, .int 0])), (q7_0, .inl (cA 0, 6, .inl (fun _ => 0))), (q15_1, .inl (cA 0, 6, .inl (fun _ => 0))), (q23_2, .inl (cA 0, 6, .inl (fun _ => 0))), (q31_3, .inl (cA 0, 6, .inl (fun _ => 0))), (q39_4, .inl (cA 0, 6, .inl (fun _ => 0)))]) H locs := by rw [List.append_assoc] at hw; exact hw
    refine z_putF C hnm hw inX5 tyX5 tyX5_ok nmX5 rfl rfl 0 rfl 4 (by decide) wd_279 (trX5 4) rfl rfl rfl (Nat.le_of_ble_eq_true rfl) dX5_init_41 (fun H locs hw => ?_)
    have hw : AW D A s (ws ++ [(h0, .inr (5, [.ref q7_0, .ref q15_1, .ref q23_2, .ref q31_3, .ref q39_4, .int 0])), (q7_0, .inl (cA 0, 6, .inl (fun _ => 0))), (q15_1, .inl (cA 0, 6, .inl (fun _ => 0))), (q23_2, .inl (cA 0, 6, .inl (fun _ => 0))), (q31_3, .inl (cA 0, 6, .inl (fun _ => 0))), (q39_4, .inl (cA 0, 6, .inl (fun _ => 0)))]) H locs := hw
    refine y_aload_n C dX5_init_44 (lv_at hl 0 rfl) ?_
    refine y_iconst C dX5_init_45 ?_
    refine z_put C hw inX5 tyX5 tyX5_ok nmX5 rfl 0 rfl 5 (by decide) wd_280 (trX5 5) rfl rfl rfl (Nat.le_of_ble_eq_true rfl) dX5_init_46 (fun H locs hw => ?_)
    have hw : AW D A s (ws ++ [(h0, .inr (5, [.ref q7_0, .ref q15_1, .ref q23_2, .ref q31_3, .ref q39_4, .int (zI 0)])), (q7_0, .inl (cA 0, 6, .inl (fun _ => 0))), (q15_1, .inl (cA 0, 6, .inl (fun _ => 0))), (q23_2, .inl (cA 0, 6, .inl (fun _ => 0))), (q31_3, .inl (cA 0, 6, .inl (fun _ => 0))), (q39_4, .inl (cA 0, 6, .inl (fun _ => 0)))]) H locs := hw
    refine W.widen (k := 5) (n := 30) (by decide) (by decide) ?_
    exact z_ret (Wp := fun u : Nat × Nat × Nat × Nat × Nat => ws ++ [(h0, .inr (5, [.ref u.1, .ref u.2.1, .ref u.2.2.1, .ref u.2.2.2.1, .ref u.2.2.2.2, .int (zI 0)])), (u.1, .inl (cA 0, 6, .inl (fun _ => 0))), (u.2.1, .inl (cA 0, 6, .inl (fun _ => 0))), (u.2.2.1, .inl (cA 0, 6, .inl (fun _ => 0))), (u.2.2.2.1, .inl (cA 0, 6, .inl (fun _ => 0))), (u.2.2.2.2, .inl (cA 0, 6, .inl (fun _ => 0)))]) C ⟨q7_0, q15_1, q23_2, q31_3, q39_4⟩ hw dX5_init_49)
