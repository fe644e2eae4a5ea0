theorem zb_fit {z : Int} (h : z = 0 ∨ z = 1) : fits .boolean (.int (zI z)) = true := by
  rcases h with rfl | rfl <;> decide
section K
variable {p : Program} {l : Launch} {e : Env} {s : State} {m : MethodId} {args : Array Value} {below : List Frame} {meth : Method} {c : Code} {D : va_G} {cA : Nat → ClassId} {adK adV : Nat → Nat} {A : Nat → Prop} {ad : Int → Nat} {R : va_W} {res : Int × St}
/-! RungHouseModel.fillYear -/
set_option maxRecDepth 100000 in
set_option maxHeartbeats 4000000 in
theorem k_X8_fillYear_253 {K57 : Int → Int → Int → Int → St → Option (Int × St)} {K65 : Int → Int → Int → Int → Int → St → Option (Int × St)} {K118 : Int → Int → Int → Int → Int → Int → Int → St → Option (Int × St)} {v1 : Int} {v2 : Int} {v3 : Int} {v4 : Int} {v5 : Int} {v8 : Int} {v11 : Int} {vs0 : Int} {vs2 : Int} {vs3 : Int} {vs4 : Int} (C : Cx cX8_fillYear RX8 13 none D cA adK adV A p s m args meth c) (hK57 : ∀ (v1 : Int) (v2 : Int) (v3 : Int) (v4 : Int) (σ : St) (H : Heap) (locs : List Loc) (ls : Array Slot) , At D cA ad kM 31 R A s σ H locs → lv_has ls 13 [(0, .ref (ad 0)), (1, .int (zI v1)), (2, .int (zI v2)), (3, .int (zI v3)), (4, .int (zI v4))] → K57 v1 v2 v3 v4 σ = some res → W p l e (rmU 3 78) s m args below meth c H locs 0 0 (MQ below (QV D cA ad kM 31 R A res) args s 0 0 A) (F0 m 57 ls [])) (hK65 : ∀ (v1 : Int) (v2 : Int) (v3 : Int) (v4 : Int) (v5 : Int) (σ : St) (H : Heap) (locs : List Loc) (ls : Array Slot) , At D cA ad kM 31 R A s σ H locs → lv_has ls 13 [(0, .ref (ad 0)), (1, .int (zI v1)), (2, .int (zI v2)), (3, .int (zI v3)), (4, .int (zI v4)), (5, .int (zI v5))] → K65 v1 v2 v3 v4 v5 σ = some res → W p l e (rmU 3 78) s m args below meth c H locs 0 0 (MQ below (QV D cA ad kM 31 R A res) args s 0 0 A) (F0 m 65 ls [])) (hK118 : ∀ (v1 : Int) (v2 : Int) (v3 : Int) (v4 : Int) (v5 : Int) (v6 : Int) (v8 : Int) (σ : St) (H : Heap) (locs : List Loc) (ls : Array Slot) , At D cA ad kM 31 R A s σ H locs → lv_has ls 13 [(0, .ref (ad 0)), (1, .int (zI v1)), (2, .int (zI v2)), (3, .int (zI v3)), (4, .int (zI v4)), (5, .int (zI v5)), (6, .long (zJ v6)), (8, .int (zI v8))] → K118 v1 v2 v3 v4 v5 v6 v8 σ = some res → W p l e (rmU 3 78) s m args below meth c H locs 0 0 (MQ below (QV D cA ad kM 31 R A res) args s 0 0 A) (F0 m 118 ls [])) {σ : St} {H : Heap} {locs : List Loc} {ls : Array Slot}  (hw : At D cA ad kM 31 R A s σ H locs) (hl : lv_has ls 13 [(0, .ref (ad 0)), (1, .int (zI v1)), (2, .int (zI v2)), (3, .int (zI v3)), (4, .int (zI v4)), (5, .int (zI v5)), (8, .int (zI v8)), (11, .long (zJ v11))]) (h : p_X8_fillYear_253 K57 K65 K118 v1 v2 v3 v4 v5 v8 v11 vs0 vs2 vs3 vs4 σ = some res) : W p l e (rmU 3 78) s m args below meth c H locs 0 0 (MQ below (QV D cA ad kM 31 R A res) args s 0 0 A) (F0 m 253 ls [.int (zI vs4), .int (zI vs3), .int (zI vs2), .ref (ad 0), .long (zJ vs0)]) := by
  have h := h
  unfold p_X8_fillYear_253 at h
  obtain ⟨x253, hc253, h⟩ := bd_some h
  refine y_ci (rest := [.long (zJ vs0)]) hw (y_rV C hw km_0 (by decide) rfl rfl (c_X8_oddsOf  hc253) mi_X8_oddsOf wd_1147 wd_1149 ws_41 rfl ⟨by decide, by decide⟩ hl rfl (Nat.le_of_ble_eq_true rfl) dX8_fillYear_253) (fun H locs hw => ?_)
  refine y_i2l C rfl dX8_fillYear_256 ?_
  refine y_lload C dX8_fillYear_257 (lv_at hl 7 rfl) ?_
  refine y_lmul C dX8_fillYear_259 ?_
  refine y_ladd C dX8_fillYear_260 ?_
  refine y_lstore (lv' := [(6, .long (zJ (vs0 + ((zm x253.1) * v11)))), (0, .ref (ad 0)), (1, .int (zI v1)), (2, .int (zI v2)), (3, .int (zI v3)), (4, .int (zI v4)), (5, .int (zI v5)), (8, .int (zI v8)), (11, .long (zJ v11))]) C dX8_fillYear_261 hl (by decide) rfl (fun ls hl => ?_)
  refine y_iinc (lv' := [(8, .int (zI (v8 + 1))), (6, .long (zJ (vs0 + ((zm x253.1) * v11)))), (0, .ref (ad 0)), (1, .int (zI v1)), (2, .int (zI v2)), (3, .int (zI v3)), (4, .int (zI v4)), (5, .int (zI v5)), (11, .long (zJ v11))]) C dX8_fillYear_263 hl (k := 7) rfl (by decide) rfl (fun ls hl => ?_)
  refine y_goto (tgt := 118) C dX8_fillYear_266 (by decide) ?_
  exact hK118 _ _ _ _ _ _ _ _ _ _ _  hw (lv_sub hl [2, 3, 4, 5, 6, 7, 1, 0] rfl) h
set_option maxRecDepth 100000 in
set_option maxHeartbeats 4000000 in
theorem k_X8_fillYear_232 {K57 : Int → Int → Int → Int → St → Option (Int × St)} {K65 : Int → Int → Int → Int → Int → St → Option (Int × St)} {K118 : Int → Int → Int → Int → Int → Int → Int → St → Option (Int × St)} {v1 : Int} {v2 : Int} {v3 : Int} {v4 : Int} {v5 : Int} {v6 : Int} {v8 : Int} {vs0 : Int} (C : Cx cX8_fillYear RX8 13 none D cA adK adV A p s m args meth c) (hK57 : ∀ (v1 : Int) (v2 : Int) (v3 : Int) (v4 : Int) (σ : St) (H : Heap) (locs : List Loc) (ls : Array Slot) , At D cA ad kM 31 R A s σ H locs → lv_has ls 13 [(0, .ref (ad 0)), (1, .int (zI v1)), (2, .int (zI v2)), (3, .int (zI v3)), (4, .int (zI v4))] → K57 v1 v2 v3 v4 σ = some res → W p l e (rmU 3 78) s m args below meth c H locs 0 0 (MQ below (QV D cA ad kM 31 R A res) args s 0 0 A) (F0 m 57 ls [])) (hK65 : ∀ (v1 : Int) (v2 : Int) (v3 : Int) (v4 : Int) (v5 : Int) (σ : St) (H : Heap) (locs : List Loc) (ls : Array Slot) , At D cA ad kM 31 R A s σ H locs → lv_has ls 13 [(0, .ref (ad 0)), (1, .int (zI v1)), (2, .int (zI v2)), (3, .int (zI v3)), (4, .int (zI v4)), (5, .int (zI v5))] → K65 v1 v2 v3 v4 v5 σ = some res → W p l e (rmU 3 78) s m args below meth c H locs 0 0 (MQ below (QV D cA ad kM 31 R A res) args s 0 0 A) (F0 m 65 ls [])) (hK118 : ∀ (v1 : Int) (v2 : Int) (v3 : Int) (v4 : Int) (v5 : Int) (v6 : Int) (v8 : Int) (σ : St) (H : Heap) (locs : List Loc) (ls : Array Slot) , At D cA ad kM 31 R A s σ H locs → lv_has ls 13 [(0, .ref (ad 0)), (1, .int (zI v1)), (2, .int (zI v2)), (3, .int (zI v3)), (4, .int (zI v4)), (5, .int (zI v5)), (6, .long (zJ v6)), (8, .int (zI v8))] → K118 v1 v2 v3 v4 v5 v6 v8 σ = some res → W p l e (rmU 3 78) s m args below meth c H locs 0 0 (MQ below (QV D cA ad kM 31 R A res) args s 0 0 A) (F0 m 118 ls [])) {σ : St} {H : Heap} {locs : List Loc} {ls : Array Slot}  (hw : At D cA ad kM 31 R A s σ H locs) (hl : lv_has ls 13 [(0, .ref (ad 0)), (1, .int (zI v1)), (2, .int (zI v2)), (3, .int (zI v3)), (4, .int (zI v4)), (5, .int (zI v5)), (6, .long (zJ v6)), (8, .int (zI v8))]) (h : p_X8_fillYear_232 K57 K65 K118 v1 v2 v3 v4 v5 v6 v8 vs0 σ = some res) : W p l e (rmU 3 78) s m args below meth c H locs 0 0 (MQ below (QV D cA ad kM 31 R A res) args s 0 0 A) (F0 m 232 ls [.long (zJ vs0)]) := by
  have h := h
  unfold p_X8_fillYear_232 at h
  refine y_lstore (lv' := [(11, .long (zJ vs0)), (0, .ref (ad 0)), (1, .int (zI v1)), (2, .int (zI v2)), (3, .int (zI v3)), (4, .int (zI v4)), (5, .int (zI v5)), (6, .long (zJ v6)), (8, .int (zI v8))]) C dX8_fillYear_232 hl (by decide) rfl (fun ls hl => ?_)
  refine y_lload C dX8_fillYear_234 (lv_at hl 7 rfl) ?_
  refine y_aload_n C dX8_fillYear_236 (lv_at hl 1 rfl) ?_
  refine y_aload_n C dX8_fillYear_237 (lv_at hl 1 rfl) ?_
  refine g8 C hw km_0 28 (by decide) wd_899 rfl dX8_fillYear_238 ?_
  refine y_iload C dX8_fillYear_241 (lv_at hl 8 rfl) ?_
  refine y_iload_n C dX8_fillYear_243 (lv_at hl 2 rfl) ?_
  refine y_iconst C dX8_fillYear_244 ?_
  refine y_icmp_ne (tgt := 252) C (a' := zm v1) (b' := 1) rfl (by decide) dX8_fillYear_245 (by decide) (fun hc => ?_) (fun hc => ?_)
  · rw [if_pos hc] at h
    refine y_iconst C dX8_fillYear_248 ?_
    refine y_goto (tgt := 253) C dX8_fillYear_249 (by decide) ?_
    exact k_X8_fillYear_253 C hK57 hK65 hK118  hw (lv_sub hl [1, 2, 3, 4, 5, 6, 8, 0] rfl) h
  · rw [if_neg hc] at h
    refine y_iconst C dX8_fillYear_252 ?_
    exact k_X8_fillYear_253 C hK57 hK65 hK118  hw (lv_sub hl [1, 2, 3, 4, 5, 6, 8, 0] rfl) h
set_option maxRecDepth 100000 in
set_option maxHeartbeats 4000000 in
theorem k_X8_fillYear_118b {K57 : Int → Int → Int → Int → St → Option (Int × St)} {K65 : Int → Int → Int → Int → Int → St → Option (Int × St)} {K118 : Int → Int → Int → Int → Int → Int → Int → St → Option (Int × St)} {v1 : Int} {v2 : Int} {v3 : Int} {v4 : Int} {v5 : Int} {v6 : Int} {v8 : Int} (C : Cx cX8_fillYear RX8 13 none D cA adK adV A p s m args meth c) (hK57 : ∀ (v1 : Int) (v2 : Int) (v3 : Int) (v4 : Int) (σ : St) (H : Heap) (locs : List Loc) (ls : Array Slot) , At D cA ad kM 31 R A s σ H locs → lv_has ls 13 [(0, .ref (ad 0)), (1, .int (zI v1)), (2, .int (zI v2)), (3, .int (zI v3)), (4, .int (zI v4))] → K57 v1 v2 v3 v4 σ = some res → W p l e (rmU 3 78) s m args below meth c H locs 0 0 (MQ below (QV D cA ad kM 31 R A res) args s 0 0 A) (F0 m 57 ls [])) (hK65 : ∀ (v1 : Int) (v2 : Int) (v3 : Int) (v4 : Int) (v5 : Int) (σ : St) (H : Heap) (locs : List Loc) (ls : Array Slot) , At D cA ad kM 31 R A s σ H locs → lv_has ls 13 [(0, .ref (ad 0)), (1, .int (zI v1)), (2, .int (zI v2)), (3, .int (zI v3)), (4, .int (zI v4)), (5, .int (zI v5))] → K65 v1 v2 v3 v4 v5 σ = some res → W p l e (rmU 3 78) s m args below meth c H locs 0 0 (MQ below (QV D cA ad kM 31 R A res) args s 0 0 A) (F0 m 65 ls [])) (hK118 : ∀ (v1 : Int) (v2 : Int) (v3 : Int) (v4 : Int) (v5 : Int) (v6 : Int) (v8 : Int) (σ : St) (H : Heap) (locs : List Loc) (ls : Array Slot) , At D cA ad kM 31 R A s σ H locs → lv_has ls 13 [(0, .ref (ad 0)), (1, .int (zI v1)), (2, .int (zI v2)), (3, .int (zI v3)), (4, .int (zI v4)), (5, .int (zI v5)), (6, .long (zJ v6)), (8, .int (zI v8))] → K118 v1 v2 v3 v4 v5 v6 v8 σ = some res → W p l e (rmU 3 78) s m args below meth c H locs 0 0 (MQ below (QV D cA ad kM 31 R A res) args s 0 0 A) (F0 m 118 ls [])) {σ : St} {H : Heap} {locs : List Loc} {ls : Array Slot}  (hw : At D cA ad kM 31 R A s σ H locs) (hl : lv_has ls 13 [(0, .ref (ad 0)), (1, .int (zI v1)), (2, .int (zI v2)), (3, .int (zI v3)), (4, .int (zI v4)), (5, .int (zI v5)), (6, .long (zJ v6)), (8, .int (zI v8))]) (h : p_X8_fillYear_118b K57 K65 K118 v1 v2 v3 v4 v5 v6 v8 σ = some res) : W p l e (rmU 3 78) s m args below meth c H locs 0 0 (MQ below (QV D cA ad kM 31 R A res) args s 0 0 A) (F0 m 118 ls []) := by
  have h := h
  unfold p_X8_fillYear_118b at h
  refine y_iload C dX8_fillYear_118 (lv_at hl 7 rfl) ?_
  refine y_aload_n C dX8_fillYear_120 (lv_at hl 0 rfl) ?_
  refine g8 C hw km_0 8 (by decide) wd_879 rfl dX8_fillYear_121 ?_
  refine y_aload_n C dX8_fillYear_124 (lv_at hl 0 rfl) ?_
  refine g8 C hw km_0 28 (by decide) wd_899 rfl dX8_fillYear_125 ?_
  obtain ⟨hg128, h⟩ := gd_some h
  refine y_iald C hw km_8 (i' := zm (σ 0 28)) rfl hg128 dX8_fillYear_128 ?_
  refine y_icmp_ge (tgt := 269) C (a' := zm v8) (b' := zm (σ 8 (zm (σ 0 28)))) rfl rfl dX8_fillYear_129 (by decide) (fun hc => ?_) (fun hc => ?_)
  · rw [if_pos hc] at h
    refine y_aload_n C dX8_fillYear_269 (lv_at hl 0 rfl) ?_
    refine g8 C hw km_0 27 (by decide) wd_898 rfl dX8_fillYear_270 ?_
    refine y_iload_n C dX8_fillYear_273 (lv_at hl 1 rfl) ?_
    refine y_iload_n C dX8_fillYear_274 (lv_at hl 2 rfl) ?_
    refine y_iload_n C dX8_fillYear_275 (lv_at hl 3 rfl) ?_
    refine y_iload C dX8_fillYear_276 (lv_at hl 4 rfl) ?_
    refine y_iload C dX8_fillYear_278 (lv_at hl 5 rfl) ?_
    obtain ⟨x280, hc280, h⟩ := bd_some h
    refine y_ci (rest := [.ref (ad 17)]) hw (y_rS C hw (c_X8_place  hc280) mi_X8_place wd_1180 wd_1181 rfl ⟨by decide, by decide⟩ hl rfl (Nat.le_of_ble_eq_true rfl) dX8_fillYear_280) (fun H locs hw => ?_)
    refine y_lload C dX8_fillYear_283 (lv_at hl 6 rfl) ?_
    refine y_ldc2 C (z := 1000) wd_1183 (by decide) dX8_fillYear_285 ?_
    refine y_ldiv C (b' := 1000) (by decide) (by decide) dX8_fillYear_288 ?_
    refine y_l2i C dX8_fillYear_289 ?_
    obtain ⟨hg290, h⟩ := gd_some h
    obtain ⟨σ290, eσ290, h⟩ := nx_some h
    refine y_iast C hw km_17 (i' := zm x280.1) rfl hg290 dX8_fillYear_290 (fun H locs hw => ?_)
    rw [← eσ290] at hw
    refine y_iinc (lv' := [(5, .int (zI (v5 + 1))), (0, .ref (ad 0)), (1, .int (zI v1)), (2, .int (zI v2)), (3, .int (zI v3)), (4, .int (zI v4)), (6, .long (zJ v6)), (8, .int (zI v8))]) C dX8_fillYear_291 hl (k := 5) rfl (by decide) rfl (fun ls hl => ?_)
    refine y_goto (tgt := 65) C dX8_fillYear_294 (by decide) ?_
    exact hK65 _ _ _ _ _ _ _ _ _  hw (lv_sub hl [1, 2, 3, 4, 5, 0] rfl) h
  · rw [if_neg hc] at h
    refine y_aload_n C dX8_fillYear_132 (lv_at hl 0 rfl) ?_
    refine g8 C hw km_0 9 (by decide) wd_880 rfl dX8_fillYear_133 ?_
    refine y_bipush C dX8_fillYear_136 (by decide) ?_
    refine y_aload_n C dX8_fillYear_138 (lv_at hl 0 rfl) ?_
    refine g8 C hw km_0 28 (by decide) wd_899 rfl dX8_fillYear_139 ?_
    refine y_imul C dX8_fillYear_142 ?_
    refine y_iload C dX8_fillYear_143 (lv_at hl 7 rfl) ?_
    refine y_iadd C dX8_fillYear_145 ?_
    obtain ⟨hg146, h⟩ := gd_some h
    refine y_iald C hw km_9 (i' := zm ((8 * (σ 0 28)) + v8)) rfl hg146 dX8_fillYear_146 ?_
    refine y_istore (lv' := [(9, .int (zI (σ 9 (zm ((8 * (σ 0 28)) + v8))))), (0, .ref (ad 0)), (1, .int (zI v1)), (2, .int (zI v2)), (3, .int (zI v3)), (4, .int (zI v4)), (5, .int (zI v5)), (6, .long (zJ v6)), (8, .int (zI v8))]) C dX8_fillYear_147 hl (by decide) rfl (fun ls hl => ?_)
    refine y_aload_n C dX8_fillYear_149 (lv_at hl 1 rfl) ?_
    refine y_iload_n C dX8_fillYear_150 (lv_at hl 2 rfl) ?_
    refine y_iload_n C dX8_fillYear_151 (lv_at hl 3 rfl) ?_
    refine y_iload_n C dX8_fillYear_152 (lv_at hl 4 rfl) ?_
    refine y_iload C dX8_fillYear_153 (lv_at hl 5 rfl) ?_
    refine y_iload C dX8_fillYear_155 (lv_at hl 6 rfl) ?_
    refine y_iload C dX8_fillYear_157 (lv_at hl 0 rfl) ?_
    obtain ⟨x159, hc159, h⟩ := bd_some h
    refine y_ci (rest := []) hw (y_rV C hw km_0 (by decide) rfl rfl (c_X8_asks  hc159) mi_X8_asks wd_1184 wd_1186 ws_46 rfl ⟨by decide, by decide⟩ hl rfl (Nat.le_of_ble_eq_true rfl) dX8_fillYear_159) (fun H locs hw => ?_)
    refine y_istore (lv' := [(10, .int (zI x159.1)), (9, .int (zI (σ 9 (zm ((8 * (σ 0 28)) + v8))))), (0, .ref (ad 0)), (1, .int (zI v1)), (2, .int (zI v2)), (3, .int (zI v3)), (4, .int (zI v4)), (5, .int (zI v5)), (6, .long (zJ v6)), (8, .int (zI v8))]) C dX8_fillYear_162 hl (by decide) rfl (fun ls hl => ?_)
    refine y_iload C dX8_fillYear_164 (lv_at hl 0 rfl) ?_
    refine y_if_eq (tgt := 206) C (a' := zm x159.1) rfl dX8_fillYear_166 (by decide) (fun hc => ?_) (fun hc => ?_)
    · rw [if_pos hc] at h
      refine y_ldc2 C (z := 1000) wd_1183 (by decide) dX8_fillYear_206 ?_
      refine y_iload C dX8_fillYear_209 (lv_at hl 1 rfl) ?_
      refine y_i2l C rfl dX8_fillYear_211 ?_
      refine y_lmul C dX8_fillYear_212 ?_
      refine y_aload_n C dX8_fillYear_213 (lv_at hl 2 rfl) ?_
      refine g8 C hw km_0 27 (by decide) wd_898 rfl dX8_fillYear_214 ?_
      refine y_iload_n C dX8_fillYear_217 (lv_at hl 3 rfl) ?_
      refine y_iload_n C dX8_fillYear_218 (lv_at hl 4 rfl) ?_
      refine y_iload_n C dX8_fillYear_219 (lv_at hl 5 rfl) ?_
      refine y_iload C dX8_fillYear_220 (lv_at hl 6 rfl) ?_
      refine y_iconst C dX8_fillYear_222 ?_
      refine y_iadd C dX8_fillYear_223 ?_
      refine y_iload C dX8_fillYear_224 (lv_at hl 7 rfl) ?_
      obtain ⟨x226, hc226, h⟩ := bd_some h
      refine y_ci (rest := [.ref (ad 17), .long (zJ (1000 * (zm (σ 9 (zm ((8 * (σ 0 28)) + v8))))))]) hw (y_rS C hw (c_X8_place  hc226) mi_X8_place wd_1180 wd_1181 rfl ⟨by decide, by decide⟩ hl rfl (Nat.le_of_ble_eq_true rfl) dX8_fillYear_226) (fun H locs hw => ?_)
      obtain ⟨hg229, h⟩ := gd_some h
      refine y_iald C hw km_17 (i' := zm x226.1) rfl hg229 dX8_fillYear_229 ?_
      refine y_i2l C rfl dX8_fillYear_230 ?_
      refine y_ladd C dX8_fillYear_231 ?_
      exact k_X8_fillYear_232 C hK57 hK65 hK118  hw (lv_sub hl [2, 3, 4, 5, 6, 7, 8, 9] rfl) h
    · rw [if_neg hc] at h
      refine y_ldc2 C (z := 1000) wd_1183 (by decide) dX8_fillYear_169 ?_
      refine y_aload_n C dX8_fillYear_172 (lv_at hl 2 rfl) ?_
      refine y_iload C dX8_fillYear_173 (lv_at hl 1 rfl) ?_
      obtain ⟨x175, hc175, h⟩ := bd_some h
      refine y_ci (rest := [.long (zJ 1000)]) hw (y_rV C hw km_0 (by decide) rfl rfl (c_X8_bears  hc175) mi_X8_bears wd_1192 wd_1194 ws_48 rfl ⟨by decide, by decide⟩ hl rfl (Nat.le_of_ble_eq_true rfl) dX8_fillYear_175) (fun H locs hw => ?_)
      refine y_i2l C rfl dX8_fillYear_178 ?_
      refine y_lmul C dX8_fillYear_179 ?_
      refine y_aload_n C dX8_fillYear_180 (lv_at hl 2 rfl) ?_
      refine g8 C hw km_0 27 (by decide) wd_898 rfl dX8_fillYear_181 ?_
      refine y_iload_n C dX8_fillYear_184 (lv_at hl 3 rfl) ?_
      refine y_iload_n C dX8_fillYear_185 (lv_at hl 4 rfl) ?_
      refine y_iload_n C dX8_fillYear_186 (lv_at hl 5 rfl) ?_
      refine y_iload C dX8_fillYear_187 (lv_at hl 6 rfl) ?_
      refine y_iconst C dX8_fillYear_189 ?_
      refine y_iadd C dX8_fillYear_190 ?_
      refine y_aload_n C dX8_fillYear_191 (lv_at hl 2 rfl) ?_
      refine y_iload C dX8_fillYear_192 (lv_at hl 7 rfl) ?_
      obtain ⟨x194, hc194, h⟩ := bd_some h
      refine y_ci (rest := [.int (zI (v4 + 1)), .int (zI v3), .int (zI v2), .int (zI v1), .ref (ad 17), .long (zJ (1000 * (zm x175.1)))]) hw (y_rV C hw km_0 (by decide) rfl rfl (c_X8_more  hc194) mi_X8_more wd_1196 wd_1198 ws_49 rfl ⟨by decide, by decide⟩ hl rfl (Nat.le_of_ble_eq_true rfl) dX8_fillYear_194) (fun H locs hw => ?_)
      obtain ⟨x197, hc197, h⟩ := bd_some h
      refine y_ci (rest := [.ref (ad 17), .long (zJ (1000 * (zm x175.1)))]) hw (y_rS C hw (c_X8_place  hc197) mi_X8_place wd_1180 wd_1181 rfl ⟨by decide, by decide⟩ hl rfl (Nat.le_of_ble_eq_true rfl) dX8_fillYear_197) (fun H locs hw => ?_)
      obtain ⟨hg200, h⟩ := gd_some h
      refine y_iald C hw km_17 (i' := zm x197.1) rfl hg200 dX8_fillYear_200 ?_
      refine y_i2l C rfl dX8_fillYear_201 ?_
      refine y_ladd C dX8_fillYear_202 ?_
      refine y_goto (tgt := 232) C dX8_fillYear_203 (by decide) ?_
      exact k_X8_fillYear_232 C hK57 hK65 hK118  hw (lv_sub hl [2, 3, 4, 5, 6, 7, 8, 9] rfl) h
set_option maxRecDepth 100000 in
theorem k_X8_fillYear_118 {K57 : Int → Int → Int → Int → St → Option (Int × St)} {K65 : Int → Int → Int → Int → Int → St → Option (Int × St)} (C : Cx cX8_fillYear RX8 13 none D cA adK adV A p s m args meth c) (hK57 : ∀ (v1 : Int) (v2 : Int) (v3 : Int) (v4 : Int) (σ : St) (H : Heap) (locs : List Loc) (ls : Array Slot) , At D cA ad kM 31 R A s σ H locs → lv_has ls 13 [(0, .ref (ad 0)), (1, .int (zI v1)), (2, .int (zI v2)), (3, .int (zI v3)), (4, .int (zI v4))] → K57 v1 v2 v3 v4 σ = some res → W p l e (rmU 3 78) s m args below meth c H locs 0 0 (MQ below (QV D cA ad kM 31 R A res) args s 0 0 A) (F0 m 57 ls [])) (hK65 : ∀ (v1 : Int) (v2 : Int) (v3 : Int) (v4 : Int) (v5 : Int) (σ : St) (H : Heap) (locs : List Loc) (ls : Array Slot) , At D cA ad kM 31 R A s σ H locs → lv_has ls 13 [(0, .ref (ad 0)), (1, .int (zI v1)), (2, .int (zI v2)), (3, .int (zI v3)), (4, .int (zI v4)), (5, .int (zI v5))] → K65 v1 v2 v3 v4 v5 σ = some res → W p l e (rmU 3 78) s m args below meth c H locs 0 0 (MQ below (QV D cA ad kM 31 R A res) args s 0 0 A) (F0 m 65 ls [])) : ∀ (n : Nat) (v1 : Int) (v2 : Int) (v3 : Int) (v4 : Int) (v5 : Int) (v6 : Int) (v8 : Int) (σ : St) (H : Heap) (locs : List Loc) (ls : Array Slot) , At D cA ad kM 31 R A s σ H locs → lv_has ls 13 [(0, .ref (ad 0)), (1, .int (zI v1)), (2, .int (zI v2)), (3, .int (zI v3)), (4, .int (zI v4)), (5, .int (zI v5)), (6, .long (zJ v6)), (8, .int (zI v8))] → p_X8_fillYear_118 K57 K65 n v1 v2 v3 v4 v5 v6 v8 σ = some res → W p l e (rmU 3 78) s m args below meth c H locs 0 0 (MQ below (QV D cA ad kM 31 R A res) args s 0 0 A) (F0 m 118 ls []) := by
  intro n
  induction n with
  | zero =>
    intro v1 v2 v3 v4 v5 v6 v8 σ H locs ls  hw hl h
    have h : none = some res := h
    cases h
  | succ n ih =>
    intro v1 v2 v3 v4 v5 v6 v8 σ H locs ls  hw hl h
    exact k_X8_fillYear_118b C hK57 hK65 ih  hw hl h
set_option maxRecDepth 100000 in
set_option maxHeartbeats 4000000 in
theorem k_X8_fillYear_89 {K57 : Int → Int → Int → Int → St → Option (Int × St)} {K65 : Int → Int → Int → Int → Int → St → Option (Int × St)} {v1 : Int} {v2 : Int} {v3 : Int} {v4 : Int} {v5 : Int} {vs0 : Int} {vs2 : Int} {vs3 : Int} (C : Cx cX8_fillYear RX8 13 none D cA adK adV A p s m args meth c) (hK57 : ∀ (v1 : Int) (v2 : Int) (v3 : Int) (v4 : Int) (σ : St) (H : Heap) (locs : List Loc) (ls : Array Slot) , At D cA ad kM 31 R A s σ H locs → lv_has ls 13 [(0, .ref (ad 0)), (1, .int (zI v1)), (2, .int (zI v2)), (3, .int (zI v3)), (4, .int (zI v4))] → K57 v1 v2 v3 v4 σ = some res → W p l e (rmU 3 78) s m args below meth c H locs 0 0 (MQ below (QV D cA ad kM 31 R A res) args s 0 0 A) (F0 m 57 ls [])) (hK65 : ∀ (v1 : Int) (v2 : Int) (v3 : Int) (v4 : Int) (v5 : Int) (σ : St) (H : Heap) (locs : List Loc) (ls : Array Slot) , At D cA ad kM 31 R A s σ H locs → lv_has ls 13 [(0, .ref (ad 0)), (1, .int (zI v1)), (2, .int (zI v2)), (3, .int (zI v3)), (4, .int (zI v4)), (5, .int (zI v5))] → K65 v1 v2 v3 v4 v5 σ = some res → W p l e (rmU 3 78) s m args below meth c H locs 0 0 (MQ below (QV D cA ad kM 31 R A res) args s 0 0 A) (F0 m 65 ls [])) {σ : St} {H : Heap} {locs : List Loc} {ls : Array Slot}  (hw : At D cA ad kM 31 R A s σ H locs) (hl : lv_has ls 13 [(0, .ref (ad 0)), (1, .int (zI v1)), (2, .int (zI v2)), (3, .int (zI v3)), (4, .int (zI v4)), (5, .int (zI v5))]) (h : p_X8_fillYear_89 K57 K65 v1 v2 v3 v4 v5 vs0 vs2 vs3 σ = some res) : W p l e (rmU 3 78) s m args below meth c H locs 0 0 (MQ below (QV D cA ad kM 31 R A res) args s 0 0 A) (F0 m 89 ls [.int (zI vs3), .int (zI vs2), .ref (ad 0), .long (zJ vs0)]) := by
  have h := h
  unfold p_X8_fillYear_89 at h
  obtain ⟨x89, hc89, h⟩ := bd_some h
  refine y_ci (rest := [.long (zJ vs0)]) hw (y_rV C hw km_0 (by decide) rfl rfl (c_X8_sumOdds  hc89) mi_X8_sumOdds wd_1143 wd_1145 ws_40 rfl ⟨by decide, by decide⟩ hl rfl (Nat.le_of_ble_eq_true rfl) dX8_fillYear_89) (fun H locs hw => ?_)
  refine y_i2l C rfl dX8_fillYear_92 ?_
  refine y_lsub C dX8_fillYear_93 ?_
  refine y_aload_n C dX8_fillYear_94 (lv_at hl 0 rfl) ?_
  refine g8 C hw km_0 27 (by decide) wd_898 rfl dX8_fillYear_95 ?_
  refine y_iload_n C dX8_fillYear_98 (lv_at hl 1 rfl) ?_
  refine y_iload_n C dX8_fillYear_99 (lv_at hl 2 rfl) ?_
  refine y_iload_n C dX8_fillYear_100 (lv_at hl 3 rfl) ?_
  refine y_iload C dX8_fillYear_101 (lv_at hl 4 rfl) ?_
  refine y_iconst C dX8_fillYear_103 ?_
  refine y_iadd C dX8_fillYear_104 ?_
  refine y_iload C dX8_fillYear_105 (lv_at hl 5 rfl) ?_
  obtain ⟨x107, hc107, h⟩ := bd_some h
  refine y_ci (rest := [.ref (ad 17), .long (zJ (vs0 - (zm x89.1)))]) hw (y_rS C hw (c_X8_place  hc107) mi_X8_place wd_1180 wd_1181 rfl ⟨by decide, by decide⟩ hl rfl (Nat.le_of_ble_eq_true rfl) dX8_fillYear_107) (fun H locs hw => ?_)
  obtain ⟨hg110, h⟩ := gd_some h
  refine y_iald C hw km_17 (i' := zm x107.1) rfl hg110 dX8_fillYear_110 ?_
  refine y_i2l C rfl dX8_fillYear_111 ?_
  refine y_lmul C dX8_fillYear_112 ?_
  obtain ⟨z113, ez113, h⟩ := nz_some h
  rw [← ez113]
  refine y_lstore (lv' := [(6, .long (zJ z113)), (0, .ref (ad 0)), (1, .int (zI v1)), (2, .int (zI v2)), (3, .int (zI v3)), (4, .int (zI v4)), (5, .int (zI v5))]) C dX8_fillYear_113 hl (by decide) rfl (fun ls hl => ?_)
  refine y_iconst C dX8_fillYear_115 ?_
  refine y_istore (lv' := [(8, .int (zI 0)), (6, .long (zJ z113)), (0, .ref (ad 0)), (1, .int (zI v1)), (2, .int (zI v2)), (3, .int (zI v3)), (4, .int (zI v4)), (5, .int (zI v5))]) C dX8_fillYear_116 hl (by decide) rfl (fun ls hl => ?_)
  exact k_X8_fillYear_118 C hK57 hK65 FU _ _ _ _ _ _ _ _ _ _ _  hw (lv_sub hl [2, 3, 4, 5, 6, 7, 1, 0] rfl) h
set_option maxRecDepth 100000 in
set_option maxHeartbeats 4000000 in
theorem k_X8_fillYear_65b {K57 : Int → Int → Int → Int → St → Option (Int × St)} {K65 : Int → Int → Int → Int → Int → St → Option (Int × St)} {v1 : Int} {v2 : Int} {v3 : Int} {v4 : Int} {v5 : Int} (C : Cx cX8_fillYear RX8 13 none D cA adK adV A p s m args meth c) (hK57 : ∀ (v1 : Int) (v2 : Int) (v3 : Int) (v4 : Int) (σ : St) (H : Heap) (locs : List Loc) (ls : Array Slot) , At D cA ad kM 31 R A s σ H locs → lv_has ls 13 [(0, .ref (ad 0)), (1, .int (zI v1)), (2, .int (zI v2)), (3, .int (zI v3)), (4, .int (zI v4))] → K57 v1 v2 v3 v4 σ = some res → W p l e (rmU 3 78) s m args below meth c H locs 0 0 (MQ below (QV D cA ad kM 31 R A res) args s 0 0 A) (F0 m 57 ls [])) (hK65 : ∀ (v1 : Int) (v2 : Int) (v3 : Int) (v4 : Int) (v5 : Int) (σ : St) (H : Heap) (locs : List Loc) (ls : Array Slot) , At D cA ad kM 31 R A s σ H locs → lv_has ls 13 [(0, .ref (ad 0)), (1, .int (zI v1)), (2, .int (zI v2)), (3, .int (zI v3)), (4, .int (zI v4)), (5, .int (zI v5))] → K65 v1 v2 v3 v4 v5 σ = some res → W p l e (rmU 3 78) s m args below meth c H locs 0 0 (MQ below (QV D cA ad kM 31 R A res) args s 0 0 A) (F0 m 65 ls [])) {σ : St} {H : Heap} {locs : List Loc} {ls : Array Slot}  (hw : At D cA ad kM 31 R A s σ H locs) (hl : lv_has ls 13 [(0, .ref (ad 0)), (1, .int (zI v1)), (2, .int (zI v2)), (3, .int (zI v3)), (4, .int (zI v4)), (5, .int (zI v5))]) (h : p_X8_fillYear_65b K57 K65 v1 v2 v3 v4 v5 σ = some res) : W p l e (rmU 3 78) s m args below meth c H locs 0 0 (MQ below (QV D cA ad kM 31 R A res) args s 0 0 A) (F0 m 65 ls []) := by
  have h := h
  unfold p_X8_fillYear_65b at h
  refine y_iload C dX8_fillYear_65 (lv_at hl 5 rfl) ?_
  refine y_iconst C dX8_fillYear_67 ?_
  refine y_icmp_ge (tgt := 297) C (a' := zm v5) (b' := 4) rfl (by decide) dX8_fillYear_68 (by decide) (fun hc => ?_) (fun hc => ?_)
  · rw [if_pos hc] at h
    refine y_iinc (lv' := [(4, .int (zI (v4 + (-1)))), (0, .ref (ad 0)), (1, .int (zI v1)), (2, .int (zI v2)), (3, .int (zI v3)), (5, .int (zI v5))]) C dX8_fillYear_297 hl (k := 4) rfl (by decide) rfl (fun ls hl => ?_)
    refine y_goto (tgt := 57) C dX8_fillYear_300 (by decide) ?_
    exact hK57 _ _ _ _ _ _ _ _  hw (lv_sub hl [1, 2, 3, 4, 0] rfl) h
  · rw [if_neg hc] at h
    refine y_ldc2 C (z := 1000) wd_1183 (by decide) dX8_fillYear_71 ?_
    refine y_aload_n C dX8_fillYear_74 (lv_at hl 0 rfl) ?_
    refine y_aload_n C dX8_fillYear_75 (lv_at hl 0 rfl) ?_
    refine g8 C hw km_0 28 (by decide) wd_899 rfl dX8_fillYear_76 ?_
    refine y_iload_n C dX8_fillYear_79 (lv_at hl 1 rfl) ?_
    refine y_iconst C dX8_fillYear_80 ?_
    refine y_icmp_ne (tgt := 88) C (a' := zm v1) (b' := 1) rfl (by decide) dX8_fillYear_81 (by decide) (fun hc => ?_) (fun hc => ?_)
    · rw [if_pos hc] at h
      refine y_iconst C dX8_fillYear_84 ?_
      refine y_goto (tgt := 89) C dX8_fillYear_85 (by decide) ?_
      exact k_X8_fillYear_89 C hK57 hK65  hw hl h
    · rw [if_neg hc] at h
      refine y_iconst C dX8_fillYear_88 ?_
      exact k_X8_fillYear_89 C hK57 hK65  hw hl h
set_option maxRecDepth 100000 in
theorem k_X8_fillYear_65 {K57 : Int → Int → Int → Int → St → Option (Int × St)} (C : Cx cX8_fillYear RX8 13 none D cA adK adV A p s m args meth c) (hK57 : ∀ (v1 : Int) (v2 : Int) (v3 : Int) (v4 : Int) (σ : St) (H : Heap) (locs : List Loc) (ls : Array Slot) , At D cA ad kM 31 R A s σ H locs → lv_has ls 13 [(0, .ref (ad 0)), (1, .int (zI v1)), (2, .int (zI v2)), (3, .int (zI v3)), (4, .int (zI v4))] → K57 v1 v2 v3 v4 σ = some res → W p l e (rmU 3 78) s m args below meth c H locs 0 0 (MQ below (QV D cA ad kM 31 R A res) args s 0 0 A) (F0 m 57 ls [])) : ∀ (n : Nat) (v1 : Int) (v2 : Int) (v3 : Int) (v4 : Int) (v5 : Int) (σ : St) (H : Heap) (locs : List Loc) (ls : Array Slot) , At D cA ad kM 31 R A s σ H locs → lv_has ls 13 [(0, .ref (ad 0)), (1, .int (zI v1)), (2, .int (zI v2)), (3, .int (zI v3)), (4, .int (zI v4)), (5, .int (zI v5))] → p_X8_fillYear_65 K57 n v1 v2 v3 v4 v5 σ = some res → W p l e (rmU 3 78) s m args below meth c H locs 0 0 (MQ below (QV D cA ad kM 31 R A res) args s 0 0 A) (F0 m 65 ls []) := by
  intro n
  induction n with
  | zero =>
    intro v1 v2 v3 v4 v5 σ H locs ls  hw hl h
    have h : none = some res := h
    cases h
  | succ n ih =>
    intro v1 v2 v3 v4 v5 σ H locs ls  hw hl h
    exact k_X8_fillYear_65b C hK57 ih  hw hl h
set_option maxRecDepth 100000 in
set_option maxHeartbeats 4000000 in
theorem k_X8_fillYear_57b {K57 : Int → Int → Int → Int → St → Option (Int × St)} {v1 : Int} {v2 : Int} {v3 : Int} {v4 : Int} (C : Cx cX8_fillYear RX8 13 none D cA adK adV A p s m args meth c)  (hK57 : ∀ (v1 : Int) (v2 : Int) (v3 : Int) (v4 : Int) (σ : St) (H : Heap) (locs : List Loc) (ls : Array Slot) , At D cA ad kM 31 R A s σ H locs → lv_has ls 13 [(0, .ref (ad 0)), (1, .int (zI v1)), (2, .int (zI v2)), (3, .int (zI v3)), (4, .int (zI v4))] → K57 v1 v2 v3 v4 σ = some res → W p l e (rmU 3 78) s m args below meth c H locs 0 0 (MQ below (QV D cA ad kM 31 R A res) args s 0 0 A) (F0 m 57 ls [])) {σ : St} {H : Heap} {locs : List Loc} {ls : Array Slot}  (hw : At D cA ad kM 31 R A s σ H locs) (hl : lv_has ls 13 [(0, .ref (ad 0)), (1, .int (zI v1)), (2, .int (zI v2)), (3, .int (zI v3)), (4, .int (zI v4))]) (h : p_X8_fillYear_57b K57 v1 v2 v3 v4 σ = some res) : W p l e (rmU 3 78) s m args below meth c H locs 0 0 (MQ below (QV D cA ad kM 31 R A res) args s 0 0 A) (F0 m 57 ls []) := by
  have h := h
  unfold p_X8_fillYear_57b at h
  refine y_iload C dX8_fillYear_57 (lv_at hl 4 rfl) ?_
  refine y_if_lt (tgt := 303) C (a' := zm v4) rfl dX8_fillYear_59 (by decide) (fun hc => ?_) (fun hc => ?_)
  · rw [if_pos hc] at h
    exact y_vret C hw h dX8_fillYear_303
  · rw [if_neg hc] at h
    refine y_iconst C dX8_fillYear_62 ?_
    refine y_istore (lv' := [(5, .int (zI 0)), (0, .ref (ad 0)), (1, .int (zI v1)), (2, .int (zI v2)), (3, .int (zI v3)), (4, .int (zI v4))]) C dX8_fillYear_63 hl (by decide) rfl (fun ls hl => ?_)
    exact k_X8_fillYear_65 C hK57 FU _ _ _ _ _ _ _ _ _  hw (lv_sub hl [1, 2, 3, 4, 5, 0] rfl) h
set_option maxRecDepth 100000 in
theorem k_X8_fillYear_57  (C : Cx cX8_fillYear RX8 13 none D cA adK adV A p s m args meth c)  : ∀ (n : Nat) (v1 : Int) (v2 : Int) (v3 : Int) (v4 : Int) (σ : St) (H : Heap) (locs : List Loc) (ls : Array Slot) , At D cA ad kM 31 R A s σ H locs → lv_has ls 13 [(0, .ref (ad 0)), (1, .int (zI v1)), (2, .int (zI v2)), (3, .int (zI v3)), (4, .int (zI v4))] → p_X8_fillYear_57  n v1 v2 v3 v4 σ = some res → W p l e (rmU 3 78) s m args below meth c H locs 0 0 (MQ below (QV D cA ad kM 31 R A res) args s 0 0 A) (F0 m 57 ls []) := by
  intro n
  induction n with
  | zero =>
    intro v1 v2 v3 v4 σ H locs ls  hw hl h
    have h : none = some res := h
    cases h
  | succ n ih =>
    intro v1 v2 v3 v4 σ H locs ls  hw hl h
    exact k_X8_fillYear_57b C  ih  hw hl h
set_option maxRecDepth 100000 in
set_option maxHeartbeats 4000000 in
theorem k_X8_fillYear_3b {K3 : Int → Int → Int → Int → St → Option (Int × St)} {v1 : Int} {v2 : Int} {v3 : Int} {v4 : Int} (C : Cx cX8_fillYear RX8 13 none D cA adK adV A p s m args meth c)  (hK3 : ∀ (v1 : Int) (v2 : Int) (v3 : Int) (v4 : Int) (σ : St) (H : Heap) (locs : List Loc) (ls : Array Slot) , At D cA ad kM 31 R A s σ H locs → lv_has ls 13 [(0, .ref (ad 0)), (1, .int (zI v1)), (2, .int (zI v2)), (3, .int (zI v3)), (4, .int (zI v4))] → K3 v1 v2 v3 v4 σ = some res → W p l e (rmU 3 78) s m args below meth c H locs 0 0 (MQ below (QV D cA ad kM 31 R A res) args s 0 0 A) (F0 m 3 ls [])) {σ : St} {H : Heap} {locs : List Loc} {ls : Array Slot}  (hw : At D cA ad kM 31 R A s σ H locs) (hl : lv_has ls 13 [(0, .ref (ad 0)), (1, .int (zI v1)), (2, .int (zI v2)), (3, .int (zI v3)), (4, .int (zI v4))]) (h : p_X8_fillYear_3b K3 v1 v2 v3 v4 σ = some res) : W p l e (rmU 3 78) s m args below meth c H locs 0 0 (MQ below (QV D cA ad kM 31 R A res) args s 0 0 A) (F0 m 3 ls []) := by
  have h := h
  unfold p_X8_fillYear_3b at h
  refine y_iload C dX8_fillYear_3 (lv_at hl 4 rfl) ?_
  refine y_iconst C dX8_fillYear_5 ?_
  refine y_icmp_ge (tgt := 53) C (a' := zm v4) (b' := 4) rfl (by decide) dX8_fillYear_6 (by decide) (fun hc => ?_) (fun hc => ?_)
  · rw [if_pos hc] at h
    refine y_bipush C dX8_fillYear_53 (by decide) ?_
    refine y_istore (lv' := [(4, .int (zI 11)), (0, .ref (ad 0)), (1, .int (zI v1)), (2, .int (zI v2)), (3, .int (zI v3))]) C dX8_fillYear_55 hl (by decide) rfl (fun ls hl => ?_)
    exact k_X8_fillYear_57 C  FU _ _ _ _ _ _ _ _  hw (lv_sub hl [1, 2, 3, 4, 0] rfl) h
  · rw [if_neg hc] at h
    refine y_aload_n C dX8_fillYear_9 (lv_at hl 0 rfl) ?_
    refine g8 C hw km_0 27 (by decide) wd_898 rfl dX8_fillYear_10 ?_
    refine y_iload_n C dX8_fillYear_13 (lv_at hl 1 rfl) ?_
    refine y_iload_n C dX8_fillYear_14 (lv_at hl 2 rfl) ?_
    refine y_iload_n C dX8_fillYear_15 (lv_at hl 3 rfl) ?_
    refine y_bipush C dX8_fillYear_16 (by decide) ?_
    refine y_iload C dX8_fillYear_18 (lv_at hl 4 rfl) ?_
    obtain ⟨x20, hc20, h⟩ := bd_some h
    refine y_ci (rest := [.ref (ad 17)]) hw (y_rS C hw (c_X8_place  hc20) mi_X8_place wd_1180 wd_1181 rfl ⟨by decide, by decide⟩ hl rfl (Nat.le_of_ble_eq_true rfl) dX8_fillYear_20) (fun H locs hw => ?_)
    refine y_aload_n C dX8_fillYear_23 (lv_at hl 0 rfl) ?_
    refine g8 C hw km_0 26 (by decide) wd_897 rfl dX8_fillYear_24 ?_
    refine y_bipush C dX8_fillYear_27 (by decide) ?_
    refine y_iload_n C dX8_fillYear_29 (lv_at hl 2 rfl) ?_
    refine y_iconst C dX8_fillYear_30 ?_
    refine y_iadd C dX8_fillYear_31 ?_
    refine y_imul C dX8_fillYear_32 ?_
    refine y_aload_n C dX8_fillYear_33 (lv_at hl 0 rfl) ?_
    refine y_aload_n C dX8_fillYear_34 (lv_at hl 0 rfl) ?_
    refine g8 C hw km_0 29 (by decide) wd_900 rfl dX8_fillYear_35 ?_
    refine y_iload_n C dX8_fillYear_38 (lv_at hl 3 rfl) ?_
    refine y_iload C dX8_fillYear_39 (lv_at hl 4 rfl) ?_
    obtain ⟨x41, hc41, h⟩ := bd_some h
    refine y_ci (rest := [.int (zI (10 * (v2 + 1))), .ref (ad 16), .int (zI x20.1), .ref (ad 17)]) hw (y_rV C hw km_0 (by decide) rfl rfl (c_X8_nextOf  hc41) mi_X8_nextOf wd_1113 wd_1115 ws_35 rfl ⟨by decide, by decide⟩ hl rfl (Nat.le_of_ble_eq_true rfl) dX8_fillYear_41) (fun H locs hw => ?_)
    refine y_iadd C dX8_fillYear_44 ?_
    obtain ⟨hg45, h⟩ := gd_some h
    refine y_iald C hw km_16 (i' := zm ((10 * (v2 + 1)) + x41.1)) rfl hg45 dX8_fillYear_45 ?_
    obtain ⟨hg46, h⟩ := gd_some h
    obtain ⟨σ46, eσ46, h⟩ := nx_some h
    refine y_iast C hw km_17 (i' := zm x20.1) rfl hg46 dX8_fillYear_46 (fun H locs hw => ?_)
    rw [← eσ46] at hw
    refine y_iinc (lv' := [(4, .int (zI (v4 + 1))), (0, .ref (ad 0)), (1, .int (zI v1)), (2, .int (zI v2)), (3, .int (zI v3))]) C dX8_fillYear_47 hl (k := 4) rfl (by decide) rfl (fun ls hl => ?_)
    refine y_goto (tgt := 3) C dX8_fillYear_50 (by decide) ?_
    exact hK3 _ _ _ _ _ _ _ _  hw (lv_sub hl [1, 2, 3, 4, 0] rfl) h
set_option maxRecDepth 100000 in
theorem k_X8_fillYear_3  (C : Cx cX8_fillYear RX8 13 none D cA adK adV A p s m args meth c)  : ∀ (n : Nat) (v1 : Int) (v2 : Int) (v3 : Int) (v4 : Int) (σ : St) (H : Heap) (locs : List Loc) (ls : Array Slot) , At D cA ad kM 31 R A s σ H locs → lv_has ls 13 [(0, .ref (ad 0)), (1, .int (zI v1)), (2, .int (zI v2)), (3, .int (zI v3)), (4, .int (zI v4))] → p_X8_fillYear_3  n v1 v2 v3 v4 σ = some res → W p l e (rmU 3 78) s m args below meth c H locs 0 0 (MQ below (QV D cA ad kM 31 R A res) args s 0 0 A) (F0 m 3 ls []) := by
  intro n
  induction n with
  | zero =>
    intro v1 v2 v3 v4 σ H locs ls  hw hl h
    have h : none = some res := h
    cases h
  | succ n ih =>
    intro v1 v2 v3 v4 σ H locs ls  hw hl h
    exact k_X8_fillYear_3b C  ih  hw hl h
set_option maxRecDepth 100000 in
set_option maxHeartbeats 4000000 in
theorem k_X8_fillYear_0  {v1 : Int} {v2 : Int} {v3 : Int} (C : Cx cX8_fillYear RX8 13 none D cA adK adV A p s m args meth c)  {σ : St} {H : Heap} {locs : List Loc} {ls : Array Slot}  (hw : At D cA ad kM 31 R A s σ H locs) (hl : lv_has ls 13 [(0, .ref (ad 0)), (1, .int (zI v1)), (2, .int (zI v2)), (3, .int (zI v3))]) (h : p_X8_fillYear  v1 v2 v3 σ = some res) : W p l e (rmU 3 78) s m args below meth c H locs 0 0 (MQ below (QV D cA ad kM 31 R A res) args s 0 0 A) (F0 m 0 ls []) := by
  have h := h
  unfold p_X8_fillYear at h
  refine y_iconst C dX8_fillYear_0 ?_
  refine y_istore (lv' := [(4, .int (zI 0)), (0, .ref (ad 0)), (1, .int (zI v1)), (2, .int (zI v2)), (3, .int (zI v3))]) C dX8_fillYear_1 hl (by decide) rfl (fun ls hl => ?_)
  exact k_X8_fillYear_3 C  FU _ _ _ _ _ _ _ _  hw (lv_sub hl [1, 2, 3, 4, 0] rfl) h
theorem c_X8_fillYear {l : Launch} {D : va_G} {cA : Nat → ClassId} {adK adV : Nat → Nat} {A : Nat → Prop} {ad : Int → Nat} {R : va_W} {σ : St} {res : Int × St} {v1 : Int} {v2 : Int} {v3 : Int}  (h : p_X8_fillYear v1 v2 v3 σ = some res) : Met l yX8_fillYear (wsU yX8_fillYear cX8_fillYear 13 none) (rmU 3 78) (va_Pc [.ref (ad 0), .int (zI v1), .int (zI v2), .int (zI v3)] (Pr D cA adK adV ad kM 31 R A σ)) (QV D cA ad kM 31 R A res) 0 0 A :=
  y_met (own := RX8) (by decide) rfl _ (Nat.le_of_ble_eq_true rfl) (fun p e s m args below meth c ls C hl hw => k_X8_fillYear_0 C  hw hl h)
/-! RungHouseModel.canPain -/
set_option maxRecDepth 100000 in
set_option maxHeartbeats 4000000 in
theorem k_X8_canPain_0   (C : Cx cX8_canPain RX8 1 (some .boolean) D cA adK adV A p s m args meth c)  {σ : St} {H : Heap} {locs : List Loc} {ls : Array Slot}  (hw : At D cA ad kM 31 R A s σ H locs) (hl : lv_has ls 1 [(0, .ref (ad 0))]) (h : p_X8_canPain   σ = some res) : W p l e (rmU 0 0) s m args below meth c H locs 0 0 (MQ below (QI D cA ad kM 31 R A res) args s 0 0 A) (F0 m 0 ls []) := by
  have h := h
  unfold p_X8_canPain at h
  refine y_aload_n C dX8_canPain_0 (lv_at hl 0 rfl) ?_
  refine g8 C hw km_0 30 (by decide) wd_901 rfl dX8_canPain_1 ?_
  refine y_if_ge (tgt := 23) C (a' := zm (σ 0 30)) rfl dX8_canPain_4 (by decide) (fun hc => ?_) (fun hc => ?_)
  · rw [if_pos hc] at h
    refine y_iconst C dX8_canPain_23 ?_
    exact y_zret C hw (by decide) h dX8_canPain_24
  · rw [if_neg hc] at h
    refine y_aload_n C dX8_canPain_7 (lv_at hl 0 rfl) ?_
    refine g8 C hw km_0 11 (by decide) wd_882 rfl dX8_canPain_8 ?_
    refine y_aload_n C dX8_canPain_11 (lv_at hl 0 rfl) ?_
    refine g8 C hw km_0 28 (by decide) wd_899 rfl dX8_canPain_12 ?_
    obtain ⟨hg15, h⟩ := gd_some h
    refine y_iald C hw km_11 (i' := zm (σ 0 28)) rfl hg15 dX8_canPain_15 ?_
    refine y_if_lt (tgt := 23) C (a' := zm (σ 11 (zm (σ 0 28)))) rfl dX8_canPain_16 (by decide) (fun hc => ?_) (fun hc => ?_)
    · rw [if_pos hc] at h
      refine y_iconst C dX8_canPain_23 ?_
      exact y_zret C hw (by decide) h dX8_canPain_24
    · rw [if_neg hc] at h
      refine y_iconst C dX8_canPain_19 ?_
      refine y_goto (tgt := 24) C dX8_canPain_20 (by decide) ?_
      exact y_zret C hw (by decide) h dX8_canPain_24
theorem c_X8_canPain {l : Launch} {D : va_G} {cA : Nat → ClassId} {adK adV : Nat → Nat} {A : Nat → Prop} {ad : Int → Nat} {R : va_W} {σ : St} {res : Int × St}   (h : p_X8_canPain  σ = some res) : Met l yX8_canPain (wsU yX8_canPain cX8_canPain 1 (some .boolean)) (rmU 0 0) (va_Pc [.ref (ad 0)] (Pr D cA adK adV ad kM 31 R A σ)) (QI D cA ad kM 31 R A res) 0 0 A :=
  y_met (own := RX8) (by decide) rfl _ (Nat.le_of_ble_eq_true rfl) (fun p e s m args below meth c ls C hl hw => k_X8_canPain_0 C  hw hl h)
/-! RungHouseModel.painsAt -/
set_option maxRecDepth 100000 in
set_option maxHeartbeats 4000000 in
theorem k_X8_painsAt_0  {v1 : Int} {v2 : Int} (C : Cx cX8_painsAt RX8 3 (some .int) D cA adK adV A p s m args meth c)  {σ : St} {H : Heap} {locs : List Loc} {ls : Array Slot}  (hw : At D cA ad kM 31 R A s σ H locs) (hl : lv_has ls 3 [(0, .ref (ad 0)), (1, .int (zI v1)), (2, .int (zI v2))]) (h : p_X8_painsAt  v1 v2 σ = some res) : W p l e (rmU 1 24) s m args below meth c H locs 0 0 (MQ below (QI D cA ad kM 31 R A res) args s 0 0 A) (F0 m 0 ls []) := by
  have h := h
  unfold p_X8_painsAt at h
  refine y_sipush C dX8_painsAt_0 (by decide) ?_
  refine y_aload_n C dX8_painsAt_3 (lv_at hl 0 rfl) ?_
  refine g8 C hw km_0 1 (by decide) wd_872 rfl dX8_painsAt_4 ?_
  refine y_bipush C dX8_painsAt_7 (by decide) ?_
  refine y_aload_n C dX8_painsAt_9 (lv_at hl 0 rfl) ?_
  refine g8 C hw km_0 29 (by decide) wd_900 rfl dX8_painsAt_10 ?_
  refine y_imul C dX8_painsAt_13 ?_
  refine y_iload_n C dX8_painsAt_14 (lv_at hl 2 rfl) ?_
  refine y_iadd C dX8_painsAt_15 ?_
  obtain ⟨hg16, h⟩ := gd_some h
  refine y_iald C hw km_2 (i' := zm ((10 * (σ 0 29)) + v2)) rfl hg16 dX8_painsAt_16 ?_
  refine y_imul C dX8_painsAt_17 ?_
  refine y_sipush C dX8_painsAt_18 (by decide) ?_
  refine y_aload_n C dX8_painsAt_21 (lv_at hl 0 rfl) ?_
  refine g8 C hw km_0 11 (by decide) wd_882 rfl dX8_painsAt_22 ?_
  refine y_aload_n C dX8_painsAt_25 (lv_at hl 0 rfl) ?_
  refine g8 C hw km_0 28 (by decide) wd_899 rfl dX8_painsAt_26 ?_
  obtain ⟨hg29, h⟩ := gd_some h
  refine y_iald C hw km_11 (i' := zm (σ 0 28)) rfl hg29 dX8_painsAt_29 ?_
  refine y_imul C dX8_painsAt_30 ?_
  refine y_iadd C dX8_painsAt_31 ?_
  refine y_aload_n C dX8_painsAt_32 (lv_at hl 0 rfl) ?_
  refine g8 C hw km_0 27 (by decide) wd_898 rfl dX8_painsAt_33 ?_
  refine y_iconst C dX8_painsAt_36 ?_
  refine y_iload_n C dX8_painsAt_37 (lv_at hl 1 rfl) ?_
  refine y_iload_n C dX8_painsAt_38 (lv_at hl 2 rfl) ?_
  refine y_iconst C dX8_painsAt_39 ?_
  refine y_iconst C dX8_painsAt_40 ?_
  obtain ⟨x41, hc41, h⟩ := bd_some h
  refine y_ci (rest := [.ref (ad 17), .int (zI ((1000 * (σ 2 (zm ((10 * (σ 0 29)) + v2)))) + (1000 * (σ 11 (zm (σ 0 28))))))]) hw (y_rS C hw (c_X8_place  hc41) mi_X8_place wd_1180 wd_1181 rfl ⟨by decide, by decide⟩ hl rfl (Nat.le_of_ble_eq_true rfl) dX8_painsAt_41) (fun H locs hw => ?_)
  obtain ⟨hg44, h⟩ := gd_some h
  refine y_iald C hw km_17 (i' := zm x41.1) rfl hg44 dX8_painsAt_44 ?_
  refine y_iadd C dX8_painsAt_45 ?_
  exact y_iret C hw h dX8_painsAt_46
theorem c_X8_painsAt {l : Launch} {D : va_G} {cA : Nat → ClassId} {adK adV : Nat → Nat} {A : Nat → Prop} {ad : Int → Nat} {R : va_W} {σ : St} {res : Int × St} {v1 : Int} {v2 : Int}  (h : p_X8_painsAt v1 v2 σ = some res) : Met l yX8_painsAt (wsU yX8_painsAt cX8_painsAt 3 (some .int)) (rmU 1 24) (va_Pc [.ref (ad 0), .int (zI v1), .int (zI v2)] (Pr D cA adK adV ad kM 31 R A σ)) (QI D cA ad kM 31 R A res) 0 0 A :=
  y_met (own := RX8) (by decide) rfl _ (Nat.le_of_ble_eq_true rfl) (fun p e s m args below meth c ls C hl hw => k_X8_painsAt_0 C  hw hl h)
/-! RungHouseModel.plainAt -/
set_option maxRecDepth 100000 in
set_option maxHeartbeats 4000000 in
theorem k_X8_plainAt_0  {v1 : Int} {v2 : Int} (C : Cx cX8_plainAt RX8 3 (some .int) D cA adK adV A p s m args meth c)  {σ : St} {H : Heap} {locs : List Loc} {ls : Array Slot}  (hw : At D cA ad kM 31 R A s σ H locs) (hl : lv_has ls 3 [(0, .ref (ad 0)), (1, .int (zI v1)), (2, .int (zI v2))]) (h : p_X8_plainAt  v1 v2 σ = some res) : W p l e (rmU 1 24) s m args below meth c H locs 0 0 (MQ below (QI D cA ad kM 31 R A res) args s 0 0 A) (F0 m 0 ls []) := by
  have h := h
  unfold p_X8_plainAt at h
  refine y_sipush C dX8_plainAt_0 (by decide) ?_
  refine y_aload_n C dX8_plainAt_3 (lv_at hl 0 rfl) ?_
  refine g8 C hw km_0 1 (by decide) wd_872 rfl dX8_plainAt_4 ?_
  refine y_bipush C dX8_plainAt_7 (by decide) ?_
  refine y_aload_n C dX8_plainAt_9 (lv_at hl 0 rfl) ?_
  refine g8 C hw km_0 29 (by decide) wd_900 rfl dX8_plainAt_10 ?_
  refine y_imul C dX8_plainAt_13 ?_
  refine y_iload_n C dX8_plainAt_14 (lv_at hl 2 rfl) ?_
  refine y_iadd C dX8_plainAt_15 ?_
  obtain ⟨hg16, h⟩ := gd_some h
  refine y_iald C hw km_2 (i' := zm ((10 * (σ 0 29)) + v2)) rfl hg16 dX8_plainAt_16 ?_
  refine y_imul C dX8_plainAt_17 ?_
  refine y_aload_n C dX8_plainAt_18 (lv_at hl 0 rfl) ?_
  refine g8 C hw km_0 27 (by decide) wd_898 rfl dX8_plainAt_19 ?_
  refine y_iconst C dX8_plainAt_22 ?_
  refine y_iload_n C dX8_plainAt_23 (lv_at hl 1 rfl) ?_
  refine y_iload_n C dX8_plainAt_24 (lv_at hl 2 rfl) ?_
  refine y_iconst C dX8_plainAt_25 ?_
  refine y_iconst C dX8_plainAt_26 ?_
  obtain ⟨x27, hc27, h⟩ := bd_some h
  refine y_ci (rest := [.ref (ad 17), .int (zI (1000 * (σ 2 (zm ((10 * (σ 0 29)) + v2)))))]) hw (y_rS C hw (c_X8_place  hc27) mi_X8_place wd_1180 wd_1181 rfl ⟨by decide, by decide⟩ hl rfl (Nat.le_of_ble_eq_true rfl) dX8_plainAt_27) (fun H locs hw => ?_)
  obtain ⟨hg30, h⟩ := gd_some h
  refine y_iald C hw km_17 (i' := zm x27.1) rfl hg30 dX8_plainAt_30 ?_
  refine y_iadd C dX8_plainAt_31 ?_
  exact y_iret C hw h dX8_plainAt_32
theorem c_X8_plainAt {l : Launch} {D : va_G} {cA : Nat → ClassId} {adK adV : Nat → Nat} {A : Nat → Prop} {ad : Int → Nat} {R : va_W} {σ : St} {res : Int × St} {v1 : Int} {v2 : Int}  (h : p_X8_plainAt v1 v2 σ = some res) : Met l yX8_plainAt (wsU yX8_plainAt cX8_plainAt 3 (some .int)) (rmU 1 24) (va_Pc [.ref (ad 0), .int (zI v1), .int (zI v2)] (Pr D cA adK adV ad kM 31 R A σ)) (QI D cA ad kM 31 R A res) 0 0 A :=
  y_met (own := RX8) (by decide) rfl _ (Nat.le_of_ble_eq_true rfl) (fun p e s m args below meth c ls C hl hw => k_X8_plainAt_0 C  hw hl h)
/-! RungHouseModel.isPained -/
set_option maxRecDepth 100000 in
set_option maxHeartbeats 4000000 in
theorem k_X8_isPained_0  {v1 : Int} {v2 : Int} (C : Cx cX8_isPained RX8 3 (some .boolean) D cA adK adV A p s m args meth c)  {σ : St} {H : Heap} {locs : List Loc} {ls : Array Slot}  (hw : At D cA ad kM 31 R A s σ H locs) (hl : lv_has ls 3 [(0, .ref (ad 0)), (1, .int (zI v1)), (2, .int (zI v2))]) (h : p_X8_isPained  v1 v2 σ = some res) : W p l e (rmU 2 46) s m args below meth c H locs 0 0 (MQ below (QI D cA ad kM 31 R A res) args s 0 0 A) (F0 m 0 ls []) := by
  have h := h
  unfold p_X8_isPained at h
  refine y_aload_n C dX8_isPained_0 (lv_at hl 0 rfl) ?_
  obtain ⟨x1, hc1, h⟩ := bd_some h
  refine y_ci (rest := []) hw (y_rV C hw km_0 (by decide) rfl rfl (c_X8_canPain  hc1) mi_X8_canPain wd_1200 wd_1202 ws_50 rfl ⟨by decide, by decide⟩ hl rfl (Nat.le_of_ble_eq_true rfl) dX8_isPained_1) (fun H locs hw => ?_)
  refine y_if_eq (tgt := 26) C (a' := zm x1.1) rfl dX8_isPained_4 (by decide) (fun hc => ?_) (fun hc => ?_)
  · rw [if_pos hc] at h
    refine y_iconst C dX8_isPained_26 ?_
    exact y_zret C hw (by decide) h dX8_isPained_27
  · rw [if_neg hc] at h
    refine y_aload_n C dX8_isPained_7 (lv_at hl 0 rfl) ?_
    refine y_iload_n C dX8_isPained_8 (lv_at hl 1 rfl) ?_
    refine y_iload_n C dX8_isPained_9 (lv_at hl 2 rfl) ?_
    obtain ⟨x10, hc10, h⟩ := bd_some h
    refine y_ci (rest := []) hw (y_rV C hw km_0 (by decide) rfl rfl (c_X8_painsAt  hc10) mi_X8_painsAt wd_1208 wd_1210 ws_52 rfl ⟨by decide, by decide⟩ hl rfl (Nat.le_of_ble_eq_true rfl) dX8_isPained_10) (fun H locs hw => ?_)
    refine y_aload_n C dX8_isPained_13 (lv_at hl 0 rfl) ?_
    refine y_iload_n C dX8_isPained_14 (lv_at hl 1 rfl) ?_
    refine y_iload_n C dX8_isPained_15 (lv_at hl 2 rfl) ?_
    obtain ⟨x16, hc16, h⟩ := bd_some h
    refine y_ci (rest := [.int (zI x10.1)]) hw (y_rV C hw km_0 (by decide) rfl rfl (c_X8_plainAt  hc16) mi_X8_plainAt wd_1212 wd_1214 ws_53 rfl ⟨by decide, by decide⟩ hl rfl (Nat.le_of_ble_eq_true rfl) dX8_isPained_16) (fun H locs hw => ?_)
    refine y_icmp_ge (tgt := 26) C (a' := zm x10.1) (b' := zm x16.1) rfl rfl dX8_isPained_19 (by decide) (fun hc => ?_) (fun hc => ?_)
    · rw [if_pos hc] at h
      refine y_iconst C dX8_isPained_26 ?_
      exact y_zret C hw (by decide) h dX8_isPained_27
    · rw [if_neg hc] at h
      refine y_iconst C dX8_isPained_22 ?_
      refine y_goto (tgt := 27) C dX8_isPained_23 (by decide) ?_
      exact y_zret C hw (by decide) h dX8_isPained_27
theorem c_X8_isPained {l : Launch} {D : va_G} {cA : Nat → ClassId} {adK adV : Nat → Nat} {A : Nat → Prop} {ad : Int → Nat} {R : va_W} {σ : St} {res : Int × St} {v1 : Int} {v2 : Int}  (h : p_X8_isPained v1 v2 σ = some res) : Met l yX8_isPained (wsU yX8_isPained cX8_isPained 3 (some .boolean)) (rmU 2 46) (va_Pc [.ref (ad 0), .int (zI v1), .int (zI v2)] (Pr D cA adK adV ad kM 31 R A σ)) (QI D cA ad kM 31 R A res) 0 0 A :=
  y_met (own := RX8) (by decide) rfl _ (Nat.le_of_ble_eq_true rfl) (fun p e s m args below meth c ls C hl hw => k_X8_isPained_0 C  hw hl h)
/-! RungHouseModel.work -/
set_option maxRecDepth 100000 in
set_option maxHeartbeats 4000000 in
theorem k_X8_work_202 {K116 : Int → Int → St → Option (Int × St)} {K124 : Int → Int → Int → St → Option (Int × St)} {v2 : Int} {v5 : Int} {v6 : Int} {os0 : Int} {vs1 : Int} {vs2 : Int} (C : Cx cX8_work RX8 7 none D cA adK adV A p s m args meth c) (hK116 : ∀ (v2 : Int) (v5 : Int) (σ : St) (H : Heap) (locs : List Loc) (ls : Array Slot) , At D cA ad kM 31 R A s σ H locs → lv_has ls 7 [(0, .ref (ad 0)), (2, .int (zI v2)), (5, .int (zI v5))] → K116 v2 v5 σ = some res → W p l e (rmU 4 110) s m args below meth c H locs 0 0 (MQ below (QV D cA ad kM 31 R A res) args s 0 0 A) (F0 m 116 ls [])) (hK124 : ∀ (v2 : Int) (v5 : Int) (v6 : Int) (σ : St) (H : Heap) (locs : List Loc) (ls : Array Slot) , At D cA ad kM 31 R A s σ H locs → lv_has ls 7 [(0, .ref (ad 0)), (2, .int (zI v2)), (5, .int (zI v5)), (6, .int (zI v6))] → K124 v2 v5 v6 σ = some res → W p l e (rmU 4 110) s m args below meth c H locs 0 0 (MQ below (QV D cA ad kM 31 R A res) args s 0 0 A) (F0 m 124 ls [])) {σ : St} {H : Heap} {locs : List Loc} {ls : Array Slot} (hos0 : kM os0 = (20, 310)) (hw : At D cA ad kM 31 R A s σ H locs) (hl : lv_has ls 7 [(0, .ref (ad 0)), (2, .int (zI v2)), (5, .int (zI v5)), (6, .int (zI v6))]) (h : p_X8_work_202 K116 K124 v2 v5 v6 os0 vs1 vs2 σ = some res) : W p l e (rmU 4 110) s m args below meth c H locs 0 0 (MQ below (QV D cA ad kM 31 R A res) args s 0 0 A) (F0 m 202 ls [.int (zI vs2), .int (zI vs1), .ref (ad os0)]) := by
  have h := h
  unfold p_X8_work_202 at h
  obtain ⟨hg202, h⟩ := gd_some h
  obtain ⟨σ202, eσ202, h⟩ := nx_some h
  refine y_iast C hw hos0 (i' := zm vs1) rfl hg202 dX8_work_202 (fun H locs hw => ?_)
  rw [← eσ202] at hw
  refine y_iinc (lv' := [(6, .int (zI (v6 + 1))), (0, .ref (ad 0)), (2, .int (zI v2)), (5, .int (zI v5))]) C dX8_work_203 hl (k := 3) rfl (by decide) rfl (fun ls hl => ?_)
  refine y_goto (tgt := 124) C dX8_work_206 (by decide) ?_
  exact hK124 _ _ _ _ _ _ _  hw (lv_sub hl [1, 2, 3, 0] rfl) h
set_option maxRecDepth 100000 in
set_option maxHeartbeats 4000000 in
theorem k_X8_work_160 {K116 : Int → Int → St → Option (Int × St)} {K124 : Int → Int → Int → St → Option (Int × St)} {v2 : Int} {v5 : Int} {v6 : Int} (C : Cx cX8_work RX8 7 none D cA adK adV A p s m args meth c) (hK116 : ∀ (v2 : Int) (v5 : Int) (σ : St) (H : Heap) (locs : List Loc) (ls : Array Slot) , At D cA ad kM 31 R A s σ H locs → lv_has ls 7 [(0, .ref (ad 0)), (2, .int (zI v2)), (5, .int (zI v5))] → K116 v2 v5 σ = some res → W p l e (rmU 4 110) s m args below meth c H locs 0 0 (MQ below (QV D cA ad kM 31 R A res) args s 0 0 A) (F0 m 116 ls [])) (hK124 : ∀ (v2 : Int) (v5 : Int) (v6 : Int) (σ : St) (H : Heap) (locs : List Loc) (ls : Array Slot) , At D cA ad kM 31 R A s σ H locs → lv_has ls 7 [(0, .ref (ad 0)), (2, .int (zI v2)), (5, .int (zI v5)), (6, .int (zI v6))] → K124 v2 v5 v6 σ = some res → W p l e (rmU 4 110) s m args below meth c H locs 0 0 (MQ below (QV D cA ad kM 31 R A res) args s 0 0 A) (F0 m 124 ls [])) {σ : St} {H : Heap} {locs : List Loc} {ls : Array Slot}  (hw : At D cA ad kM 31 R A s σ H locs) (hl : lv_has ls 7 [(0, .ref (ad 0)), (2, .int (zI v2)), (5, .int (zI v5)), (6, .int (zI v6))]) (h : p_X8_work_160 K116 K124 v2 v5 v6 σ = some res) : W p l e (rmU 4 110) s m args below meth c H locs 0 0 (MQ below (QV D cA ad kM 31 R A res) args s 0 0 A) (F0 m 160 ls []) := by
  have h := h
  unfold p_X8_work_160 at h
  refine y_aload_n C dX8_work_160 (lv_at hl 0 rfl) ?_
  refine g8 C hw km_0 26 (by decide) wd_897 rfl dX8_work_161 ?_
  refine y_bipush C dX8_work_164 (by decide) ?_
  refine y_iload C dX8_work_166 (lv_at hl 2 rfl) ?_
  refine y_imul C dX8_work_168 ?_
  refine y_iload C dX8_work_169 (lv_at hl 3 rfl) ?_
  refine y_iadd C dX8_work_171 ?_
  refine y_aload_n C dX8_work_172 (lv_at hl 0 rfl) ?_
  refine y_iload C dX8_work_173 (lv_at hl 2 rfl) ?_
  refine y_iload C dX8_work_175 (lv_at hl 3 rfl) ?_
  obtain ⟨x177, hc177, h⟩ := bd_some h
  refine y_ci (rest := [.int (zI ((10 * v5) + v6)), .ref (ad 16)]) hw (y_rV C hw km_0 (by decide) rfl rfl (c_X8_isPained  hc177) mi_X8_isPained wd_1204 wd_1206 ws_51 rfl ⟨by decide, by decide⟩ hl rfl (Nat.le_of_ble_eq_true rfl) dX8_work_177) (fun H locs hw => ?_)
  refine y_if_eq (tgt := 194) C (a' := zm x177.1) rfl dX8_work_180 (by decide) (fun hc => ?_) (fun hc => ?_)
  · rw [if_pos hc] at h
    refine y_aload_n C dX8_work_194 (lv_at hl 0 rfl) ?_
    refine y_iload C dX8_work_195 (lv_at hl 2 rfl) ?_
    refine y_iload C dX8_work_197 (lv_at hl 3 rfl) ?_
    obtain ⟨x199, hc199, h⟩ := bd_some h
    refine y_ci (rest := [.int (zI ((10 * v5) + v6)), .ref (ad 16)]) hw (y_rV C hw km_0 (by decide) rfl rfl (c_X8_plainAt  hc199) mi_X8_plainAt wd_1212 wd_1214 ws_53 rfl ⟨by decide, by decide⟩ hl rfl (Nat.le_of_ble_eq_true rfl) dX8_work_199) (fun H locs hw => ?_)
    exact k_X8_work_202 C hK116 hK124 km_16 hw hl h
  · rw [if_neg hc] at h
    refine y_aload_n C dX8_work_183 (lv_at hl 0 rfl) ?_
    refine y_iload C dX8_work_184 (lv_at hl 2 rfl) ?_
    refine y_iload C dX8_work_186 (lv_at hl 3 rfl) ?_
    obtain ⟨x188, hc188, h⟩ := bd_some h
    refine y_ci (rest := [.int (zI ((10 * v5) + v6)), .ref (ad 16)]) hw (y_rV C hw km_0 (by decide) rfl rfl (c_X8_painsAt  hc188) mi_X8_painsAt wd_1208 wd_1210 ws_52 rfl ⟨by decide, by decide⟩ hl rfl (Nat.le_of_ble_eq_true rfl) dX8_work_188) (fun H locs hw => ?_)
    refine y_goto (tgt := 202) C dX8_work_191 (by decide) ?_
    exact k_X8_work_202 C hK116 hK124 km_16 hw hl h
set_option maxRecDepth 100000 in
set_option maxHeartbeats 4000000 in
theorem k_X8_work_124b {K116 : Int → Int → St → Option (Int × St)} {K124 : Int → Int → Int → St → Option (Int × St)} {v2 : Int} {v5 : Int} {v6 : Int} (C : Cx cX8_work RX8 7 none D cA adK adV A p s m args meth c) (hK116 : ∀ (v2 : Int) (v5 : Int) (σ : St) (H : Heap) (locs : List Loc) (ls : Array Slot) , At D cA ad kM 31 R A s σ H locs → lv_has ls 7 [(0, .ref (ad 0)), (2, .int (zI v2)), (5, .int (zI v5))] → K116 v2 v5 σ = some res → W p l e (rmU 4 110) s m args below meth c H locs 0 0 (MQ below (QV D cA ad kM 31 R A res) args s 0 0 A) (F0 m 116 ls [])) (hK124 : ∀ (v2 : Int) (v5 : Int) (v6 : Int) (σ : St) (H : Heap) (locs : List Loc) (ls : Array Slot) , At D cA ad kM 31 R A s σ H locs → lv_has ls 7 [(0, .ref (ad 0)), (2, .int (zI v2)), (5, .int (zI v5)), (6, .int (zI v6))] → K124 v2 v5 v6 σ = some res → W p l e (rmU 4 110) s m args below meth c H locs 0 0 (MQ below (QV D cA ad kM 31 R A res) args s 0 0 A) (F0 m 124 ls [])) {σ : St} {H : Heap} {locs : List Loc} {ls : Array Slot}  (hw : At D cA ad kM 31 R A s σ H locs) (hl : lv_has ls 7 [(0, .ref (ad 0)), (2, .int (zI v2)), (5, .int (zI v5)), (6, .int (zI v6))]) (h : p_X8_work_124b K116 K124 v2 v5 v6 σ = some res) : W p l e (rmU 4 110) s m args below meth c H locs 0 0 (MQ below (QV D cA ad kM 31 R A res) args s 0 0 A) (F0 m 124 ls []) := by
  have h := h
  unfold p_X8_work_124b at h
  refine y_iload C dX8_work_124 (lv_at hl 3 rfl) ?_
  refine y_aload_n C dX8_work_126 (lv_at hl 0 rfl) ?_
  refine g8 C hw km_0 0 (by decide) wd_871 rfl dX8_work_127 ?_
  refine y_iload_n C dX8_work_130 (lv_at hl 1 rfl) ?_
  obtain ⟨hg131, h⟩ := gd_some h
  refine y_iald C hw km_1 (i' := zm v2) rfl hg131 dX8_work_131 ?_
  refine y_icmp_ge (tgt := 209) C (a' := zm v6) (b' := zm (σ 1 (zm v2))) rfl rfl dX8_work_132 (by decide) (fun hc => ?_) (fun hc => ?_)
  · rw [if_pos hc] at h
    refine y_iinc (lv' := [(5, .int (zI (v5 + (-1)))), (0, .ref (ad 0)), (2, .int (zI v2)), (6, .int (zI v6))]) C dX8_work_209 hl (k := 2) rfl (by decide) rfl (fun ls hl => ?_)
    refine y_goto (tgt := 116) C dX8_work_212 (by decide) ?_
    exact hK116 _ _ _ _ _ _  hw (lv_sub hl [1, 2, 0] rfl) h
  · rw [if_neg hc] at h
    refine y_aload_n C dX8_work_135 (lv_at hl 0 rfl) ?_
    refine y_iconst C dX8_work_136 ?_
    refine y_iload C dX8_work_137 (lv_at hl 2 rfl) ?_
    refine y_iload C dX8_work_139 (lv_at hl 3 rfl) ?_
    obtain ⟨x141, hc141, h⟩ := bd_some h
    refine y_cv (rest := []) hw (y_rV C hw km_0 (by decide) rfl rfl (c_X8_fillYear  hc141) mi_X8_fillYear wd_1176 wd_1178 ws_45 rfl ⟨by decide, by decide⟩ hl rfl (Nat.le_of_ble_eq_true rfl) dX8_work_141) (fun H locs hw => ?_)
    refine y_aload_n C dX8_work_144 (lv_at hl 0 rfl) ?_
    obtain ⟨x145, hc145, h⟩ := bd_some h
    refine y_ci (rest := []) hw (y_rV C hw km_0 (by decide) rfl rfl (c_X8_canPain  hc145) mi_X8_canPain wd_1200 wd_1202 ws_50 rfl ⟨by decide, by decide⟩ hl rfl (Nat.le_of_ble_eq_true rfl) dX8_work_145) (fun H locs hw => ?_)
    refine y_if_eq (tgt := 160) C (a' := zm x145.1) rfl dX8_work_148 (by decide) (fun hc => ?_) (fun hc => ?_)
    · rw [if_pos hc] at h
      exact k_X8_work_160 C hK116 hK124  hw hl h
    · rw [if_neg hc] at h
      refine y_aload_n C dX8_work_151 (lv_at hl 0 rfl) ?_
      refine y_iconst C dX8_work_152 ?_
      refine y_iload C dX8_work_153 (lv_at hl 2 rfl) ?_
      refine y_iload C dX8_work_155 (lv_at hl 3 rfl) ?_
      obtain ⟨x157, hc157, h⟩ := bd_some h
      refine y_cv (rest := []) hw (y_rV C hw km_0 (by decide) rfl rfl (c_X8_fillYear  hc157) mi_X8_fillYear wd_1176 wd_1178 ws_45 rfl ⟨by decide, by decide⟩ hl rfl (Nat.le_of_ble_eq_true rfl) dX8_work_157) (fun H locs hw => ?_)
      exact k_X8_work_160 C hK116 hK124  hw hl h
set_option maxRecDepth 100000 in
theorem k_X8_work_124 {K116 : Int → Int → St → Option (Int × St)} (C : Cx cX8_work RX8 7 none D cA adK adV A p s m args meth c) (hK116 : ∀ (v2 : Int) (v5 : Int) (σ : St) (H : Heap) (locs : List Loc) (ls : Array Slot) , At D cA ad kM 31 R A s σ H locs → lv_has ls 7 [(0, .ref (ad 0)), (2, .int (zI v2)), (5, .int (zI v5))] → K116 v2 v5 σ = some res → W p l e (rmU 4 110) s m args below meth c H locs 0 0 (MQ below (QV D cA ad kM 31 R A res) args s 0 0 A) (F0 m 116 ls [])) : ∀ (n : Nat) (v2 : Int) (v5 : Int) (v6 : Int) (σ : St) (H : Heap) (locs : List Loc) (ls : Array Slot) , At D cA ad kM 31 R A s σ H locs → lv_has ls 7 [(0, .ref (ad 0)), (2, .int (zI v2)), (5, .int (zI v5)), (6, .int (zI v6))] → p_X8_work_124 K116 n v2 v5 v6 σ = some res → W p l e (rmU 4 110) s m args below meth c H locs 0 0 (MQ below (QV D cA ad kM 31 R A res) args s 0 0 A) (F0 m 124 ls []) := by
  intro n
  induction n with
  | zero =>
    intro v2 v5 v6 σ H locs ls  hw hl h
    have h : none = some res := h
    cases h
  | succ n ih =>
    intro v2 v5 v6 σ H locs ls  hw hl h
    exact k_X8_work_124b C hK116 ih  hw hl h
set_option maxRecDepth 100000 in
set_option maxHeartbeats 4000000 in
theorem k_X8_work_116b {K116 : Int → Int → St → Option (Int × St)} {v2 : Int} {v5 : Int} (C : Cx cX8_work RX8 7 none D cA adK adV A p s m args meth c)  (hK116 : ∀ (v2 : Int) (v5 : Int) (σ : St) (H : Heap) (locs : List Loc) (ls : Array Slot) , At D cA ad kM 31 R A s σ H locs → lv_has ls 7 [(0, .ref (ad 0)), (2, .int (zI v2)), (5, .int (zI v5))] → K116 v2 v5 σ = some res → W p l e (rmU 4 110) s m args below meth c H locs 0 0 (MQ below (QV D cA ad kM 31 R A res) args s 0 0 A) (F0 m 116 ls [])) {σ : St} {H : Heap} {locs : List Loc} {ls : Array Slot}  (hw : At D cA ad kM 31 R A s σ H locs) (hl : lv_has ls 7 [(0, .ref (ad 0)), (2, .int (zI v2)), (5, .int (zI v5))]) (h : p_X8_work_116b K116 v2 v5 σ = some res) : W p l e (rmU 4 110) s m args below meth c H locs 0 0 (MQ below (QV D cA ad kM 31 R A res) args s 0 0 A) (F0 m 116 ls []) := by
  have h := h
  unfold p_X8_work_116b at h
  refine y_iload C dX8_work_116 (lv_at hl 2 rfl) ?_
  refine y_if_lt (tgt := 215) C (a' := zm v5) rfl dX8_work_118 (by decide) (fun hc => ?_) (fun hc => ?_)
  · rw [if_pos hc] at h
    exact y_vret C hw h dX8_work_215
  · rw [if_neg hc] at h
    refine y_iconst C dX8_work_121 ?_
    refine y_istore (lv' := [(6, .int (zI 0)), (0, .ref (ad 0)), (2, .int (zI v2)), (5, .int (zI v5))]) C dX8_work_122 hl (by decide) rfl (fun ls hl => ?_)
    exact k_X8_work_124 C hK116 FU _ _ _ _ _ _ _  hw (lv_sub hl [1, 2, 3, 0] rfl) h
set_option maxRecDepth 100000 in
theorem k_X8_work_116  (C : Cx cX8_work RX8 7 none D cA adK adV A p s m args meth c)  : ∀ (n : Nat) (v2 : Int) (v5 : Int) (σ : St) (H : Heap) (locs : List Loc) (ls : Array Slot) , At D cA ad kM 31 R A s σ H locs → lv_has ls 7 [(0, .ref (ad 0)), (2, .int (zI v2)), (5, .int (zI v5))] → p_X8_work_116  n v2 v5 σ = some res → W p l e (rmU 4 110) s m args below meth c H locs 0 0 (MQ below (QV D cA ad kM 31 R A res) args s 0 0 A) (F0 m 116 ls []) := by
  intro n
  induction n with
  | zero =>
    intro v2 v5 σ H locs ls  hw hl h
    have h : none = some res := h
    cases h
  | succ n ih =>
    intro v2 v5 σ H locs ls  hw hl h
    exact k_X8_work_116b C  ih  hw hl h
set_option maxRecDepth 100000 in
set_option maxHeartbeats 4000000 in
theorem k_X8_work_79b {K79 : Int → Int → Int → St → Option (Int × St)} {v2 : Int} {v4 : Int} {v5 : Int} (C : Cx cX8_work RX8 7 none D cA adK adV A p s m args meth c)  (hK79 : ∀ (v2 : Int) (v4 : Int) (v5 : Int) (σ : St) (H : Heap) (locs : List Loc) (ls : Array Slot) , At D cA ad kM 31 R A s σ H locs → lv_has ls 7 [(0, .ref (ad 0)), (2, .int (zI v2)), (4, .int (zI v4)), (5, .int (zI v5))] → K79 v2 v4 v5 σ = some res → W p l e (rmU 4 110) s m args below meth c H locs 0 0 (MQ below (QV D cA ad kM 31 R A res) args s 0 0 A) (F0 m 79 ls [])) {σ : St} {H : Heap} {locs : List Loc} {ls : Array Slot}  (hw : At D cA ad kM 31 R A s σ H locs) (hl : lv_has ls 7 [(0, .ref (ad 0)), (2, .int (zI v2)), (4, .int (zI v4)), (5, .int (zI v5))]) (h : p_X8_work_79b K79 v2 v4 v5 σ = some res) : W p l e (rmU 4 110) s m args below meth c H locs 0 0 (MQ below (QV D cA ad kM 31 R A res) args s 0 0 A) (F0 m 79 ls []) := by
  have h := h
  unfold p_X8_work_79b at h
  refine y_iload C dX8_work_79 (lv_at hl 3 rfl) ?_
  refine y_aload_n C dX8_work_81 (lv_at hl 0 rfl) ?_
  refine g8 C hw km_0 0 (by decide) wd_871 rfl dX8_work_82 ?_
  refine y_iload_n C dX8_work_85 (lv_at hl 1 rfl) ?_
  obtain ⟨hg86, h⟩ := gd_some h
  refine y_iald C hw km_1 (i' := zm v2) rfl hg86 dX8_work_86 ?_
  refine y_icmp_ge (tgt := 110) C (a' := zm v5) (b' := zm (σ 1 (zm v2))) rfl rfl dX8_work_87 (by decide) (fun hc => ?_) (fun hc => ?_)
  · rw [if_pos hc] at h
    refine y_iload C dX8_work_110 (lv_at hl 2 rfl) ?_
    refine y_iconst C dX8_work_112 ?_
    refine y_isub C dX8_work_113 ?_
    refine y_istore (lv' := [(5, .int (zI (v4 - 1))), (0, .ref (ad 0)), (2, .int (zI v2)), (4, .int (zI v4))]) C dX8_work_114 hl (by decide) rfl (fun ls hl => ?_)
    exact k_X8_work_116 C  FU _ _ _ _ _ _  hw (lv_sub hl [1, 2, 0] rfl) h
  · rw [if_neg hc] at h
    refine y_aload_n C dX8_work_90 (lv_at hl 0 rfl) ?_
    refine g8 C hw km_0 26 (by decide) wd_897 rfl dX8_work_91 ?_
    refine y_bipush C dX8_work_94 (by decide) ?_
    refine y_iload C dX8_work_96 (lv_at hl 2 rfl) ?_
    refine y_imul C dX8_work_98 ?_
    refine y_iload C dX8_work_99 (lv_at hl 3 rfl) ?_
    refine y_iadd C dX8_work_101 ?_
    refine y_iconst C dX8_work_102 ?_
    obtain ⟨hg103, h⟩ := gd_some h
    obtain ⟨σ103, eσ103, h⟩ := nx_some h
    refine y_iast C hw km_16 (i' := zm ((10 * v4) + v5)) rfl hg103 dX8_work_103 (fun H locs hw => ?_)
    rw [← eσ103] at hw
    refine y_iinc (lv' := [(5, .int (zI (v5 + 1))), (0, .ref (ad 0)), (2, .int (zI v2)), (4, .int (zI v4))]) C dX8_work_104 hl (k := 3) rfl (by decide) rfl (fun ls hl => ?_)
    refine y_goto (tgt := 79) C dX8_work_107 (by decide) ?_
    exact hK79 _ _ _ _ _ _ _  hw (lv_sub hl [1, 2, 3, 0] rfl) h
set_option maxRecDepth 100000 in
theorem k_X8_work_79  (C : Cx cX8_work RX8 7 none D cA adK adV A p s m args meth c)  : ∀ (n : Nat) (v2 : Int) (v4 : Int) (v5 : Int) (σ : St) (H : Heap) (locs : List Loc) (ls : Array Slot) , At D cA ad kM 31 R A s σ H locs → lv_has ls 7 [(0, .ref (ad 0)), (2, .int (zI v2)), (4, .int (zI v4)), (5, .int (zI v5))] → p_X8_work_79  n v2 v4 v5 σ = some res → W p l e (rmU 4 110) s m args below meth c H locs 0 0 (MQ below (QV D cA ad kM 31 R A res) args s 0 0 A) (F0 m 79 ls []) := by
  intro n
  induction n with
  | zero =>
    intro v2 v4 v5 σ H locs ls  hw hl h
    have h : none = some res := h
    cases h
  | succ n ih =>
    intro v2 v4 v5 σ H locs ls  hw hl h
    exact k_X8_work_79b C  ih  hw hl h
set_option maxRecDepth 100000 in
set_option maxHeartbeats 4000000 in
theorem k_X8_work_52  {v1 : Int} {v2 : Int} {v3 : Int} {v4 : Int} {vs1 : Int} (C : Cx cX8_work RX8 7 none D cA adK adV A p s m args meth c)  {σ : St} {H : Heap} {locs : List Loc} {ls : Array Slot}  (hw : At D cA ad kM 31 R A s σ H locs) (hl : lv_has ls 7 [(0, .ref (ad 0)), (1, .int (zI v1)), (2, .int (zI v2)), (3, .int (zI v3)), (4, .int (zI v4))]) (h : p_X8_work_52  v1 v2 v3 v4 vs1 σ = some res) : W p l e (rmU 4 110) s m args below meth c H locs 0 0 (MQ below (QV D cA ad kM 31 R A res) args s 0 0 A) (F0 m 52 ls [.int (zI vs1), .ref (ad 0)]) := by
  have h := h
  unfold p_X8_work_52 at h
  obtain ⟨hb52, h⟩ := gd_some h
  obtain ⟨σ52, eσ52, h⟩ := nx_some h
  refine q8 C hw km_0 32 (by decide) wd_903 rfl (zb_nar hb52) (zb_fit hb52) (by decide) vs1 32 rfl rfl dX8_work_52 (fun H locs hw => ?_)
  rw [← eσ52] at hw
  refine y_aload_n C dX8_work_55 (lv_at hl 0 rfl) ?_
  refine y_iload C dX8_work_56 (lv_at hl 4 rfl) ?_
  obtain ⟨σ58, eσ58, h⟩ := nx_some h
  refine q8 C hw km_0 31 (by decide) wd_902 rfl rfl rfl (by decide) v4 31 rfl rfl dX8_work_58 (fun H locs hw => ?_)
  rw [← eσ58] at hw
  refine y_aload_n C dX8_work_61 (lv_at hl 0 rfl) ?_
  refine y_iload_n C dX8_work_62 (lv_at hl 1 rfl) ?_
  obtain ⟨σ63, eσ63, h⟩ := nx_some h
  refine q8 C hw km_0 28 (by decide) wd_899 rfl rfl rfl (by decide) v1 28 rfl rfl dX8_work_63 (fun H locs hw => ?_)
  rw [← eσ63] at hw
  refine y_aload_n C dX8_work_66 (lv_at hl 0 rfl) ?_
  refine y_iload_n C dX8_work_67 (lv_at hl 2 rfl) ?_
  obtain ⟨σ68, eσ68, h⟩ := nx_some h
  refine q8 C hw km_0 29 (by decide) wd_900 rfl rfl rfl (by decide) v2 29 rfl rfl dX8_work_68 (fun H locs hw => ?_)
  rw [← eσ68] at hw
  refine y_aload_n C dX8_work_71 (lv_at hl 0 rfl) ?_
  refine y_iload_n C dX8_work_72 (lv_at hl 3 rfl) ?_
  obtain ⟨σ73, eσ73, h⟩ := nx_some h
  refine q8 C hw km_0 30 (by decide) wd_901 rfl rfl rfl (by decide) v3 30 rfl rfl dX8_work_73 (fun H locs hw => ?_)
  rw [← eσ73] at hw
  refine y_iconst C dX8_work_76 ?_
  refine y_istore (lv' := [(5, .int (zI 0)), (0, .ref (ad 0)), (1, .int (zI v1)), (2, .int (zI v2)), (3, .int (zI v3)), (4, .int (zI v4))]) C dX8_work_77 hl (by decide) rfl (fun ls hl => ?_)
  exact k_X8_work_79 C  FU _ _ _ _ _ _ _  hw (lv_sub hl [1, 3, 5, 0] rfl) h
set_option maxRecDepth 100000 in
set_option maxHeartbeats 4000000 in
theorem k_X8_work_41  {v1 : Int} {v2 : Int} {v3 : Int} {v4 : Int} (C : Cx cX8_work RX8 7 none D cA adK adV A p s m args meth c)  {σ : St} {H : Heap} {locs : List Loc} {ls : Array Slot}  (hw : At D cA ad kM 31 R A s σ H locs) (hl : lv_has ls 7 [(0, .ref (ad 0)), (1, .int (zI v1)), (2, .int (zI v2)), (3, .int (zI v3)), (4, .int (zI v4))]) (h : p_X8_work_41  v1 v2 v3 v4 σ = some res) : W p l e (rmU 4 110) s m args below meth c H locs 0 0 (MQ below (QV D cA ad kM 31 R A res) args s 0 0 A) (F0 m 41 ls []) := by
  have h := h
  unfold p_X8_work_41 at h
  refine y_aload_n C dX8_work_41 (lv_at hl 0 rfl) ?_
  refine y_iload_n C dX8_work_42 (lv_at hl 2 rfl) ?_
  refine y_iconst C dX8_work_43 ?_
  refine y_icmp_ge (tgt := 51) C (a' := zm v2) (b' := 2) rfl (by decide) dX8_work_44 (by decide) (fun hc => ?_) (fun hc => ?_)
  · rw [if_pos hc] at h
    refine y_iconst C dX8_work_51 ?_
    exact k_X8_work_52 C   hw hl h
  · rw [if_neg hc] at h
    refine y_iconst C dX8_work_47 ?_
    refine y_goto (tgt := 52) C dX8_work_48 (by decide) ?_
    exact k_X8_work_52 C   hw hl h
set_option maxRecDepth 100000 in
set_option maxHeartbeats 4000000 in
theorem k_X8_work_0  {v1 : Int} {v2 : Int} {v3 : Int} {v4 : Int} (C : Cx cX8_work RX8 7 none D cA adK adV A p s m args meth c)  {σ : St} {H : Heap} {locs : List Loc} {ls : Array Slot}  (hw : At D cA ad kM 31 R A s σ H locs) (hl : lv_has ls 7 [(0, .ref (ad 0)), (1, .int (zI v1)), (2, .int (zI v2)), (3, .int (zI v3)), (4, .int (zI v4))]) (h : p_X8_work  v1 v2 v3 v4 σ = some res) : W p l e (rmU 4 110) s m args below meth c H locs 0 0 (MQ below (QV D cA ad kM 31 R A res) args s 0 0 A) (F0 m 0 ls []) := by
  have h := h
  unfold p_X8_work at h
  refine y_aload_n C dX8_work_0 (lv_at hl 0 rfl) ?_
  refine g8 C hw km_0 32 (by decide) wd_903 rfl dX8_work_1 ?_
  refine y_if_eq (tgt := 41) C (a' := zm (σ 0 32)) rfl dX8_work_4 (by decide) (fun hc => ?_) (fun hc => ?_)
  · rw [if_pos hc] at h
    exact k_X8_work_41 C   hw hl h
  · rw [if_neg hc] at h
    refine y_iload_n C dX8_work_7 (lv_at hl 1 rfl) ?_
    refine y_aload_n C dX8_work_8 (lv_at hl 0 rfl) ?_
    refine g8 C hw km_0 28 (by decide) wd_899 rfl dX8_work_9 ?_
    refine y_icmp_ne (tgt := 41) C (a' := zm v1) (b' := zm (σ 0 28)) rfl rfl dX8_work_12 (by decide) (fun hc => ?_) (fun hc => ?_)
    · rw [if_pos hc] at h
      refine y_iload_n C dX8_work_15 (lv_at hl 2 rfl) ?_
      refine y_aload_n C dX8_work_16 (lv_at hl 0 rfl) ?_
      refine g8 C hw km_0 29 (by decide) wd_900 rfl dX8_work_17 ?_
      refine y_icmp_ne (tgt := 41) C (a' := zm v2) (b' := zm (σ 0 29)) rfl rfl dX8_work_20 (by decide) (fun hc => ?_) (fun hc => ?_)
      · rw [if_pos hc] at h
        refine y_iload_n C dX8_work_23 (lv_at hl 3 rfl) ?_
        refine y_aload_n C dX8_work_24 (lv_at hl 0 rfl) ?_
        refine g8 C hw km_0 30 (by decide) wd_901 rfl dX8_work_25 ?_
        refine y_icmp_ne (tgt := 41) C (a' := zm v3) (b' := zm (σ 0 30)) rfl rfl dX8_work_28 (by decide) (fun hc => ?_) (fun hc => ?_)
        · rw [if_pos hc] at h
          refine y_iload C dX8_work_31 (lv_at hl 4 rfl) ?_
          refine y_aload_n C dX8_work_33 (lv_at hl 0 rfl) ?_
          refine g8 C hw km_0 31 (by decide) wd_902 rfl dX8_work_34 ?_
          refine y_icmp_ne (tgt := 41) C (a' := zm v4) (b' := zm (σ 0 31)) rfl rfl dX8_work_37 (by decide) (fun hc => ?_) (fun hc => ?_)
          · rw [if_pos hc] at h
            exact y_vret C hw h dX8_work_40
          · rw [if_neg hc] at h
            exact k_X8_work_41 C   hw hl h
        · rw [if_neg hc] at h
          exact k_X8_work_41 C   hw hl h
      · rw [if_neg hc] at h
        exact k_X8_work_41 C   hw hl h
    · rw [if_neg hc] at h
      exact k_X8_work_41 C   hw hl h
theorem c_X8_work {l : Launch} {D : va_G} {cA : Nat → ClassId} {adK adV : Nat → Nat} {A : Nat → Prop} {ad : Int → Nat} {R : va_W} {σ : St} {res : Int × St} {v1 : Int} {v2 : Int} {v3 : Int} {v4 : Int}  (h : p_X8_work v1 v2 v3 v4 σ = some res) : Met l yX8_work (wsU yX8_work cX8_work 7 none) (rmU 4 110) (va_Pc [.ref (ad 0), .int (zI v1), .int (zI v2), .int (zI v3), .int (zI v4)] (Pr D cA adK adV ad kM 31 R A σ)) (QV D cA ad kM 31 R A res) 0 0 A :=
  y_met (own := RX8) (by decide) rfl _ (Nat.le_of_ble_eq_true rfl) (fun p e s m args below meth c ls C hl hw => k_X8_work_0 C  hw hl h)
/-! RungHouseModel.cost -/
set_option maxRecDepth 100000 in
set_option maxHeartbeats 4000000 in
theorem k_X8_cost_0  {v1 : Int} {v2 : Int} {v3 : Int} {v4 : Int} {v5 : Int} (C : Cx cX8_cost RX8 6 (some .int) D cA adK adV A p s m args meth c)  {σ : St} {H : Heap} {locs : List Loc} {ls : Array Slot}  (hw : At D cA ad kM 31 R A s σ H locs) (hl : lv_has ls 6 [(0, .ref (ad 0)), (1, .int (zI v1)), (2, .int (zI v2)), (3, .int (zI v3)), (4, .int (zI v4)), (5, .int (zI v5))]) (h : p_X8_cost  v1 v2 v3 v4 v5 σ = some res) : W p l e (rmU 5 136) s m args below meth c H locs 0 0 (MQ below (QI D cA ad kM 31 R A res) args s 0 0 A) (F0 m 0 ls []) := by
  have h := h
  unfold p_X8_cost at h
  refine y_aload_n C dX8_cost_0 (lv_at hl 0 rfl) ?_
  refine y_iload_n C dX8_cost_1 (lv_at hl 1 rfl) ?_
  obtain ⟨x2, hc2, h⟩ := bd_some h
  refine y_ci (rest := []) hw (y_rV C hw km_0 (by decide) rfl rfl (c_X8_isSort  hc2) mi_X8_isSort wd_1138 wd_1140 ws_39 rfl ⟨by decide, by decide⟩ hl rfl (Nat.le_of_ble_eq_true rfl) dX8_cost_2) (fun H locs hw => ?_)
  refine y_if_eq (tgt := 18) C (a' := zm x2.1) rfl dX8_cost_5 (by decide) (fun hc => ?_) (fun hc => ?_)
  · rw [if_pos hc] at h
    refine y_ldc C (z := (-1000000001)) wd_1037 (by decide) dX8_cost_18 ?_
    exact y_iret C hw h dX8_cost_20
  · rw [if_neg hc] at h
    refine y_aload_n C dX8_cost_8 (lv_at hl 0 rfl) ?_
    refine y_iload_n C dX8_cost_9 (lv_at hl 2 rfl) ?_
    refine y_iload C dX8_cost_10 (lv_at hl 5 rfl) ?_
    obtain ⟨x12, hc12, h⟩ := bd_some h
    refine y_ci (rest := []) hw (y_rV C hw km_0 (by decide) rfl rfl (c_X8_isRung  hc12) mi_X8_isRung wd_1104 wd_1106 ws_34 rfl ⟨by decide, by decide⟩ hl rfl (Nat.le_of_ble_eq_true rfl) dX8_cost_12) (fun H locs hw => ?_)
    refine y_if_ne (tgt := 21) C (a' := zm x12.1) rfl dX8_cost_15 (by decide) (fun hc => ?_) (fun hc => ?_)
    · rw [if_pos hc] at h
      refine y_ldc C (z := (-1000000001)) wd_1037 (by decide) dX8_cost_18 ?_
      exact y_iret C hw h dX8_cost_20
    · rw [if_neg hc] at h
      refine y_iload_n C dX8_cost_21 (lv_at hl 3 rfl) ?_
      obtain ⟨x22, hc22, h⟩ := bd_some h
      refine y_ci (rest := []) hw (y_rS C hw (c_X8_isTime  hc22) mi_X8_isTime wd_1168 wd_1169 rfl ⟨by decide, by decide⟩ hl rfl (Nat.le_of_ble_eq_true rfl) dX8_cost_22) (fun H locs hw => ?_)
      refine y_if_eq (tgt := 40) C (a' := zm x22.1) rfl dX8_cost_25 (by decide) (fun hc => ?_) (fun hc => ?_)
      · rw [if_pos hc] at h
        refine y_ldc C (z := (-1000000002)) wd_1030 (by decide) dX8_cost_40 ?_
        exact y_iret C hw h dX8_cost_42
      · rw [if_neg hc] at h
        refine y_iload C dX8_cost_28 (lv_at hl 4 rfl) ?_
        refine y_i2l C rfl dX8_cost_30 ?_
        refine y_lconst C (z' := 0) dX8_cost_31 (by decide) ?_
        refine y_iload_n C dX8_cost_32 (lv_at hl 3 rfl) ?_
        refine y_i2l C rfl dX8_cost_33 ?_
        obtain ⟨x34, hc34, h⟩ := bd_some h
        refine y_ci (rest := []) hw (y_rS C hw (c_X8_within  hc34) mi_X8_within wd_1027 wd_1028 rfl ⟨by decide, by decide⟩ hl rfl (Nat.le_of_ble_eq_true rfl) dX8_cost_34) (fun H locs hw => ?_)
        refine y_if_ne (tgt := 43) C (a' := zm x34.1) rfl dX8_cost_37 (by decide) (fun hc => ?_) (fun hc => ?_)
        · rw [if_pos hc] at h
          refine y_ldc C (z := (-1000000002)) wd_1030 (by decide) dX8_cost_40 ?_
          exact y_iret C hw h dX8_cost_42
        · rw [if_neg hc] at h
          refine y_aload_n C dX8_cost_43 (lv_at hl 0 rfl) ?_
          refine y_iload_n C dX8_cost_44 (lv_at hl 1 rfl) ?_
          refine y_iload_n C dX8_cost_45 (lv_at hl 2 rfl) ?_
          refine y_iconst C dX8_cost_46 ?_
          refine y_iload_n C dX8_cost_47 (lv_at hl 3 rfl) ?_
          obtain ⟨x48, hc48, h⟩ := bd_some h
          refine y_cv (rest := []) hw (y_rV C hw km_0 (by decide) rfl rfl (c_X8_work  hc48) mi_X8_work wd_1172 wd_1174 ws_44 rfl ⟨by decide, by decide⟩ hl rfl (Nat.le_of_ble_eq_true rfl) dX8_cost_48) (fun H locs hw => ?_)
          refine y_aload_n C dX8_cost_51 (lv_at hl 0 rfl) ?_
          refine g8 C hw km_0 26 (by decide) wd_897 rfl dX8_cost_52 ?_
          refine y_bipush C dX8_cost_55 (by decide) ?_
          refine y_iload C dX8_cost_57 (lv_at hl 4 rfl) ?_
          refine y_imul C dX8_cost_59 ?_
          refine y_iload C dX8_cost_60 (lv_at hl 5 rfl) ?_
          refine y_iadd C dX8_cost_62 ?_
          obtain ⟨hg63, h⟩ := gd_some h
          refine y_iald C hw km_16 (i' := zm ((10 * v4) + v5)) rfl hg63 dX8_cost_63 ?_
          exact y_iret C hw h dX8_cost_64
theorem c_X8_cost {l : Launch} {D : va_G} {cA : Nat → ClassId} {adK adV : Nat → Nat} {A : Nat → Prop} {ad : Int → Nat} {R : va_W} {σ : St} {res : Int × St} {v1 : Int} {v2 : Int} {v3 : Int} {v4 : Int} {v5 : Int}  (h : p_X8_cost v1 v2 v3 v4 v5 σ = some res) : Met l yX8_cost (wsU yX8_cost cX8_cost 6 (some .int)) (rmU 5 136) (va_Pc [.ref (ad 0), .int (zI v1), .int (zI v2), .int (zI v3), .int (zI v4), .int (zI v5)] (Pr D cA adK adV ad kM 31 R A σ)) (QI D cA ad kM 31 R A res) 0 0 A :=
  y_met (own := RX8) (by decide) rfl _ (Nat.le_of_ble_eq_true rfl) (fun p e s m args below meth c ls C hl hw => k_X8_cost_0 C  hw hl h)
/-! RungHouseModel.isWhen -/
set_option maxRecDepth 100000 in
set_option maxHeartbeats 4000000 in
theorem k_X8_isWhen_0  {v1 : Int} {v2 : Int} (C : Cx cX8_isWhen RX8 3 (some .boolean) D cA adK adV A p s m args meth c)  {σ : St} {H : Heap} {locs : List Loc} {ls : Array Slot}  (hw : At D cA ad kM 31 R A s σ H locs) (hl : lv_has ls 3 [(0, .ref (ad 0)), (1, .int (zI v1)), (2, .int (zI v2))]) (h : p_X8_isWhen  v1 v2 σ = some res) : W p l e (rmU 2 45) s m args below meth c H locs 0 0 (MQ below (QI D cA ad kM 31 R A res) args s 0 0 A) (F0 m 0 ls []) := by
  have h := h
  unfold p_X8_isWhen at h
  refine y_iload_n C dX8_isWhen_0 (lv_at hl 1 rfl) ?_
  obtain ⟨x1, hc1, h⟩ := bd_some h
  refine y_ci (rest := []) hw (y_rS C hw (c_X8_isTime  hc1) mi_X8_isTime wd_1168 wd_1169 rfl ⟨by decide, by decide⟩ hl rfl (Nat.le_of_ble_eq_true rfl) dX8_isWhen_1) (fun H locs hw => ?_)
  refine y_if_eq (tgt := 24) C (a' := zm x1.1) rfl dX8_isWhen_4 (by decide) (fun hc => ?_) (fun hc => ?_)
  · rw [if_pos hc] at h
    refine y_iconst C dX8_isWhen_24 ?_
    exact y_zret C hw (by decide) h dX8_isWhen_25
  · rw [if_neg hc] at h
    refine y_iload_n C dX8_isWhen_7 (lv_at hl 2 rfl) ?_
    refine y_i2l C rfl dX8_isWhen_8 ?_
    refine y_lconst C (z' := 0) dX8_isWhen_9 (by decide) ?_
    refine y_iload_n C dX8_isWhen_10 (lv_at hl 1 rfl) ?_
    refine y_iconst C dX8_isWhen_11 ?_
    refine y_isub C dX8_isWhen_12 ?_
    refine y_i2l C rfl dX8_isWhen_13 ?_
    obtain ⟨x14, hc14, h⟩ := bd_some h
    refine y_ci (rest := []) hw (y_rS C hw (c_X8_within  hc14) mi_X8_within wd_1027 wd_1028 rfl ⟨by decide, by decide⟩ hl rfl (Nat.le_of_ble_eq_true rfl) dX8_isWhen_14) (fun H locs hw => ?_)
    refine y_if_eq (tgt := 24) C (a' := zm x14.1) rfl dX8_isWhen_17 (by decide) (fun hc => ?_) (fun hc => ?_)
    · rw [if_pos hc] at h
      refine y_iconst C dX8_isWhen_24 ?_
      exact y_zret C hw (by decide) h dX8_isWhen_25
    · rw [if_neg hc] at h
      refine y_iconst C dX8_isWhen_20 ?_
      refine y_goto (tgt := 25) C dX8_isWhen_21 (by decide) ?_
      exact y_zret C hw (by decide) h dX8_isWhen_25
theorem c_X8_isWhen {l : Launch} {D : va_G} {cA : Nat → ClassId} {adK adV : Nat → Nat} {A : Nat → Prop} {ad : Int → Nat} {R : va_W} {σ : St} {res : Int × St} {v1 : Int} {v2 : Int}  (h : p_X8_isWhen v1 v2 σ = some res) : Met l yX8_isWhen (wsU yX8_isWhen cX8_isWhen 3 (some .boolean)) (rmU 2 45) (va_Pc [.ref (ad 0), .int (zI v1), .int (zI v2)] (Pr D cA adK adV ad kM 31 R A σ)) (QI D cA ad kM 31 R A res) 0 0 A :=
  y_met (own := RX8) (by decide) rfl _ (Nat.le_of_ble_eq_true rfl) (fun p e s m args below meth c ls C hl hw => k_X8_isWhen_0 C  hw hl h)
/-! RungHouseModel.painOf -/
set_option maxRecDepth 100000 in
set_option maxHeartbeats 4000000 in
theorem k_X8_painOf_0  {v1 : Int} (C : Cx cX8_painOf RX8 2 (some .int) D cA adK adV A p s m args meth c)  {σ : St} {H : Heap} {locs : List Loc} {ls : Array Slot}  (hw : At D cA ad kM 31 R A s σ H locs) (hl : lv_has ls 2 [(0, .ref (ad 0)), (1, .int (zI v1))]) (h : p_X8_painOf  v1 σ = some res) : W p l e (rmU 0 0) s m args below meth c H locs 0 0 (MQ below (QI D cA ad kM 31 R A res) args s 0 0 A) (F0 m 0 ls []) := by
  have h := h
  unfold p_X8_painOf at h
  refine y_iload_n C dX8_painOf_0 (lv_at hl 1 rfl) ?_
  refine y_if_eq (tgt := 20) C (a' := zm v1) rfl dX8_painOf_1 (by decide) (fun hc => ?_) (fun hc => ?_)
  · rw [if_pos hc] at h
    refine y_iconst C dX8_painOf_20 ?_
    exact y_iret C hw h dX8_painOf_21
  · rw [if_neg hc] at h
    refine y_aload_n C dX8_painOf_4 (lv_at hl 0 rfl) ?_
    refine g8 C hw km_0 11 (by decide) wd_882 rfl dX8_painOf_5 ?_
    refine y_aload_n C dX8_painOf_8 (lv_at hl 0 rfl) ?_
    refine g8 C hw km_0 28 (by decide) wd_899 rfl dX8_painOf_9 ?_
    obtain ⟨hg12, h⟩ := gd_some h
    refine y_iald C hw km_11 (i' := zm (σ 0 28)) rfl hg12 dX8_painOf_12 ?_
    refine y_if_lt (tgt := 20) C (a' := zm (σ 11 (zm (σ 0 28)))) rfl dX8_painOf_13 (by decide) (fun hc => ?_) (fun hc => ?_)
    · rw [if_pos hc] at h
      refine y_iconst C dX8_painOf_20 ?_
      exact y_iret C hw h dX8_painOf_21
    · rw [if_neg hc] at h
      refine y_iconst C dX8_painOf_16 ?_
      refine y_goto (tgt := 21) C dX8_painOf_17 (by decide) ?_
      exact y_iret C hw h dX8_painOf_21
theorem c_X8_painOf {l : Launch} {D : va_G} {cA : Nat → ClassId} {adK adV : Nat → Nat} {A : Nat → Prop} {ad : Int → Nat} {R : va_W} {σ : St} {res : Int × St} {v1 : Int}  (h : p_X8_painOf v1 σ = some res) : Met l yX8_painOf (wsU yX8_painOf cX8_painOf 2 (some .int)) (rmU 0 0) (va_Pc [.ref (ad 0), .int (zI v1)] (Pr D cA adK adV ad kM 31 R A σ)) (QI D cA ad kM 31 R A res) 0 0 A :=
  y_met (own := RX8) (by decide) rfl _ (Nat.le_of_ble_eq_true rfl) (fun p e s m args below meth c ls C hl hw => k_X8_painOf_0 C  hw hl h)
/-! RungHouseModel.in -/
set_option maxRecDepth 100000 in
set_option maxHeartbeats 4000000 in
theorem k_X8_in_0  {v1 : Int} {v2 : Int} {v3 : Int} {v4 : Int} {v5 : Int} {v6 : Int} {v7 : Int} {v8 : Int} (C : Cx cX8_in RX8 9 (some .int) D cA adK adV A p s m args meth c)  {σ : St} {H : Heap} {locs : List Loc} {ls : Array Slot}  (hw : At D cA ad kM 31 R A s σ H locs) (hl : lv_has ls 9 [(0, .ref (ad 0)), (1, .int (zI v1)), (2, .int (zI v2)), (3, .int (zI v3)), (4, .int (zI v4)), (5, .int (zI v5)), (6, .int (zI v6)), (7, .int (zI v7)), (8, .int (zI v8))]) (h : p_X8_in  v1 v2 v3 v4 v5 v6 v7 v8 σ = some res) : W p l e (rmU 5 136) s m args below meth c H locs 0 0 (MQ below (QI D cA ad kM 31 R A res) args s 0 0 A) (F0 m 0 ls []) := by
  have h := h
  unfold p_X8_in at h
  refine y_aload_n C dX8_in_0 (lv_at hl 0 rfl) ?_
  refine y_iload_n C dX8_in_1 (lv_at hl 1 rfl) ?_
  obtain ⟨x2, hc2, h⟩ := bd_some h
  refine y_ci (rest := []) hw (y_rV C hw km_0 (by decide) rfl rfl (c_X8_isSort  hc2) mi_X8_isSort wd_1138 wd_1140 ws_39 rfl ⟨by decide, by decide⟩ hl rfl (Nat.le_of_ble_eq_true rfl) dX8_in_2) (fun H locs hw => ?_)
  refine y_if_eq (tgt := 18) C (a' := zm x2.1) rfl dX8_in_5 (by decide) (fun hc => ?_) (fun hc => ?_)
  · rw [if_pos hc] at h
    refine y_ldc C (z := (-1000000001)) wd_1037 (by decide) dX8_in_18 ?_
    exact y_iret C hw h dX8_in_20
  · rw [if_neg hc] at h
    refine y_aload_n C dX8_in_8 (lv_at hl 0 rfl) ?_
    refine y_iload_n C dX8_in_9 (lv_at hl 2 rfl) ?_
    refine y_iload C dX8_in_10 (lv_at hl 5 rfl) ?_
    obtain ⟨x12, hc12, h⟩ := bd_some h
    refine y_ci (rest := []) hw (y_rV C hw km_0 (by decide) rfl rfl (c_X8_isRung  hc12) mi_X8_isRung wd_1104 wd_1106 ws_34 rfl ⟨by decide, by decide⟩ hl rfl (Nat.le_of_ble_eq_true rfl) dX8_in_12) (fun H locs hw => ?_)
    refine y_if_ne (tgt := 21) C (a' := zm x12.1) rfl dX8_in_15 (by decide) (fun hc => ?_) (fun hc => ?_)
    · rw [if_pos hc] at h
      refine y_ldc C (z := (-1000000001)) wd_1037 (by decide) dX8_in_18 ?_
      exact y_iret C hw h dX8_in_20
    · rw [if_neg hc] at h
      refine y_aload_n C dX8_in_21 (lv_at hl 0 rfl) ?_
      refine y_iload_n C dX8_in_22 (lv_at hl 3 rfl) ?_
      refine y_iload C dX8_in_23 (lv_at hl 4 rfl) ?_
      obtain ⟨x25, hc25, h⟩ := bd_some h
      refine y_ci (rest := []) hw (y_rV C hw km_0 (by decide) rfl rfl (c_X8_isWhen  hc25) mi_X8_isWhen wd_1220 wd_1222 ws_54 rfl ⟨by decide, by decide⟩ hl rfl (Nat.le_of_ble_eq_true rfl) dX8_in_25) (fun H locs hw => ?_)
      refine y_if_eq (tgt := 57) C (a' := zm x25.1) rfl dX8_in_28 (by decide) (fun hc => ?_) (fun hc => ?_)
      · rw [if_pos hc] at h
        refine y_ldc C (z := (-1000000002)) wd_1030 (by decide) dX8_in_57 ?_
        exact y_iret C hw h dX8_in_59
      · rw [if_neg hc] at h
        refine y_iload C dX8_in_31 (lv_at hl 6 rfl) ?_
        refine y_i2l C rfl dX8_in_33 ?_
        refine y_lconst C (z' := 0) dX8_in_34 (by decide) ?_
        refine y_ldc2 C (z := 12) wd_1224 (by decide) dX8_in_35 ?_
        obtain ⟨x38, hc38, h⟩ := bd_some h
        refine y_ci (rest := []) hw (y_rS C hw (c_X8_within  hc38) mi_X8_within wd_1027 wd_1028 rfl ⟨by decide, by decide⟩ hl rfl (Nat.le_of_ble_eq_true rfl) dX8_in_38) (fun H locs hw => ?_)
        refine y_if_eq (tgt := 57) C (a' := zm x38.1) rfl dX8_in_41 (by decide) (fun hc => ?_) (fun hc => ?_)
        · rw [if_pos hc] at h
          refine y_ldc C (z := (-1000000002)) wd_1030 (by decide) dX8_in_57 ?_
          exact y_iret C hw h dX8_in_59
        · rw [if_neg hc] at h
          refine y_iload C dX8_in_44 (lv_at hl 7 rfl) ?_
          refine y_i2l C rfl dX8_in_46 ?_
          refine y_lconst C (z' := 0) dX8_in_47 (by decide) ?_
          refine y_ldc2 C (z := 3) wd_1112 (by decide) dX8_in_48 ?_
          obtain ⟨x51, hc51, h⟩ := bd_some h
          refine y_ci (rest := []) hw (y_rS C hw (c_X8_within  hc51) mi_X8_within wd_1027 wd_1028 rfl ⟨by decide, by decide⟩ hl rfl (Nat.le_of_ble_eq_true rfl) dX8_in_51) (fun H locs hw => ?_)
          refine y_if_ne (tgt := 60) C (a' := zm x51.1) rfl dX8_in_54 (by decide) (fun hc => ?_) (fun hc => ?_)
          · rw [if_pos hc] at h
            refine y_ldc C (z := (-1000000002)) wd_1030 (by decide) dX8_in_57 ?_
            exact y_iret C hw h dX8_in_59
          · rw [if_neg hc] at h
            refine y_aload_n C dX8_in_60 (lv_at hl 0 rfl) ?_
            refine y_iload_n C dX8_in_61 (lv_at hl 1 rfl) ?_
            refine y_iload_n C dX8_in_62 (lv_at hl 2 rfl) ?_
            refine y_iconst C dX8_in_63 ?_
            refine y_iload_n C dX8_in_64 (lv_at hl 3 rfl) ?_
            obtain ⟨x65, hc65, h⟩ := bd_some h
            refine y_cv (rest := []) hw (y_rV C hw km_0 (by decide) rfl rfl (c_X8_work  hc65) mi_X8_work wd_1172 wd_1174 ws_44 rfl ⟨by decide, by decide⟩ hl rfl (Nat.le_of_ble_eq_true rfl) dX8_in_65) (fun H locs hw => ?_)
            refine y_aload_n C dX8_in_68 (lv_at hl 0 rfl) ?_
            refine g8 C hw km_0 27 (by decide) wd_898 rfl dX8_in_69 ?_
            refine y_aload_n C dX8_in_72 (lv_at hl 0 rfl) ?_
            refine y_iload C dX8_in_73 (lv_at hl 8 rfl) ?_
            obtain ⟨x75, hc75, h⟩ := bd_some h
            refine y_ci (rest := [.ref (ad 17)]) hw (y_rV C hw km_0 (by decide) rfl rfl (c_X8_painOf  hc75) mi_X8_painOf wd_1225 wd_1227 ws_55 rfl ⟨by decide, by decide⟩ hl rfl (Nat.le_of_ble_eq_true rfl) dX8_in_75) (fun H locs hw => ?_)
            refine y_iload C dX8_in_78 (lv_at hl 4 rfl) ?_
            refine y_iload C dX8_in_80 (lv_at hl 5 rfl) ?_
            refine y_iload C dX8_in_82 (lv_at hl 6 rfl) ?_
            refine y_iload C dX8_in_84 (lv_at hl 7 rfl) ?_
            obtain ⟨x86, hc86, h⟩ := bd_some h
            refine y_ci (rest := [.ref (ad 17)]) hw (y_rS C hw (c_X8_place  hc86) mi_X8_place wd_1180 wd_1181 rfl ⟨by decide, by decide⟩ hl rfl (Nat.le_of_ble_eq_true rfl) dX8_in_86) (fun H locs hw => ?_)
            obtain ⟨hg89, h⟩ := gd_some h
            refine y_iald C hw km_17 (i' := zm x86.1) rfl hg89 dX8_in_89 ?_
            exact y_iret C hw h dX8_in_90
theorem c_X8_in {l : Launch} {D : va_G} {cA : Nat → ClassId} {adK adV : Nat → Nat} {A : Nat → Prop} {ad : Int → Nat} {R : va_W} {σ : St} {res : Int × St} {v1 : Int} {v2 : Int} {v3 : Int} {v4 : Int} {v5 : Int} {v6 : Int} {v7 : Int} {v8 : Int}  (h : p_X8_in v1 v2 v3 v4 v5 v6 v7 v8 σ = some res) : Met l yX8_in (wsU yX8_in cX8_in 9 (some .int)) (rmU 5 136) (va_Pc [.ref (ad 0), .int (zI v1), .int (zI v2), .int (zI v3), .int (zI v4), .int (zI v5), .int (zI v6), .int (zI v7), .int (zI v8)] (Pr D cA adK adV ad kM 31 R A σ)) (QI D cA ad kM 31 R A res) 0 0 A :=
  y_met (own := RX8) (by decide) rfl _ (Nat.le_of_ble_eq_true rfl) (fun p e s m args below meth c ls C hl hw => k_X8_in_0 C  hw hl h)
/-! RungHouseModel.takes -/
set_option maxRecDepth 100000 in
set_option maxHeartbeats 4000000 in
theorem k_X8_takes_0  {v1 : Int} {v2 : Int} {v3 : Int} {v4 : Int} {v5 : Int} (C : Cx cX8_takes RX8 6 (some .int) D cA adK adV A p s m args meth c)  {σ : St} {H : Heap} {locs : List Loc} {ls : Array Slot}  (hw : At D cA ad kM 31 R A s σ H locs) (hl : lv_has ls 6 [(0, .ref (ad 0)), (1, .int (zI v1)), (2, .int (zI v2)), (3, .int (zI v3)), (4, .int (zI v4)), (5, .int (zI v5))]) (h : p_X8_takes  v1 v2 v3 v4 v5 σ = some res) : W p l e (rmU 5 136) s m args below meth c H locs 0 0 (MQ below (QI D cA ad kM 31 R A res) args s 0 0 A) (F0 m 0 ls []) := by
  have h := h
  unfold p_X8_takes at h
  refine y_aload_n C dX8_takes_0 (lv_at hl 0 rfl) ?_
  refine y_iload_n C dX8_takes_1 (lv_at hl 1 rfl) ?_
  obtain ⟨x2, hc2, h⟩ := bd_some h
  refine y_ci (rest := []) hw (y_rV C hw km_0 (by decide) rfl rfl (c_X8_isSort  hc2) mi_X8_isSort wd_1138 wd_1140 ws_39 rfl ⟨by decide, by decide⟩ hl rfl (Nat.le_of_ble_eq_true rfl) dX8_takes_2) (fun H locs hw => ?_)
  refine y_if_eq (tgt := 18) C (a' := zm x2.1) rfl dX8_takes_5 (by decide) (fun hc => ?_) (fun hc => ?_)
  · rw [if_pos hc] at h
    refine y_ldc C (z := (-1000000001)) wd_1037 (by decide) dX8_takes_18 ?_
    exact y_iret C hw h dX8_takes_20
  · rw [if_neg hc] at h
    refine y_aload_n C dX8_takes_8 (lv_at hl 0 rfl) ?_
    refine y_iload_n C dX8_takes_9 (lv_at hl 2 rfl) ?_
    refine y_iload C dX8_takes_10 (lv_at hl 5 rfl) ?_
    obtain ⟨x12, hc12, h⟩ := bd_some h
    refine y_ci (rest := []) hw (y_rV C hw km_0 (by decide) rfl rfl (c_X8_isRung  hc12) mi_X8_isRung wd_1104 wd_1106 ws_34 rfl ⟨by decide, by decide⟩ hl rfl (Nat.le_of_ble_eq_true rfl) dX8_takes_12) (fun H locs hw => ?_)
    refine y_if_ne (tgt := 21) C (a' := zm x12.1) rfl dX8_takes_15 (by decide) (fun hc => ?_) (fun hc => ?_)
    · rw [if_pos hc] at h
      refine y_ldc C (z := (-1000000001)) wd_1037 (by decide) dX8_takes_18 ?_
      exact y_iret C hw h dX8_takes_20
    · rw [if_neg hc] at h
      refine y_aload_n C dX8_takes_21 (lv_at hl 0 rfl) ?_
      refine y_iload_n C dX8_takes_22 (lv_at hl 3 rfl) ?_
      refine y_iload C dX8_takes_23 (lv_at hl 4 rfl) ?_
      obtain ⟨x25, hc25, h⟩ := bd_some h
      refine y_ci (rest := []) hw (y_rV C hw km_0 (by decide) rfl rfl (c_X8_isWhen  hc25) mi_X8_isWhen wd_1220 wd_1222 ws_54 rfl ⟨by decide, by decide⟩ hl rfl (Nat.le_of_ble_eq_true rfl) dX8_takes_25) (fun H locs hw => ?_)
      refine y_if_ne (tgt := 34) C (a' := zm x25.1) rfl dX8_takes_28 (by decide) (fun hc => ?_) (fun hc => ?_)
      · rw [if_pos hc] at h
        refine y_ldc C (z := (-1000000002)) wd_1030 (by decide) dX8_takes_31 ?_
        exact y_iret C hw h dX8_takes_33
      · rw [if_neg hc] at h
        refine y_aload_n C dX8_takes_34 (lv_at hl 0 rfl) ?_
        refine y_iload_n C dX8_takes_35 (lv_at hl 1 rfl) ?_
        refine y_iload_n C dX8_takes_36 (lv_at hl 2 rfl) ?_
        refine y_iconst C dX8_takes_37 ?_
        refine y_iload_n C dX8_takes_38 (lv_at hl 3 rfl) ?_
        obtain ⟨x39, hc39, h⟩ := bd_some h
        refine y_cv (rest := []) hw (y_rV C hw km_0 (by decide) rfl rfl (c_X8_work  hc39) mi_X8_work wd_1172 wd_1174 ws_44 rfl ⟨by decide, by decide⟩ hl rfl (Nat.le_of_ble_eq_true rfl) dX8_takes_39) (fun H locs hw => ?_)
        refine y_aload_n C dX8_takes_42 (lv_at hl 0 rfl) ?_
        refine y_iload C dX8_takes_43 (lv_at hl 4 rfl) ?_
        refine y_iload C dX8_takes_45 (lv_at hl 5 rfl) ?_
        obtain ⟨x47, hc47, h⟩ := bd_some h
        refine y_ci (rest := []) hw (y_rV C hw km_0 (by decide) rfl rfl (c_X8_isPained  hc47) mi_X8_isPained wd_1204 wd_1206 ws_51 rfl ⟨by decide, by decide⟩ hl rfl (Nat.le_of_ble_eq_true rfl) dX8_takes_47) (fun H locs hw => ?_)
        refine y_if_eq (tgt := 57) C (a' := zm x47.1) rfl dX8_takes_50 (by decide) (fun hc => ?_) (fun hc => ?_)
        · rw [if_pos hc] at h
          refine y_iconst C dX8_takes_57 ?_
          exact y_iret C hw h dX8_takes_58
        · rw [if_neg hc] at h
          refine y_iconst C dX8_takes_53 ?_
          refine y_goto (tgt := 58) C dX8_takes_54 (by decide) ?_
          exact y_iret C hw h dX8_takes_58
theorem c_X8_takes {l : Launch} {D : va_G} {cA : Nat → ClassId} {adK adV : Nat → Nat} {A : Nat → Prop} {ad : Int → Nat} {R : va_W} {σ : St} {res : Int × St} {v1 : Int} {v2 : Int} {v3 : Int} {v4 : Int} {v5 : Int}  (h : p_X8_takes v1 v2 v3 v4 v5 σ = some res) : Met l yX8_takes (wsU yX8_takes cX8_takes 6 (some .int)) (rmU 5 136) (va_Pc [.ref (ad 0), .int (zI v1), .int (zI v2), .int (zI v3), .int (zI v4), .int (zI v5)] (Pr D cA adK adV ad kM 31 R A σ)) (QI D cA ad kM 31 R A res) 0 0 A :=
  y_met (own := RX8) (by decide) rfl _ (Nat.le_of_ble_eq_true rfl) (fun p e s m args below meth c ls C hl hw => k_X8_takes_0 C  hw hl h)
/-! RungHouseModel.bar -/
set_option maxRecDepth 100000 in
set_option maxHeartbeats 4000000 in
theorem k_X8_bar_71b {K71 : Int → Int → Int → Int → Int → Int → Int → St → Option (Int × St)} {v1 : Int} {v4 : Int} {v5 : Int} {v6 : Int} {v7 : Int} {v8 : Int} {v9 : Int} (C : Cx cX8_bar RX8 10 (some .int) D cA adK adV A p s m args meth c)  (hK71 : ∀ (v1 : Int) (v4 : Int) (v5 : Int) (v6 : Int) (v7 : Int) (v8 : Int) (v9 : Int) (σ : St) (H : Heap) (locs : List Loc) (ls : Array Slot) , At D cA ad kM 31 R A s σ H locs → lv_has ls 10 [(0, .ref (ad 0)), (1, .int (zI v1)), (4, .int (zI v4)), (5, .int (zI v5)), (6, .int (zI v6)), (7, .int (zI v7)), (8, .int (zI v8)), (9, .int (zI v9))] → K71 v1 v4 v5 v6 v7 v8 v9 σ = some res → W p l e (rmU 5 136) s m args below meth c H locs 0 0 (MQ below (QI D cA ad kM 31 R A res) args s 0 0 A) (F0 m 71 ls [])) {σ : St} {H : Heap} {locs : List Loc} {ls : Array Slot}  (hw : At D cA ad kM 31 R A s σ H locs) (hl : lv_has ls 10 [(0, .ref (ad 0)), (1, .int (zI v1)), (4, .int (zI v4)), (5, .int (zI v5)), (6, .int (zI v6)), (7, .int (zI v7)), (8, .int (zI v8)), (9, .int (zI v9))]) (h : p_X8_bar_71b K71 v1 v4 v5 v6 v7 v8 v9 σ = some res) : W p l e (rmU 5 136) s m args below meth c H locs 0 0 (MQ below (QI D cA ad kM 31 R A res) args s 0 0 A) (F0 m 71 ls []) := by
  have h := h
  unfold p_X8_bar_71b at h
  refine y_iload C dX8_bar_71 (lv_at hl 7 rfl) ?_
  refine y_aload_n C dX8_bar_73 (lv_at hl 0 rfl) ?_
  refine g8 C hw km_0 8 (by decide) wd_879 rfl dX8_bar_74 ?_
  refine y_iload_n C dX8_bar_77 (lv_at hl 1 rfl) ?_
  obtain ⟨hg78, h⟩ := gd_some h
  refine y_iald C hw km_8 (i' := zm v1) rfl hg78 dX8_bar_78 ?_
  refine y_icmp_ge (tgt := 134) C (a' := zm v9) (b' := zm (σ 8 (zm v1))) rfl rfl dX8_bar_79 (by decide) (fun hc => ?_) (fun hc => ?_)
  · rw [if_pos hc] at h
    refine y_iconst C dX8_bar_134 ?_
    exact y_iret C hw h dX8_bar_135
  · rw [if_neg hc] at h
    refine y_aload_n C dX8_bar_82 (lv_at hl 0 rfl) ?_
    refine y_aload_n C dX8_bar_83 (lv_at hl 0 rfl) ?_
    refine y_iload C dX8_bar_84 (lv_at hl 6 rfl) ?_
    obtain ⟨x86, hc86, h⟩ := bd_some h
    refine y_ci (rest := [.ref (ad 0)]) hw (y_rV C hw km_0 (by decide) rfl rfl (c_X8_painOf  hc86) mi_X8_painOf wd_1225 wd_1227 ws_55 rfl ⟨by decide, by decide⟩ hl rfl (Nat.le_of_ble_eq_true rfl) dX8_bar_86) (fun H locs hw => ?_)
    refine y_iload C dX8_bar_89 (lv_at hl 2 rfl) ?_
    refine y_iload C dX8_bar_91 (lv_at hl 3 rfl) ?_
    refine y_iload C dX8_bar_93 (lv_at hl 4 rfl) ?_
    refine y_iload C dX8_bar_95 (lv_at hl 5 rfl) ?_
    refine y_aload_n C dX8_bar_97 (lv_at hl 0 rfl) ?_
    refine g8 C hw km_0 9 (by decide) wd_880 rfl dX8_bar_98 ?_
    refine y_bipush C dX8_bar_101 (by decide) ?_
    refine y_iload_n C dX8_bar_103 (lv_at hl 1 rfl) ?_
    refine y_imul C dX8_bar_104 ?_
    refine y_iload C dX8_bar_105 (lv_at hl 7 rfl) ?_
    refine y_iadd C dX8_bar_107 ?_
    obtain ⟨hg108, h⟩ := gd_some h
    refine y_iald C hw km_9 (i' := zm ((8 * v1) + v9)) rfl hg108 dX8_bar_108 ?_
    obtain ⟨x109, hc109, h⟩ := bd_some h
    refine y_ci (rest := []) hw (y_rV C hw km_0 (by decide) rfl rfl (c_X8_asks  hc109) mi_X8_asks wd_1184 wd_1186 ws_46 rfl ⟨by decide, by decide⟩ hl rfl (Nat.le_of_ble_eq_true rfl) dX8_bar_109) (fun H locs hw => ?_)
    refine y_if_eq (tgt := 128) C (a' := zm x109.1) rfl dX8_bar_112 (by decide) (fun hc => ?_) (fun hc => ?_)
    · rw [if_pos hc] at h
      refine y_iinc (lv' := [(9, .int (zI (v9 + 1))), (0, .ref (ad 0)), (1, .int (zI v1)), (4, .int (zI v4)), (5, .int (zI v5)), (6, .int (zI v6)), (7, .int (zI v7)), (8, .int (zI v8))]) C dX8_bar_128 hl (k := 7) rfl (by decide) rfl (fun ls hl => ?_)
      refine y_goto (tgt := 71) C dX8_bar_131 (by decide) ?_
      exact hK71 _ _ _ _ _ _ _ _ _ _ _  hw (lv_sub hl [1, 2, 3, 4, 5, 6, 7, 0] rfl) h
    · rw [if_neg hc] at h
      refine y_aload_n C dX8_bar_115 (lv_at hl 0 rfl) ?_
      refine g8 C hw km_0 9 (by decide) wd_880 rfl dX8_bar_116 ?_
      refine y_bipush C dX8_bar_119 (by decide) ?_
      refine y_iload_n C dX8_bar_121 (lv_at hl 1 rfl) ?_
      refine y_imul C dX8_bar_122 ?_
      refine y_iload C dX8_bar_123 (lv_at hl 7 rfl) ?_
      refine y_iadd C dX8_bar_125 ?_
      refine y_iald C hw km_9 (i' := zm ((8 * v1) + v9)) rfl hg108 dX8_bar_126 ?_
      exact y_iret C hw h dX8_bar_127
set_option maxRecDepth 100000 in
theorem k_X8_bar_71  (C : Cx cX8_bar RX8 10 (some .int) D cA adK adV A p s m args meth c)  : ∀ (n : Nat) (v1 : Int) (v4 : Int) (v5 : Int) (v6 : Int) (v7 : Int) (v8 : Int) (v9 : Int) (σ : St) (H : Heap) (locs : List Loc) (ls : Array Slot) , At D cA ad kM 31 R A s σ H locs → lv_has ls 10 [(0, .ref (ad 0)), (1, .int (zI v1)), (4, .int (zI v4)), (5, .int (zI v5)), (6, .int (zI v6)), (7, .int (zI v7)), (8, .int (zI v8)), (9, .int (zI v9))] → p_X8_bar_71  n v1 v4 v5 v6 v7 v8 v9 σ = some res → W p l e (rmU 5 136) s m args below meth c H locs 0 0 (MQ below (QI D cA ad kM 31 R A res) args s 0 0 A) (F0 m 71 ls []) := by
  intro n
  induction n with
  | zero =>
    intro v1 v4 v5 v6 v7 v8 v9 σ H locs ls  hw hl h
    have h : none = some res := h
    cases h
  | succ n ih =>
    intro v1 v4 v5 v6 v7 v8 v9 σ H locs ls  hw hl h
    exact k_X8_bar_71b C  ih  hw hl h
set_option maxRecDepth 100000 in
set_option maxHeartbeats 4000000 in
theorem k_X8_bar_0  {v1 : Int} {v2 : Int} {v3 : Int} {v4 : Int} {v5 : Int} {v6 : Int} {v7 : Int} {v8 : Int} (C : Cx cX8_bar RX8 10 (some .int) D cA adK adV A p s m args meth c)  {σ : St} {H : Heap} {locs : List Loc} {ls : Array Slot}  (hw : At D cA ad kM 31 R A s σ H locs) (hl : lv_has ls 10 [(0, .ref (ad 0)), (1, .int (zI v1)), (2, .int (zI v2)), (3, .int (zI v3)), (4, .int (zI v4)), (5, .int (zI v5)), (6, .int (zI v6)), (7, .int (zI v7)), (8, .int (zI v8))]) (h : p_X8_bar  v1 v2 v3 v4 v5 v6 v7 v8 σ = some res) : W p l e (rmU 5 136) s m args below meth c H locs 0 0 (MQ below (QI D cA ad kM 31 R A res) args s 0 0 A) (F0 m 0 ls []) := by
  have h := h
  unfold p_X8_bar at h
  refine y_aload_n C dX8_bar_0 (lv_at hl 0 rfl) ?_
  refine y_iload_n C dX8_bar_1 (lv_at hl 1 rfl) ?_
  obtain ⟨x2, hc2, h⟩ := bd_some h
  refine y_ci (rest := []) hw (y_rV C hw km_0 (by decide) rfl rfl (c_X8_isSort  hc2) mi_X8_isSort wd_1138 wd_1140 ws_39 rfl ⟨by decide, by decide⟩ hl rfl (Nat.le_of_ble_eq_true rfl) dX8_bar_2) (fun H locs hw => ?_)
  refine y_if_eq (tgt := 18) C (a' := zm x2.1) rfl dX8_bar_5 (by decide) (fun hc => ?_) (fun hc => ?_)
  · rw [if_pos hc] at h
    refine y_ldc C (z := (-1000000001)) wd_1037 (by decide) dX8_bar_18 ?_
    exact y_iret C hw h dX8_bar_20
  · rw [if_neg hc] at h
    refine y_aload_n C dX8_bar_8 (lv_at hl 0 rfl) ?_
    refine y_iload_n C dX8_bar_9 (lv_at hl 2 rfl) ?_
    refine y_iload C dX8_bar_10 (lv_at hl 5 rfl) ?_
    obtain ⟨x12, hc12, h⟩ := bd_some h
    refine y_ci (rest := []) hw (y_rV C hw km_0 (by decide) rfl rfl (c_X8_isRung  hc12) mi_X8_isRung wd_1104 wd_1106 ws_34 rfl ⟨by decide, by decide⟩ hl rfl (Nat.le_of_ble_eq_true rfl) dX8_bar_12) (fun H locs hw => ?_)
    refine y_if_ne (tgt := 21) C (a' := zm x12.1) rfl dX8_bar_15 (by decide) (fun hc => ?_) (fun hc => ?_)
    · rw [if_pos hc] at h
      refine y_ldc C (z := (-1000000001)) wd_1037 (by decide) dX8_bar_18 ?_
      exact y_iret C hw h dX8_bar_20
    · rw [if_neg hc] at h
      refine y_aload_n C dX8_bar_21 (lv_at hl 0 rfl) ?_
      refine y_iload_n C dX8_bar_22 (lv_at hl 3 rfl) ?_
      refine y_iload C dX8_bar_23 (lv_at hl 4 rfl) ?_
      obtain ⟨x25, hc25, h⟩ := bd_some h
      refine y_ci (rest := []) hw (y_rV C hw km_0 (by decide) rfl rfl (c_X8_isWhen  hc25) mi_X8_isWhen wd_1220 wd_1222 ws_54 rfl ⟨by decide, by decide⟩ hl rfl (Nat.le_of_ble_eq_true rfl) dX8_bar_25) (fun H locs hw => ?_)
      refine y_if_eq (tgt := 57) C (a' := zm x25.1) rfl dX8_bar_28 (by decide) (fun hc => ?_) (fun hc => ?_)
      · rw [if_pos hc] at h
        refine y_ldc C (z := (-1000000002)) wd_1030 (by decide) dX8_bar_57 ?_
        exact y_iret C hw h dX8_bar_59
      · rw [if_neg hc] at h
        refine y_iload C dX8_bar_31 (lv_at hl 6 rfl) ?_
        refine y_i2l C rfl dX8_bar_33 ?_
        refine y_lconst C (z' := 0) dX8_bar_34 (by decide) ?_
        refine y_ldc2 C (z := 11) wd_1237 (by decide) dX8_bar_35 ?_
        obtain ⟨x38, hc38, h⟩ := bd_some h
        refine y_ci (rest := []) hw (y_rS C hw (c_X8_within  hc38) mi_X8_within wd_1027 wd_1028 rfl ⟨by decide, by decide⟩ hl rfl (Nat.le_of_ble_eq_true rfl) dX8_bar_38) (fun H locs hw => ?_)
        refine y_if_eq (tgt := 57) C (a' := zm x38.1) rfl dX8_bar_41 (by decide) (fun hc => ?_) (fun hc => ?_)
        · rw [if_pos hc] at h
          refine y_ldc C (z := (-1000000002)) wd_1030 (by decide) dX8_bar_57 ?_
          exact y_iret C hw h dX8_bar_59
        · rw [if_neg hc] at h
          refine y_iload C dX8_bar_44 (lv_at hl 7 rfl) ?_
          refine y_i2l C rfl dX8_bar_46 ?_
          refine y_lconst C (z' := 0) dX8_bar_47 (by decide) ?_
          refine y_ldc2 C (z := 3) wd_1112 (by decide) dX8_bar_48 ?_
          obtain ⟨x51, hc51, h⟩ := bd_some h
          refine y_ci (rest := []) hw (y_rS C hw (c_X8_within  hc51) mi_X8_within wd_1027 wd_1028 rfl ⟨by decide, by decide⟩ hl rfl (Nat.le_of_ble_eq_true rfl) dX8_bar_51) (fun H locs hw => ?_)
          refine y_if_ne (tgt := 60) C (a' := zm x51.1) rfl dX8_bar_54 (by decide) (fun hc => ?_) (fun hc => ?_)
          · rw [if_pos hc] at h
            refine y_ldc C (z := (-1000000002)) wd_1030 (by decide) dX8_bar_57 ?_
            exact y_iret C hw h dX8_bar_59
          · rw [if_neg hc] at h
            refine y_aload_n C dX8_bar_60 (lv_at hl 0 rfl) ?_
            refine y_iload_n C dX8_bar_61 (lv_at hl 1 rfl) ?_
            refine y_iload_n C dX8_bar_62 (lv_at hl 2 rfl) ?_
            refine y_iconst C dX8_bar_63 ?_
            refine y_iload_n C dX8_bar_64 (lv_at hl 3 rfl) ?_
            obtain ⟨x65, hc65, h⟩ := bd_some h
            refine y_cv (rest := []) hw (y_rV C hw km_0 (by decide) rfl rfl (c_X8_work  hc65) mi_X8_work wd_1172 wd_1174 ws_44 rfl ⟨by decide, by decide⟩ hl rfl (Nat.le_of_ble_eq_true rfl) dX8_bar_65) (fun H locs hw => ?_)
            refine y_iconst C dX8_bar_68 ?_
            refine y_istore (lv' := [(9, .int (zI 0)), (0, .ref (ad 0)), (1, .int (zI v1)), (2, .int (zI v2)), (3, .int (zI v3)), (4, .int (zI v4)), (5, .int (zI v5)), (6, .int (zI v6)), (7, .int (zI v7)), (8, .int (zI v8))]) C dX8_bar_69 hl (by decide) rfl (fun ls hl => ?_)
            exact k_X8_bar_71 C  FU _ _ _ _ _ _ _ _ _ _ _  hw (lv_sub hl [1, 2, 5, 6, 7, 8, 9, 0] rfl) h
theorem c_X8_bar {l : Launch} {D : va_G} {cA : Nat → ClassId} {adK adV : Nat → Nat} {A : Nat → Prop} {ad : Int → Nat} {R : va_W} {σ : St} {res : Int × St} {v1 : Int} {v2 : Int} {v3 : Int} {v4 : Int} {v5 : Int} {v6 : Int} {v7 : Int} {v8 : Int}  (h : p_X8_bar v1 v2 v3 v4 v5 v6 v7 v8 σ = some res) : Met l yX8_bar (wsU yX8_bar cX8_bar 10 (some .int)) (rmU 5 136) (va_Pc [.ref (ad 0), .int (zI v1), .int (zI v2), .int (zI v3), .int (zI v4), .int (zI v5), .int (zI v6), .int (zI v7), .int (zI v8)] (Pr D cA adK adV ad kM 31 R A σ)) (QI D cA ad kM 31 R A res) 0 0 A :=
  y_met (own := RX8) (by decide) rfl _ (Nat.le_of_ble_eq_true rfl) (fun p e s m args below meth c ls C hl hw => k_X8_bar_0 C  hw hl h)
/-! RungHouseModel.fixed -/
set_option maxRecDepth 100000 in
set_option maxHeartbeats 4000000 in
theorem k_X8_fixed_0  {v1 : Int} {v2 : Int} {v3 : Int} {v4 : Int} {v5 : Int} {v6 : Int} (C : Cx cX8_fixed RX8 7 (some .int) D cA adK adV A p s m args meth c)  {σ : St} {H : Heap} {locs : List Loc} {ls : Array Slot}  (hw : At D cA ad kM 31 R A s σ H locs) (hl : lv_has ls 7 [(0, .ref (ad 0)), (1, .int (zI v1)), (2, .int (zI v2)), (3, .int (zI v3)), (4, .int (zI v4)), (5, .int (zI v5)), (6, .int (zI v6))]) (h : p_X8_fixed  v1 v2 v3 v4 v5 v6 σ = some res) : W p l e (rmU 5 136) s m args below meth c H locs 0 0 (MQ below (QI D cA ad kM 31 R A res) args s 0 0 A) (F0 m 0 ls []) := by
  have h := h
  unfold p_X8_fixed at h
  refine y_aload_n C dX8_fixed_0 (lv_at hl 0 rfl) ?_
  refine y_iload_n C dX8_fixed_1 (lv_at hl 1 rfl) ?_
  obtain ⟨x2, hc2, h⟩ := bd_some h
  refine y_ci (rest := []) hw (y_rV C hw km_0 (by decide) rfl rfl (c_X8_isRule  hc2) mi_X8_isRule wd_1242 wd_1244 ws_56 rfl ⟨by decide, by decide⟩ hl rfl (Nat.le_of_ble_eq_true rfl) dX8_fixed_2) (fun H locs hw => ?_)
  refine y_if_eq (tgt := 26) C (a' := zm x2.1) rfl dX8_fixed_5 (by decide) (fun hc => ?_) (fun hc => ?_)
  · rw [if_pos hc] at h
    refine y_ldc C (z := (-1000000001)) wd_1037 (by decide) dX8_fixed_26 ?_
    exact y_iret C hw h dX8_fixed_28
  · rw [if_neg hc] at h
    refine y_aload_n C dX8_fixed_8 (lv_at hl 0 rfl) ?_
    refine y_iload_n C dX8_fixed_9 (lv_at hl 2 rfl) ?_
    obtain ⟨x10, hc10, h⟩ := bd_some h
    refine y_ci (rest := []) hw (y_rV C hw km_0 (by decide) rfl rfl (c_X8_isSort  hc10) mi_X8_isSort wd_1138 wd_1140 ws_39 rfl ⟨by decide, by decide⟩ hl rfl (Nat.le_of_ble_eq_true rfl) dX8_fixed_10) (fun H locs hw => ?_)
    refine y_if_eq (tgt := 26) C (a' := zm x10.1) rfl dX8_fixed_13 (by decide) (fun hc => ?_) (fun hc => ?_)
    · rw [if_pos hc] at h
      refine y_ldc C (z := (-1000000001)) wd_1037 (by decide) dX8_fixed_26 ?_
      exact y_iret C hw h dX8_fixed_28
    · rw [if_neg hc] at h
      refine y_aload_n C dX8_fixed_16 (lv_at hl 0 rfl) ?_
      refine y_iload_n C dX8_fixed_17 (lv_at hl 3 rfl) ?_
      refine y_iload C dX8_fixed_18 (lv_at hl 6 rfl) ?_
      obtain ⟨x20, hc20, h⟩ := bd_some h
      refine y_ci (rest := []) hw (y_rV C hw km_0 (by decide) rfl rfl (c_X8_isRung  hc20) mi_X8_isRung wd_1104 wd_1106 ws_34 rfl ⟨by decide, by decide⟩ hl rfl (Nat.le_of_ble_eq_true rfl) dX8_fixed_20) (fun H locs hw => ?_)
      refine y_if_ne (tgt := 29) C (a' := zm x20.1) rfl dX8_fixed_23 (by decide) (fun hc => ?_) (fun hc => ?_)
      · rw [if_pos hc] at h
        refine y_ldc C (z := (-1000000001)) wd_1037 (by decide) dX8_fixed_26 ?_
        exact y_iret C hw h dX8_fixed_28
      · rw [if_neg hc] at h
        refine y_iload C dX8_fixed_29 (lv_at hl 4 rfl) ?_
        obtain ⟨x31, hc31, h⟩ := bd_some h
        refine y_ci (rest := []) hw (y_rS C hw (c_X8_isTime  hc31) mi_X8_isTime wd_1168 wd_1169 rfl ⟨by decide, by decide⟩ hl rfl (Nat.le_of_ble_eq_true rfl) dX8_fixed_31) (fun H locs hw => ?_)
        refine y_if_eq (tgt := 50) C (a' := zm x31.1) rfl dX8_fixed_34 (by decide) (fun hc => ?_) (fun hc => ?_)
        · rw [if_pos hc] at h
          refine y_ldc C (z := (-1000000002)) wd_1030 (by decide) dX8_fixed_50 ?_
          exact y_iret C hw h dX8_fixed_52
        · rw [if_neg hc] at h
          refine y_iload C dX8_fixed_37 (lv_at hl 5 rfl) ?_
          refine y_i2l C rfl dX8_fixed_39 ?_
          refine y_lconst C (z' := 0) dX8_fixed_40 (by decide) ?_
          refine y_iload C dX8_fixed_41 (lv_at hl 4 rfl) ?_
          refine y_i2l C rfl dX8_fixed_43 ?_
          obtain ⟨x44, hc44, h⟩ := bd_some h
          refine y_ci (rest := []) hw (y_rS C hw (c_X8_within  hc44) mi_X8_within wd_1027 wd_1028 rfl ⟨by decide, by decide⟩ hl rfl (Nat.le_of_ble_eq_true rfl) dX8_fixed_44) (fun H locs hw => ?_)
          refine y_if_ne (tgt := 53) C (a' := zm x44.1) rfl dX8_fixed_47 (by decide) (fun hc => ?_) (fun hc => ?_)
          · rw [if_pos hc] at h
            refine y_ldc C (z := (-1000000002)) wd_1030 (by decide) dX8_fixed_50 ?_
            exact y_iret C hw h dX8_fixed_52
          · rw [if_neg hc] at h
            refine y_aload_n C dX8_fixed_53 (lv_at hl 0 rfl) ?_
            refine y_iload_n C dX8_fixed_54 (lv_at hl 2 rfl) ?_
            refine y_iload_n C dX8_fixed_55 (lv_at hl 3 rfl) ?_
            refine y_iload_n C dX8_fixed_56 (lv_at hl 1 rfl) ?_
            refine y_iload C dX8_fixed_57 (lv_at hl 4 rfl) ?_
            obtain ⟨x59, hc59, h⟩ := bd_some h
            refine y_cv (rest := []) hw (y_rV C hw km_0 (by decide) rfl rfl (c_X8_work  hc59) mi_X8_work wd_1172 wd_1174 ws_44 rfl ⟨by decide, by decide⟩ hl rfl (Nat.le_of_ble_eq_true rfl) dX8_fixed_59) (fun H locs hw => ?_)
            refine y_aload_n C dX8_fixed_62 (lv_at hl 0 rfl) ?_
            refine g8 C hw km_0 26 (by decide) wd_897 rfl dX8_fixed_63 ?_
            refine y_bipush C dX8_fixed_66 (by decide) ?_
            refine y_iload C dX8_fixed_68 (lv_at hl 5 rfl) ?_
            refine y_imul C dX8_fixed_70 ?_
            refine y_iload C dX8_fixed_71 (lv_at hl 6 rfl) ?_
            refine y_iadd C dX8_fixed_73 ?_
            obtain ⟨hg74, h⟩ := gd_some h
            refine y_iald C hw km_16 (i' := zm ((10 * v5) + v6)) rfl hg74 dX8_fixed_74 ?_
            exact y_iret C hw h dX8_fixed_75
theorem c_X8_fixed {l : Launch} {D : va_G} {cA : Nat → ClassId} {adK adV : Nat → Nat} {A : Nat → Prop} {ad : Int → Nat} {R : va_W} {σ : St} {res : Int × St} {v1 : Int} {v2 : Int} {v3 : Int} {v4 : Int} {v5 : Int} {v6 : Int}  (h : p_X8_fixed v1 v2 v3 v4 v5 v6 σ = some res) : Met l yX8_fixed (wsU yX8_fixed cX8_fixed 7 (some .int)) (rmU 5 136) (va_Pc [.ref (ad 0), .int (zI v1), .int (zI v2), .int (zI v3), .int (zI v4), .int (zI v5), .int (zI v6)] (Pr D cA adK adV ad kM 31 R A σ)) (QI D cA ad kM 31 R A res) 0 0 A :=
  y_met (own := RX8) (by decide) rfl _ (Nat.le_of_ble_eq_true rfl) (fun p e s m args below meth c ls C hl hw => k_X8_fixed_0 C  hw hl h)
/-! RungHouseModel.scrape -/
set_option maxRecDepth 100000 in
set_option maxHeartbeats 4000000 in
theorem k_X8_scrape_52  {v1 : Int} {v2 : Int} {v3 : Int} (C : Cx cX8_scrape RX8 4 (some .int) D cA adK adV A p s m args meth c)  {σ : St} {H : Heap} {locs : List Loc} {ls : Array Slot}  (hw : At D cA ad kM 31 R A s σ H locs) (hl : lv_has ls 4 [(0, .ref (ad 0)), (1, .int (zI v1)), (2, .int (zI v2)), (3, .int (zI v3))]) (h : p_X8_scrape_52  v1 v2 v3 σ = some res) : W p l e (rmU 1 25) s m args below meth c H locs 0 0 (MQ below (QI D cA ad kM 31 R A res) args s 0 0 A) (F0 m 52 ls []) := by
  have h := h
  unfold p_X8_scrape_52 at h
  refine y_aload_n C dX8_scrape_52 (lv_at hl 0 rfl) ?_
  refine g8 C hw km_0 33 (by decide) wd_904 rfl dX8_scrape_53 ?_
  refine y_bipush C dX8_scrape_56 (by decide) ?_
  refine y_icmp_ne (tgt := 64) C (a' := zm (σ 0 33)) (b' := 24) rfl (by decide) dX8_scrape_58 (by decide) (fun hc => ?_) (fun hc => ?_)
  · rw [if_pos hc] at h
    refine y_ldc C (z := (-1000000004)) wd_1031 (by decide) dX8_scrape_61 ?_
    exact y_iret C hw h dX8_scrape_63
  · rw [if_neg hc] at h
    refine y_aload_n C dX8_scrape_64 (lv_at hl 0 rfl) ?_
    refine g8 C hw km_0 34 (by decide) wd_905 rfl dX8_scrape_65 ?_
    refine y_aload_n C dX8_scrape_68 (lv_at hl 0 rfl) ?_
    refine g8 C hw km_0 33 (by decide) wd_904 rfl dX8_scrape_69 ?_
    refine y_iload_n C dX8_scrape_72 (lv_at hl 1 rfl) ?_
    obtain ⟨hg73, h⟩ := gd_some h
    obtain ⟨σ73, eσ73, h⟩ := nx_some h
    refine y_iast C hw km_18 (i' := zm (σ 0 33)) rfl hg73 dX8_scrape_73 (fun H locs hw => ?_)
    rw [← eσ73] at hw
    refine y_aload_n C dX8_scrape_74 (lv_at hl 0 rfl) ?_
    refine g8 C hw km_0 35 (by decide) wd_906 rfl dX8_scrape_75 ?_
    refine y_aload_n C dX8_scrape_78 (lv_at hl 0 rfl) ?_
    refine g8 C hw km_0 33 (by decide) wd_904 rfl dX8_scrape_79 ?_
    refine y_iload_n C dX8_scrape_82 (lv_at hl 2 rfl) ?_
    obtain ⟨hg83, h⟩ := gd_some h
    obtain ⟨σ83, eσ83, h⟩ := nx_some h
    refine y_iast C hw km_19 (i' := zm (σ73 0 33)) rfl hg83 dX8_scrape_83 (fun H locs hw => ?_)
    rw [← eσ83] at hw
    refine y_aload_n C dX8_scrape_84 (lv_at hl 0 rfl) ?_
    refine g8 C hw km_0 36 (by decide) wd_907 rfl dX8_scrape_85 ?_
    refine y_aload_n C dX8_scrape_88 (lv_at hl 0 rfl) ?_
    refine g8 C hw km_0 33 (by decide) wd_904 rfl dX8_scrape_89 ?_
    refine y_iload_n C dX8_scrape_92 (lv_at hl 3 rfl) ?_
    obtain ⟨hg93, h⟩ := gd_some h
    obtain ⟨hb93, h⟩ := gd_some h
    obtain ⟨σ93, eσ93, h⟩ := nx_some h
    refine y_zast C hw km_20 (i' := zm (σ83 0 33)) rfl hg93 hb93 dX8_scrape_93 (fun H locs hw => ?_)
    rw [← eσ93] at hw
    refine y_aload_n C dX8_scrape_94 (lv_at hl 0 rfl) ?_
    refine y_dup C dX8_scrape_95 rfl ?_
    refine g8 C hw km_0 33 (by decide) wd_904 rfl dX8_scrape_96 ?_
    refine y_iconst C dX8_scrape_99 ?_
    refine y_iadd C dX8_scrape_100 ?_
    obtain ⟨σ101, eσ101, h⟩ := nx_some h
    refine q8 C hw km_0 33 (by decide) wd_904 rfl rfl rfl (by decide) ((σ93 0 33) + 1) 33 rfl rfl dX8_scrape_101 (fun H locs hw => ?_)
    rw [← eσ101] at hw
    refine y_aload_n C dX8_scrape_104 (lv_at hl 0 rfl) ?_
    refine g8 C hw km_0 33 (by decide) wd_904 rfl dX8_scrape_105 ?_
    exact y_iret C hw h dX8_scrape_108
set_option maxRecDepth 100000 in
set_option maxHeartbeats 4000000 in
theorem k_X8_scrape_0  {v1 : Int} {v2 : Int} {v3 : Int} (C : Cx cX8_scrape RX8 4 (some .int) D cA adK adV A p s m args meth c)  {σ : St} {H : Heap} {locs : List Loc} {ls : Array Slot}  (hw : At D cA ad kM 31 R A s σ H locs) (hl : lv_has ls 4 [(0, .ref (ad 0)), (1, .int (zI v1)), (2, .int (zI v2)), (3, .int (zI v3))]) (h : p_X8_scrape  v1 v2 v3 σ = some res) : W p l e (rmU 1 25) s m args below meth c H locs 0 0 (MQ below (QI D cA ad kM 31 R A res) args s 0 0 A) (F0 m 0 ls []) := by
  have h := h
  unfold p_X8_scrape at h
  refine y_iload_n C dX8_scrape_0 (lv_at hl 1 rfl) ?_
  refine y_i2l C rfl dX8_scrape_1 ?_
  refine y_lconst C (z' := 0) dX8_scrape_2 (by decide) ?_
  refine y_ldc2 C (z := 11) wd_1237 (by decide) dX8_scrape_3 ?_
  obtain ⟨x6, hc6, h⟩ := bd_some h
  refine y_ci (rest := []) hw (y_rS C hw (c_X8_within  hc6) mi_X8_within wd_1027 wd_1028 rfl ⟨by decide, by decide⟩ hl rfl (Nat.le_of_ble_eq_true rfl) dX8_scrape_6) (fun H locs hw => ?_)
  refine y_if_eq (tgt := 24) C (a' := zm x6.1) rfl dX8_scrape_9 (by decide) (fun hc => ?_) (fun hc => ?_)
  · rw [if_pos hc] at h
    refine y_ldc C (z := (-1000000002)) wd_1030 (by decide) dX8_scrape_24 ?_
    exact y_iret C hw h dX8_scrape_26
  · rw [if_neg hc] at h
    refine y_iload_n C dX8_scrape_12 (lv_at hl 2 rfl) ?_
    refine y_i2l C rfl dX8_scrape_13 ?_
    refine y_lconst C (z' := 1) dX8_scrape_14 (by decide) ?_
    refine y_ldc2 C (z := 999) wd_1250 (by decide) dX8_scrape_15 ?_
    obtain ⟨x18, hc18, h⟩ := bd_some h
    refine y_ci (rest := []) hw (y_rS C hw (c_X8_within  hc18) mi_X8_within wd_1027 wd_1028 rfl ⟨by decide, by decide⟩ hl rfl (Nat.le_of_ble_eq_true rfl) dX8_scrape_18) (fun H locs hw => ?_)
    refine y_if_ne (tgt := 27) C (a' := zm x18.1) rfl dX8_scrape_21 (by decide) (fun hc => ?_) (fun hc => ?_)
    · rw [if_pos hc] at h
      refine y_ldc C (z := (-1000000002)) wd_1030 (by decide) dX8_scrape_24 ?_
      exact y_iret C hw h dX8_scrape_26
    · rw [if_neg hc] at h
      refine y_aload_n C dX8_scrape_27 (lv_at hl 0 rfl) ?_
      refine g8 C hw km_0 33 (by decide) wd_904 rfl dX8_scrape_28 ?_
      refine y_if_le (tgt := 52) C (a' := zm (x18.2 0 33)) rfl dX8_scrape_31 (by decide) (fun hc => ?_) (fun hc => ?_)
      · rw [if_pos hc] at h
        exact k_X8_scrape_52 C   hw hl h
      · rw [if_neg hc] at h
        refine y_iload_n C dX8_scrape_34 (lv_at hl 1 rfl) ?_
        refine y_aload_n C dX8_scrape_35 (lv_at hl 0 rfl) ?_
        refine g8 C hw km_0 34 (by decide) wd_905 rfl dX8_scrape_36 ?_
        refine y_aload_n C dX8_scrape_39 (lv_at hl 0 rfl) ?_
        refine g8 C hw km_0 33 (by decide) wd_904 rfl dX8_scrape_40 ?_
        refine y_iconst C dX8_scrape_43 ?_
        refine y_isub C dX8_scrape_44 ?_
        obtain ⟨hg45, h⟩ := gd_some h
        refine y_iald C hw km_18 (i' := zm ((x18.2 0 33) - 1)) rfl hg45 dX8_scrape_45 ?_
        refine y_icmp_gt (tgt := 52) C (a' := zm v1) (b' := zm (x18.2 18 (zm ((x18.2 0 33) - 1)))) rfl rfl dX8_scrape_46 (by decide) (fun hc => ?_) (fun hc => ?_)
        · rw [if_pos hc] at h
          exact k_X8_scrape_52 C   hw hl h
        · rw [if_neg hc] at h
          refine y_ldc C (z := (-1000000003)) wd_1121 (by decide) dX8_scrape_49 ?_
          exact y_iret C hw h dX8_scrape_51
theorem c_X8_scrape {l : Launch} {D : va_G} {cA : Nat → ClassId} {adK adV : Nat → Nat} {A : Nat → Prop} {ad : Int → Nat} {R : va_W} {σ : St} {res : Int × St} {v1 : Int} {v2 : Int} {v3 : Int}  (h : p_X8_scrape v1 v2 v3 σ = some res) : Met l yX8_scrape (wsU yX8_scrape cX8_scrape 4 (some .int)) (rmU 1 25) (va_Pc [.ref (ad 0), .int (zI v1), .int (zI v2), .int (zI v3)] (Pr D cA adK adV ad kM 31 R A σ)) (QI D cA ad kM 31 R A res) 0 0 A :=
  y_met (own := RX8) (by decide) rfl _ (Nat.le_of_ble_eq_true rfl) (fun p e s m args below meth c ls C hl hw => k_X8_scrape_0 C  hw hl h)
/-! RungHouseModel.judge -/
set_option maxRecDepth 100000 in
set_option maxHeartbeats 4000000 in
theorem k_X8_judge_116 {K48 : Int → Int → Int → Int → St → Option (Int × St)} {v4 : Int} {v5 : Int} {v7 : Int} {vs0 : Int} (C : Cx cX8_judge RX8 8 (some .int) D cA adK adV A p s m args meth c) (hK48 : ∀ (v4 : Int) (v5 : Int) (v6 : Int) (v7 : Int) (σ : St) (H : Heap) (locs : List Loc) (ls : Array Slot) , At D cA ad kM 31 R A s σ H locs → lv_has ls 8 [(0, .ref (ad 0)), (4, .int (zI v4)), (5, .int (zI v5)), (6, .int (zI v6)), (7, .int (zI v7))] → K48 v4 v5 v6 v7 σ = some res → W p l e (rmU 5 136) s m args below meth c H locs 0 0 (MQ below (QI D cA ad kM 31 R A res) args s 0 0 A) (F0 m 48 ls [])) {σ : St} {H : Heap} {locs : List Loc} {ls : Array Slot}  (hw : At D cA ad kM 31 R A s σ H locs) (hl : lv_has ls 8 [(0, .ref (ad 0)), (4, .int (zI v4)), (5, .int (zI v5)), (7, .int (zI v7))]) (h : p_X8_judge_116 K48 v4 v5 v7 vs0 σ = some res) : W p l e (rmU 5 136) s m args below meth c H locs 0 0 (MQ below (QI D cA ad kM 31 R A res) args s 0 0 A) (F0 m 116 ls [.int (zI vs0)]) := by
  have h := h
  unfold p_X8_judge_116 at h
  refine y_istore (lv' := [(6, .int (zI vs0)), (0, .ref (ad 0)), (4, .int (zI v4)), (5, .int (zI v5)), (7, .int (zI v7))]) C dX8_judge_116 hl (by decide) rfl (fun ls hl => ?_)
  refine y_iinc (lv' := [(7, .int (zI (v7 + 1))), (6, .int (zI vs0)), (0, .ref (ad 0)), (4, .int (zI v4)), (5, .int (zI v5))]) C dX8_judge_118 hl (k := 4) rfl (by decide) rfl (fun ls hl => ?_)
  refine y_goto (tgt := 48) C dX8_judge_121 (by decide) ?_
  exact hK48 _ _ _ _ _ _ _ _  hw (lv_sub hl [2, 3, 4, 1, 0] rfl) h
set_option maxRecDepth 100000 in
set_option maxHeartbeats 4000000 in
theorem k_X8_judge_48b {K48 : Int → Int → Int → Int → St → Option (Int × St)} {v4 : Int} {v5 : Int} {v6 : Int} {v7 : Int} (C : Cx cX8_judge RX8 8 (some .int) D cA adK adV A p s m args meth c)  (hK48 : ∀ (v4 : Int) (v5 : Int) (v6 : Int) (v7 : Int) (σ : St) (H : Heap) (locs : List Loc) (ls : Array Slot) , At D cA ad kM 31 R A s σ H locs → lv_has ls 8 [(0, .ref (ad 0)), (4, .int (zI v4)), (5, .int (zI v5)), (6, .int (zI v6)), (7, .int (zI v7))] → K48 v4 v5 v6 v7 σ = some res → W p l e (rmU 5 136) s m args below meth c H locs 0 0 (MQ below (QI D cA ad kM 31 R A res) args s 0 0 A) (F0 m 48 ls [])) {σ : St} {H : Heap} {locs : List Loc} {ls : Array Slot}  (hw : At D cA ad kM 31 R A s σ H locs) (hl : lv_has ls 8 [(0, .ref (ad 0)), (4, .int (zI v4)), (5, .int (zI v5)), (6, .int (zI v6)), (7, .int (zI v7))]) (h : p_X8_judge_48b K48 v4 v5 v6 v7 σ = some res) : W p l e (rmU 5 136) s m args below meth c H locs 0 0 (MQ below (QI D cA ad kM 31 R A res) args s 0 0 A) (F0 m 48 ls []) := by
  have h := h
  unfold p_X8_judge_48b at h
  refine y_iload C dX8_judge_48 (lv_at hl 4 rfl) ?_
  refine y_aload_n C dX8_judge_50 (lv_at hl 0 rfl) ?_
  refine g8 C hw km_0 33 (by decide) wd_904 rfl dX8_judge_51 ?_
  refine y_icmp_ge (tgt := 124) C (a' := zm v7) (b' := zm (σ 0 33)) rfl rfl dX8_judge_54 (by decide) (fun hc => ?_) (fun hc => ?_)
  · rw [if_pos hc] at h
    refine y_iconst C dX8_judge_124 ?_
    exact y_iret C hw h dX8_judge_125
  · rw [if_neg hc] at h
    refine y_aload_n C dX8_judge_57 (lv_at hl 0 rfl) ?_
    refine y_iconst C dX8_judge_58 ?_
    refine y_iload C dX8_judge_59 (lv_at hl 1 rfl) ?_
    refine y_iload C dX8_judge_61 (lv_at hl 2 rfl) ?_
    refine y_aload_n C dX8_judge_63 (lv_at hl 0 rfl) ?_
    refine g8 C hw km_0 34 (by decide) wd_905 rfl dX8_judge_64 ?_
    refine y_iload C dX8_judge_67 (lv_at hl 4 rfl) ?_
    obtain ⟨hg69, h⟩ := gd_some h
    refine y_iald C hw km_18 (i' := zm v7) rfl hg69 dX8_judge_69 ?_
    refine y_iload C dX8_judge_70 (lv_at hl 3 rfl) ?_
    refine y_aload_n C dX8_judge_72 (lv_at hl 0 rfl) ?_
    refine g8 C hw km_0 35 (by decide) wd_906 rfl dX8_judge_73 ?_
    refine y_iload C dX8_judge_76 (lv_at hl 4 rfl) ?_
    refine y_iald C hw km_19 (i' := zm v7) rfl hg69 dX8_judge_78 ?_
    obtain ⟨x79, hc79, h⟩ := bd_some h
    refine y_ci (rest := []) hw (y_rV C hw km_0 (by decide) rfl rfl (c_X8_asks  hc79) mi_X8_asks wd_1184 wd_1186 ws_46 rfl ⟨by decide, by decide⟩ hl rfl (Nat.le_of_ble_eq_true rfl) dX8_judge_79) (fun H locs hw => ?_)
    refine y_aload_n C dX8_judge_82 (lv_at hl 0 rfl) ?_
    refine g8 C hw km_0 36 (by decide) wd_907 rfl dX8_judge_83 ?_
    refine y_iload C dX8_judge_86 (lv_at hl 4 rfl) ?_
    refine y_zald C hw km_20 (i' := zm v7) rfl hg69 dX8_judge_88 ?_
    refine y_icmp_eq (tgt := 95) C (a' := zm x79.1) (b' := zm (x79.2 20 (zm v7))) rfl rfl dX8_judge_89 (by decide) (fun hc => ?_) (fun hc => ?_)
    · rw [if_pos hc] at h
      refine y_aload_n C dX8_judge_95 (lv_at hl 0 rfl) ?_
      refine g8 C hw km_0 36 (by decide) wd_907 rfl dX8_judge_96 ?_
      refine y_iload C dX8_judge_99 (lv_at hl 4 rfl) ?_
      refine y_zald C hw km_20 (i' := zm v7) rfl hg69 dX8_judge_101 ?_
      refine y_if_eq (tgt := 114) C (a' := zm (x79.2 20 (zm v7))) rfl dX8_judge_102 (by decide) (fun hc => ?_) (fun hc => ?_)
      · rw [if_pos hc] at h
        refine y_iload C dX8_judge_114 (lv_at hl 3 rfl) ?_
        exact k_X8_judge_116 C hK48  hw (lv_sub hl [0, 1, 2, 4] rfl) h
      · rw [if_neg hc] at h
        refine y_aload_n C dX8_judge_105 (lv_at hl 0 rfl) ?_
        refine y_iload C dX8_judge_106 (lv_at hl 3 rfl) ?_
        obtain ⟨x108, hc108, h⟩ := bd_some h
        refine y_ci (rest := []) hw (y_rV C hw km_0 (by decide) rfl rfl (c_X8_more  hc108) mi_X8_more wd_1196 wd_1198 ws_49 rfl ⟨by decide, by decide⟩ hl rfl (Nat.le_of_ble_eq_true rfl) dX8_judge_108) (fun H locs hw => ?_)
        refine y_goto (tgt := 116) C dX8_judge_111 (by decide) ?_
        exact k_X8_judge_116 C hK48  hw (lv_sub hl [0, 1, 2, 4] rfl) h
    · rw [if_neg hc] at h
      refine y_iload C dX8_judge_92 (lv_at hl 4 rfl) ?_
      exact y_iret C hw h dX8_judge_94
set_option maxRecDepth 100000 in
theorem k_X8_judge_48  (C : Cx cX8_judge RX8 8 (some .int) D cA adK adV A p s m args meth c)  : ∀ (n : Nat) (v4 : Int) (v5 : Int) (v6 : Int) (v7 : Int) (σ : St) (H : Heap) (locs : List Loc) (ls : Array Slot) , At D cA ad kM 31 R A s σ H locs → lv_has ls 8 [(0, .ref (ad 0)), (4, .int (zI v4)), (5, .int (zI v5)), (6, .int (zI v6)), (7, .int (zI v7))] → p_X8_judge_48  n v4 v5 v6 v7 σ = some res → W p l e (rmU 5 136) s m args below meth c H locs 0 0 (MQ below (QI D cA ad kM 31 R A res) args s 0 0 A) (F0 m 48 ls []) := by
  intro n
  induction n with
  | zero =>
    intro v4 v5 v6 v7 σ H locs ls  hw hl h
    have h : none = some res := h
    cases h
  | succ n ih =>
    intro v4 v5 v6 v7 σ H locs ls  hw hl h
    exact k_X8_judge_48b C  ih  hw hl h
set_option maxRecDepth 100000 in
set_option maxHeartbeats 4000000 in
theorem k_X8_judge_0  {v1 : Int} {v2 : Int} {v3 : Int} {v4 : Int} {v5 : Int} (C : Cx cX8_judge RX8 8 (some .int) D cA adK adV A p s m args meth c)  {σ : St} {H : Heap} {locs : List Loc} {ls : Array Slot}  (hw : At D cA ad kM 31 R A s σ H locs) (hl : lv_has ls 8 [(0, .ref (ad 0)), (1, .int (zI v1)), (2, .int (zI v2)), (3, .int (zI v3)), (4, .int (zI v4)), (5, .int (zI v5))]) (h : p_X8_judge  v1 v2 v3 v4 v5 σ = some res) : W p l e (rmU 5 136) s m args below meth c H locs 0 0 (MQ below (QI D cA ad kM 31 R A res) args s 0 0 A) (F0 m 0 ls []) := by
  have h := h
  unfold p_X8_judge at h
  refine y_aload_n C dX8_judge_0 (lv_at hl 0 rfl) ?_
  refine y_iload_n C dX8_judge_1 (lv_at hl 1 rfl) ?_
  obtain ⟨x2, hc2, h⟩ := bd_some h
  refine y_ci (rest := []) hw (y_rV C hw km_0 (by decide) rfl rfl (c_X8_isSort  hc2) mi_X8_isSort wd_1138 wd_1140 ws_39 rfl ⟨by decide, by decide⟩ hl rfl (Nat.le_of_ble_eq_true rfl) dX8_judge_2) (fun H locs hw => ?_)
  refine y_if_eq (tgt := 18) C (a' := zm x2.1) rfl dX8_judge_5 (by decide) (fun hc => ?_) (fun hc => ?_)
  · rw [if_pos hc] at h
    refine y_ldc C (z := (-1000000001)) wd_1037 (by decide) dX8_judge_18 ?_
    exact y_iret C hw h dX8_judge_20
  · rw [if_neg hc] at h
    refine y_aload_n C dX8_judge_8 (lv_at hl 0 rfl) ?_
    refine y_iload_n C dX8_judge_9 (lv_at hl 2 rfl) ?_
    refine y_iload C dX8_judge_10 (lv_at hl 5 rfl) ?_
    obtain ⟨x12, hc12, h⟩ := bd_some h
    refine y_ci (rest := []) hw (y_rV C hw km_0 (by decide) rfl rfl (c_X8_isRung  hc12) mi_X8_isRung wd_1104 wd_1106 ws_34 rfl ⟨by decide, by decide⟩ hl rfl (Nat.le_of_ble_eq_true rfl) dX8_judge_12) (fun H locs hw => ?_)
    refine y_if_ne (tgt := 21) C (a' := zm x12.1) rfl dX8_judge_15 (by decide) (fun hc => ?_) (fun hc => ?_)
    · rw [if_pos hc] at h
      refine y_ldc C (z := (-1000000001)) wd_1037 (by decide) dX8_judge_18 ?_
      exact y_iret C hw h dX8_judge_20
    · rw [if_neg hc] at h
      refine y_aload_n C dX8_judge_21 (lv_at hl 0 rfl) ?_
      refine y_iload_n C dX8_judge_22 (lv_at hl 3 rfl) ?_
      refine y_iload C dX8_judge_23 (lv_at hl 4 rfl) ?_
      obtain ⟨x25, hc25, h⟩ := bd_some h
      refine y_ci (rest := []) hw (y_rV C hw km_0 (by decide) rfl rfl (c_X8_isWhen  hc25) mi_X8_isWhen wd_1220 wd_1222 ws_54 rfl ⟨by decide, by decide⟩ hl rfl (Nat.le_of_ble_eq_true rfl) dX8_judge_25) (fun H locs hw => ?_)
      refine y_if_ne (tgt := 34) C (a' := zm x25.1) rfl dX8_judge_28 (by decide) (fun hc => ?_) (fun hc => ?_)
      · rw [if_pos hc] at h
        refine y_ldc C (z := (-1000000002)) wd_1030 (by decide) dX8_judge_31 ?_
        exact y_iret C hw h dX8_judge_33
      · rw [if_neg hc] at h
        refine y_aload_n C dX8_judge_34 (lv_at hl 0 rfl) ?_
        refine y_iload_n C dX8_judge_35 (lv_at hl 1 rfl) ?_
        refine y_iload_n C dX8_judge_36 (lv_at hl 2 rfl) ?_
        refine y_iconst C dX8_judge_37 ?_
        refine y_iload_n C dX8_judge_38 (lv_at hl 3 rfl) ?_
        obtain ⟨x39, hc39, h⟩ := bd_some h
        refine y_cv (rest := []) hw (y_rV C hw km_0 (by decide) rfl rfl (c_X8_work  hc39) mi_X8_work wd_1172 wd_1174 ws_44 rfl ⟨by decide, by decide⟩ hl rfl (Nat.le_of_ble_eq_true rfl) dX8_judge_39) (fun H locs hw => ?_)
        refine y_iconst C dX8_judge_42 ?_
        refine y_istore (lv' := [(6, .int (zI 0)), (0, .ref (ad 0)), (1, .int (zI v1)), (2, .int (zI v2)), (3, .int (zI v3)), (4, .int (zI v4)), (5, .int (zI v5))]) C dX8_judge_43 hl (by decide) rfl (fun ls hl => ?_)
        refine y_iconst C dX8_judge_45 ?_
        refine y_istore (lv' := [(7, .int (zI 0)), (6, .int (zI 0)), (0, .ref (ad 0)), (1, .int (zI v1)), (2, .int (zI v2)), (3, .int (zI v3)), (4, .int (zI v4)), (5, .int (zI v5))]) C dX8_judge_46 hl (by decide) rfl (fun ls hl => ?_)
        exact k_X8_judge_48 C  FU _ _ _ _ _ _ _ _  hw (lv_sub hl [2, 6, 7, 1, 0] rfl) h
theorem c_X8_judge {l : Launch} {D : va_G} {cA : Nat → ClassId} {adK adV : Nat → Nat} {A : Nat → Prop} {ad : Int → Nat} {R : va_W} {σ : St} {res : Int × St} {v1 : Int} {v2 : Int} {v3 : Int} {v4 : Int} {v5 : Int}  (h : p_X8_judge v1 v2 v3 v4 v5 σ = some res) : Met l yX8_judge (wsU yX8_judge cX8_judge 8 (some .int)) (rmU 5 136) (va_Pc [.ref (ad 0), .int (zI v1), .int (zI v2), .int (zI v3), .int (zI v4), .int (zI v5)] (Pr D cA adK adV ad kM 31 R A σ)) (QI D cA ad kM 31 R A res) 0 0 A :=
  y_met (own := RX8) (by decide) rfl _ (Nat.le_of_ble_eq_true rfl) (fun p e s m args below meth c ls C hl hw => k_X8_judge_0 C  hw hl h)
/-! RungHouseModel.liveYear -/
set_option maxRecDepth 100000 in
set_option maxHeartbeats 4000000 in
theorem k_X8_liveYear_254b {K52 : Int → Int → Int → St → Option (Int × St)} {K254 : Int → Int → Int → Int → St → Option (Int × St)} {v1 : Int} {v2 : Int} {v3 : Int} {v4 : Int} (C : Cx cX8_liveYear RX8 12 none D cA adK adV A p s m args meth c) (hK52 : ∀ (v1 : Int) (v2 : Int) (v3 : Int) (σ : St) (H : Heap) (locs : List Loc) (ls : Array Slot) , At D cA ad kM 31 R A s σ H locs → lv_has ls 12 [(0, .ref (ad 0)), (1, .int (zI v1)), (2, .int (zI v2)), (3, .int (zI v3))] → K52 v1 v2 v3 σ = some res → W p l e (rmU 3 78) s m args below meth c H locs 0 0 (MQ below (QV D cA ad kM 31 R A res) args s 0 0 A) (F0 m 52 ls [])) (hK254 : ∀ (v1 : Int) (v2 : Int) (v3 : Int) (v4 : Int) (σ : St) (H : Heap) (locs : List Loc) (ls : Array Slot) , At D cA ad kM 31 R A s σ H locs → lv_has ls 12 [(0, .ref (ad 0)), (1, .int (zI v1)), (2, .int (zI v2)), (3, .int (zI v3)), (4, .int (zI v4))] → K254 v1 v2 v3 v4 σ = some res → W p l e (rmU 3 78) s m args below meth c H locs 0 0 (MQ below (QV D cA ad kM 31 R A res) args s 0 0 A) (F0 m 254 ls [])) {σ : St} {H : Heap} {locs : List Loc} {ls : Array Slot}  (hw : At D cA ad kM 31 R A s σ H locs) (hl : lv_has ls 12 [(0, .ref (ad 0)), (1, .int (zI v1)), (2, .int (zI v2)), (3, .int (zI v3)), (4, .int (zI v4))]) (h : p_X8_liveYear_254b K52 K254 v1 v2 v3 v4 σ = some res) : W p l e (rmU 3 78) s m args below meth c H locs 0 0 (MQ below (QV D cA ad kM 31 R A res) args s 0 0 A) (F0 m 254 ls []) := by
  have h := h
  unfold p_X8_liveYear_254b at h
  refine y_iload C dX8_liveYear_254 (lv_at hl 4 rfl) ?_
  refine y_if_lt (tgt := 301) C (a' := zm v4) rfl dX8_liveYear_256 (by decide) (fun hc => ?_) (fun hc => ?_)
  · rw [if_pos hc] at h
    refine y_iinc (lv' := [(3, .int (zI (v3 + 1))), (0, .ref (ad 0)), (1, .int (zI v1)), (2, .int (zI v2)), (4, .int (zI v4))]) C dX8_liveYear_301 hl (k := 3) rfl (by decide) rfl (fun ls hl => ?_)
    refine y_goto (tgt := 52) C dX8_liveYear_304 (by decide) ?_
    exact hK52 _ _ _ _ _ _ _  hw (lv_sub hl [1, 2, 3, 0] rfl) h
  · rw [if_neg hc] at h
    refine y_aload_n C dX8_liveYear_259 (lv_at hl 0 rfl) ?_
    refine g8 C hw km_0 37 (by decide) wd_908 rfl dX8_liveYear_260 ?_
    refine y_iload C dX8_liveYear_263 (lv_at hl 4 rfl) ?_
    refine y_dup2 C dX8_liveYear_265 rfl rfl ?_
    obtain ⟨hg266, h⟩ := gd_some h
    refine y_iald C hw km_21 (i' := zm v4) rfl hg266 dX8_liveYear_266 ?_
    refine y_aload_n C dX8_liveYear_267 (lv_at hl 0 rfl) ?_
    refine g8 C hw km_0 38 (by decide) wd_909 rfl dX8_liveYear_268 ?_
    refine y_iload C dX8_liveYear_271 (lv_at hl 4 rfl) ?_
    refine y_iald C hw km_22 (i' := zm v4) rfl hg266 dX8_liveYear_273 ?_
    refine y_isub C dX8_liveYear_274 ?_
    obtain ⟨σ275, eσ275, h⟩ := nx_some h
    refine y_iast C hw km_21 (i' := zm v4) rfl hg266 dX8_liveYear_275 (fun H locs hw => ?_)
    rw [← eσ275] at hw
    refine y_aload_n C dX8_liveYear_276 (lv_at hl 0 rfl) ?_
    refine g8 C hw km_0 37 (by decide) wd_908 rfl dX8_liveYear_277 ?_
    refine y_iload C dX8_liveYear_280 (lv_at hl 4 rfl) ?_
    refine y_iconst C dX8_liveYear_282 ?_
    refine y_iadd C dX8_liveYear_283 ?_
    refine y_dup2 C dX8_liveYear_284 rfl rfl ?_
    obtain ⟨hg285, h⟩ := gd_some h
    refine y_iald C hw km_21 (i' := zm (v4 + 1)) rfl hg285 dX8_liveYear_285 ?_
    refine y_aload_n C dX8_liveYear_286 (lv_at hl 0 rfl) ?_
    refine g8 C hw km_0 38 (by decide) wd_909 rfl dX8_liveYear_287 ?_
    refine y_iload C dX8_liveYear_290 (lv_at hl 4 rfl) ?_
    refine y_iald C hw km_22 (i' := zm v4) rfl hg266 dX8_liveYear_292 ?_
    refine y_iadd C dX8_liveYear_293 ?_
    obtain ⟨σ294, eσ294, h⟩ := nx_some h
    refine y_iast C hw km_21 (i' := zm (v4 + 1)) rfl hg285 dX8_liveYear_294 (fun H locs hw => ?_)
    rw [← eσ294] at hw
    refine y_iinc (lv' := [(4, .int (zI (v4 + (-1)))), (0, .ref (ad 0)), (1, .int (zI v1)), (2, .int (zI v2)), (3, .int (zI v3))]) C dX8_liveYear_295 hl (k := 4) rfl (by decide) rfl (fun ls hl => ?_)
    refine y_goto (tgt := 254) C dX8_liveYear_298 (by decide) ?_
    exact hK254 _ _ _ _ _ _ _ _  hw (lv_sub hl [1, 2, 3, 4, 0] rfl) h
set_option maxRecDepth 100000 in
theorem k_X8_liveYear_254 {K52 : Int → Int → Int → St → Option (Int × St)} (C : Cx cX8_liveYear RX8 12 none D cA adK adV A p s m args meth c) (hK52 : ∀ (v1 : Int) (v2 : Int) (v3 : Int) (σ : St) (H : Heap) (locs : List Loc) (ls : Array Slot) , At D cA ad kM 31 R A s σ H locs → lv_has ls 12 [(0, .ref (ad 0)), (1, .int (zI v1)), (2, .int (zI v2)), (3, .int (zI v3))] → K52 v1 v2 v3 σ = some res → W p l e (rmU 3 78) s m args below meth c H locs 0 0 (MQ below (QV D cA ad kM 31 R A res) args s 0 0 A) (F0 m 52 ls [])) : ∀ (n : Nat) (v1 : Int) (v2 : Int) (v3 : Int) (v4 : Int) (σ : St) (H : Heap) (locs : List Loc) (ls : Array Slot) , At D cA ad kM 31 R A s σ H locs → lv_has ls 12 [(0, .ref (ad 0)), (1, .int (zI v1)), (2, .int (zI v2)), (3, .int (zI v3)), (4, .int (zI v4))] → p_X8_liveYear_254 K52 n v1 v2 v3 v4 σ = some res → W p l e (rmU 3 78) s m args below meth c H locs 0 0 (MQ below (QV D cA ad kM 31 R A res) args s 0 0 A) (F0 m 254 ls []) := by
  intro n
  induction n with
  | zero =>
    intro v1 v2 v3 v4 σ H locs ls  hw hl h
    have h : none = some res := h
    cases h
  | succ n ih =>
    intro v1 v2 v3 v4 σ H locs ls  hw hl h
    exact k_X8_liveYear_254b C hK52 ih  hw hl h
set_option maxRecDepth 100000 in
set_option maxHeartbeats 4000000 in
theorem k_X8_liveYear_192 {K52 : Int → Int → Int → St → Option (Int × St)} {K61 : Int → Int → Int → Int → St → Option (Int × St)} {K76 : Int → Int → Int → Int → Int → Int → Int → St → Option (Int × St)} {v1 : Int} {v2 : Int} {v3 : Int} {v4 : Int} {v5 : Int} {v7 : Int} {v9 : Int} (C : Cx cX8_liveYear RX8 12 none D cA adK adV A p s m args meth c) (hK52 : ∀ (v1 : Int) (v2 : Int) (v3 : Int) (σ : St) (H : Heap) (locs : List Loc) (ls : Array Slot) , At D cA ad kM 31 R A s σ H locs → lv_has ls 12 [(0, .ref (ad 0)), (1, .int (zI v1)), (2, .int (zI v2)), (3, .int (zI v3))] → K52 v1 v2 v3 σ = some res → W p l e (rmU 3 78) s m args below meth c H locs 0 0 (MQ below (QV D cA ad kM 31 R A res) args s 0 0 A) (F0 m 52 ls [])) (hK61 : ∀ (v1 : Int) (v2 : Int) (v3 : Int) (v4 : Int) (σ : St) (H : Heap) (locs : List Loc) (ls : Array Slot) , At D cA ad kM 31 R A s σ H locs → lv_has ls 12 [(0, .ref (ad 0)), (1, .int (zI v1)), (2, .int (zI v2)), (3, .int (zI v3)), (4, .int (zI v4))] → K61 v1 v2 v3 v4 σ = some res → W p l e (rmU 3 78) s m args below meth c H locs 0 0 (MQ below (QV D cA ad kM 31 R A res) args s 0 0 A) (F0 m 61 ls [])) (hK76 : ∀ (v1 : Int) (v2 : Int) (v3 : Int) (v4 : Int) (v5 : Int) (v7 : Int) (v9 : Int) (σ : St) (H : Heap) (locs : List Loc) (ls : Array Slot) , At D cA ad kM 31 R A s σ H locs → lv_has ls 12 [(0, .ref (ad 0)), (1, .int (zI v1)), (2, .int (zI v2)), (3, .int (zI v3)), (4, .int (zI v4)), (5, .long (zJ v5)), (7, .long (zJ v7)), (9, .int (zI v9))] → K76 v1 v2 v3 v4 v5 v7 v9 σ = some res → W p l e (rmU 3 78) s m args below meth c H locs 0 0 (MQ below (QV D cA ad kM 31 R A res) args s 0 0 A) (F0 m 76 ls [])) {σ : St} {H : Heap} {locs : List Loc} {ls : Array Slot}  (hw : At D cA ad kM 31 R A s σ H locs) (hl : lv_has ls 12 [(0, .ref (ad 0)), (1, .int (zI v1)), (2, .int (zI v2)), (3, .int (zI v3)), (4, .int (zI v4)), (5, .long (zJ v5)), (7, .long (zJ v7)), (9, .int (zI v9))]) (h : p_X8_liveYear_192 K52 K61 K76 v1 v2 v3 v4 v5 v7 v9 σ = some res) : W p l e (rmU 3 78) s m args below meth c H locs 0 0 (MQ below (QV D cA ad kM 31 R A res) args s 0 0 A) (F0 m 192 ls []) := by
  have h := h
  unfold p_X8_liveYear_192 at h
  refine y_iinc (lv' := [(9, .int (zI (v9 + 1))), (0, .ref (ad 0)), (1, .int (zI v1)), (2, .int (zI v2)), (3, .int (zI v3)), (4, .int (zI v4)), (5, .long (zJ v5)), (7, .long (zJ v7))]) C dX8_liveYear_192 hl (k := 7) rfl (by decide) rfl (fun ls hl => ?_)
  refine y_goto (tgt := 76) C dX8_liveYear_195 (by decide) ?_
  exact hK76 _ _ _ _ _ _ _ _ _ _ _  hw (lv_sub hl [1, 2, 3, 4, 5, 6, 7, 0] rfl) h
set_option maxRecDepth 100000 in
set_option maxHeartbeats 4000000 in
theorem k_X8_liveYear_187 {K52 : Int → Int → Int → St → Option (Int × St)} {K61 : Int → Int → Int → Int → St → Option (Int × St)} {K76 : Int → Int → Int → Int → Int → Int → Int → St → Option (Int × St)} {v1 : Int} {v2 : Int} {v3 : Int} {v4 : Int} {v5 : Int} {v9 : Int} {vs0 : Int} {vs1 : Int} {vs2 : Int} (C : Cx cX8_liveYear RX8 12 none D cA adK adV A p s m args meth c) (hK52 : ∀ (v1 : Int) (v2 : Int) (v3 : Int) (σ : St) (H : Heap) (locs : List Loc) (ls : Array Slot) , At D cA ad kM 31 R A s σ H locs → lv_has ls 12 [(0, .ref (ad 0)), (1, .int (zI v1)), (2, .int (zI v2)), (3, .int (zI v3))] → K52 v1 v2 v3 σ = some res → W p l e (rmU 3 78) s m args below meth c H locs 0 0 (MQ below (QV D cA ad kM 31 R A res) args s 0 0 A) (F0 m 52 ls [])) (hK61 : ∀ (v1 : Int) (v2 : Int) (v3 : Int) (v4 : Int) (σ : St) (H : Heap) (locs : List Loc) (ls : Array Slot) , At D cA ad kM 31 R A s σ H locs → lv_has ls 12 [(0, .ref (ad 0)), (1, .int (zI v1)), (2, .int (zI v2)), (3, .int (zI v3)), (4, .int (zI v4))] → K61 v1 v2 v3 v4 σ = some res → W p l e (rmU 3 78) s m args below meth c H locs 0 0 (MQ below (QV D cA ad kM 31 R A res) args s 0 0 A) (F0 m 61 ls [])) (hK76 : ∀ (v1 : Int) (v2 : Int) (v3 : Int) (v4 : Int) (v5 : Int) (v7 : Int) (v9 : Int) (σ : St) (H : Heap) (locs : List Loc) (ls : Array Slot) , At D cA ad kM 31 R A s σ H locs → lv_has ls 12 [(0, .ref (ad 0)), (1, .int (zI v1)), (2, .int (zI v2)), (3, .int (zI v3)), (4, .int (zI v4)), (5, .long (zJ v5)), (7, .long (zJ v7)), (9, .int (zI v9))] → K76 v1 v2 v3 v4 v5 v7 v9 σ = some res → W p l e (rmU 3 78) s m args below meth c H locs 0 0 (MQ below (QV D cA ad kM 31 R A res) args s 0 0 A) (F0 m 76 ls [])) {σ : St} {H : Heap} {locs : List Loc} {ls : Array Slot}  (hw : At D cA ad kM 31 R A s σ H locs) (hl : lv_has ls 12 [(0, .ref (ad 0)), (1, .int (zI v1)), (2, .int (zI v2)), (3, .int (zI v3)), (4, .int (zI v4)), (5, .long (zJ v5)), (9, .int (zI v9))]) (h : p_X8_liveYear_187 K52 K61 K76 v1 v2 v3 v4 v5 v9 vs0 vs1 vs2 σ = some res) : W p l e (rmU 3 78) s m args below meth c H locs 0 0 (MQ below (QV D cA ad kM 31 R A res) args s 0 0 A) (F0 m 187 ls [.int (zI vs2), .long (zJ vs1), .long (zJ vs0)]) := by
  have h := h
  unfold p_X8_liveYear_187 at h
  refine y_i2l C rfl dX8_liveYear_187 ?_
  refine y_lmul C dX8_liveYear_188 ?_
  refine y_ladd C dX8_liveYear_189 ?_
  refine y_lstore (lv' := [(7, .long (zJ (vs0 + (vs1 * (zm vs2))))), (0, .ref (ad 0)), (1, .int (zI v1)), (2, .int (zI v2)), (3, .int (zI v3)), (4, .int (zI v4)), (5, .long (zJ v5)), (9, .int (zI v9))]) C dX8_liveYear_190 hl (by decide) rfl (fun ls hl => ?_)
  exact k_X8_liveYear_192 C hK52 hK61 hK76  hw (lv_sub hl [1, 2, 3, 4, 5, 6, 0, 7] rfl) h
set_option maxRecDepth 100000 in
set_option maxHeartbeats 4000000 in
theorem k_X8_liveYear_139 {K52 : Int → Int → Int → St → Option (Int × St)} {K61 : Int → Int → Int → Int → St → Option (Int × St)} {K76 : Int → Int → Int → Int → Int → Int → Int → St → Option (Int × St)} {v1 : Int} {v2 : Int} {v3 : Int} {v4 : Int} {v5 : Int} {v7 : Int} {v9 : Int} {v10 : Int} {vs1 : Int} {vs2 : Int} {vs3 : Int} (C : Cx cX8_liveYear RX8 12 none D cA adK adV A p s m args meth c) (hK52 : ∀ (v1 : Int) (v2 : Int) (v3 : Int) (σ : St) (H : Heap) (locs : List Loc) (ls : Array Slot) , At D cA ad kM 31 R A s σ H locs → lv_has ls 12 [(0, .ref (ad 0)), (1, .int (zI v1)), (2, .int (zI v2)), (3, .int (zI v3))] → K52 v1 v2 v3 σ = some res → W p l e (rmU 3 78) s m args below meth c H locs 0 0 (MQ below (QV D cA ad kM 31 R A res) args s 0 0 A) (F0 m 52 ls [])) (hK61 : ∀ (v1 : Int) (v2 : Int) (v3 : Int) (v4 : Int) (σ : St) (H : Heap) (locs : List Loc) (ls : Array Slot) , At D cA ad kM 31 R A s σ H locs → lv_has ls 12 [(0, .ref (ad 0)), (1, .int (zI v1)), (2, .int (zI v2)), (3, .int (zI v3)), (4, .int (zI v4))] → K61 v1 v2 v3 v4 σ = some res → W p l e (rmU 3 78) s m args below meth c H locs 0 0 (MQ below (QV D cA ad kM 31 R A res) args s 0 0 A) (F0 m 61 ls [])) (hK76 : ∀ (v1 : Int) (v2 : Int) (v3 : Int) (v4 : Int) (v5 : Int) (v7 : Int) (v9 : Int) (σ : St) (H : Heap) (locs : List Loc) (ls : Array Slot) , At D cA ad kM 31 R A s σ H locs → lv_has ls 12 [(0, .ref (ad 0)), (1, .int (zI v1)), (2, .int (zI v2)), (3, .int (zI v3)), (4, .int (zI v4)), (5, .long (zJ v5)), (7, .long (zJ v7)), (9, .int (zI v9))] → K76 v1 v2 v3 v4 v5 v7 v9 σ = some res → W p l e (rmU 3 78) s m args below meth c H locs 0 0 (MQ below (QV D cA ad kM 31 R A res) args s 0 0 A) (F0 m 76 ls [])) {σ : St} {H : Heap} {locs : List Loc} {ls : Array Slot}  (hw : At D cA ad kM 31 R A s σ H locs) (hl : lv_has ls 12 [(0, .ref (ad 0)), (1, .int (zI v1)), (2, .int (zI v2)), (3, .int (zI v3)), (4, .int (zI v4)), (5, .long (zJ v5)), (7, .long (zJ v7)), (9, .int (zI v9)), (10, .int (zI v10))]) (h : p_X8_liveYear_139 K52 K61 K76 v1 v2 v3 v4 v5 v7 v9 v10 vs1 vs2 vs3 σ = some res) : W p l e (rmU 3 78) s m args below meth c H locs 0 0 (MQ below (QV D cA ad kM 31 R A res) args s 0 0 A) (F0 m 139 ls [.int (zI vs3), .int (zI vs2), .int (zI vs1), .ref (ad 0)]) := by
  have h := h
  unfold p_X8_liveYear_139 at h
  obtain ⟨x139, hc139, h⟩ := bd_some h
  refine y_ci (rest := []) hw (y_rV C hw km_0 (by decide) rfl rfl (c_X8_oddsOf  hc139) mi_X8_oddsOf wd_1147 wd_1149 ws_41 rfl ⟨by decide, by decide⟩ hl rfl (Nat.le_of_ble_eq_true rfl) dX8_liveYear_139) (fun H locs hw => ?_)
  refine y_istore (lv' := [(11, .int (zI x139.1)), (0, .ref (ad 0)), (1, .int (zI v1)), (2, .int (zI v2)), (3, .int (zI v3)), (4, .int (zI v4)), (5, .long (zJ v5)), (7, .long (zJ v7)), (9, .int (zI v9)), (10, .int (zI v10))]) C dX8_liveYear_142 hl (by decide) rfl (fun ls hl => ?_)
  refine y_lload C dX8_liveYear_144 (lv_at hl 6 rfl) ?_
  refine y_iload C dX8_liveYear_146 (lv_at hl 0 rfl) ?_
  refine y_i2l C rfl dX8_liveYear_148 ?_
  refine y_ladd C dX8_liveYear_149 ?_
  refine y_lstore (lv' := [(5, .long (zJ (v5 + (zm x139.1)))), (11, .int (zI x139.1)), (0, .ref (ad 0)), (1, .int (zI v1)), (2, .int (zI v2)), (3, .int (zI v3)), (4, .int (zI v4)), (7, .long (zJ v7)), (9, .int (zI v9)), (10, .int (zI v10))]) C dX8_liveYear_150 hl (by decide) rfl (fun ls hl => ?_)
  refine y_lload C dX8_liveYear_152 (lv_at hl 7 rfl) ?_
  refine y_iload C dX8_liveYear_154 (lv_at hl 1 rfl) ?_
  refine y_i2l C rfl dX8_liveYear_156 ?_
  refine y_iload C dX8_liveYear_157 (lv_at hl 9 rfl) ?_
  refine y_aload_n C dX8_liveYear_159 (lv_at hl 2 rfl) ?_
  refine g8 C hw km_0 5 (by decide) wd_876 rfl dX8_liveYear_160 ?_
  refine y_aload_n C dX8_liveYear_163 (lv_at hl 2 rfl) ?_
  refine g8 C hw km_0 29 (by decide) wd_900 rfl dX8_liveYear_164 ?_
  obtain ⟨hg167, h⟩ := gd_some h
  refine y_iald C hw km_6 (i' := zm (x139.2 0 29)) rfl hg167 dX8_liveYear_167 ?_
  refine y_icmp_le (tgt := 186) C (a' := zm v10) (b' := zm (x139.2 6 (zm (x139.2 0 29)))) rfl rfl dX8_liveYear_168 (by decide) (fun hc => ?_) (fun hc => ?_)
  · rw [if_pos hc] at h
    refine y_iconst C dX8_liveYear_186 ?_
    exact k_X8_liveYear_187 C hK52 hK61 hK76  hw (lv_sub hl [2, 3, 4, 5, 6, 0, 8] rfl) h
  · rw [if_neg hc] at h
    refine y_iload C dX8_liveYear_171 (lv_at hl 9 rfl) ?_
    refine y_aload_n C dX8_liveYear_173 (lv_at hl 2 rfl) ?_
    refine g8 C hw km_0 5 (by decide) wd_876 rfl dX8_liveYear_174 ?_
    refine y_aload_n C dX8_liveYear_177 (lv_at hl 2 rfl) ?_
    refine g8 C hw km_0 29 (by decide) wd_900 rfl dX8_liveYear_178 ?_
    refine y_iald C hw km_6 (i' := zm (x139.2 0 29)) rfl hg167 dX8_liveYear_181 ?_
    refine y_isub C dX8_liveYear_182 ?_
    refine y_goto (tgt := 187) C dX8_liveYear_183 (by decide) ?_
    exact k_X8_liveYear_187 C hK52 hK61 hK76  hw (lv_sub hl [2, 3, 4, 5, 6, 0, 8] rfl) h
set_option maxRecDepth 100000 in
set_option maxHeartbeats 4000000 in
theorem k_X8_liveYear_76b {K52 : Int → Int → Int → St → Option (Int × St)} {K61 : Int → Int → Int → Int → St → Option (Int × St)} {K76 : Int → Int → Int → Int → Int → Int → Int → St → Option (Int × St)} {v1 : Int} {v2 : Int} {v3 : Int} {v4 : Int} {v5 : Int} {v7 : Int} {v9 : Int} (C : Cx cX8_liveYear RX8 12 none D cA adK adV A p s m args meth c) (hK52 : ∀ (v1 : Int) (v2 : Int) (v3 : Int) (σ : St) (H : Heap) (locs : List Loc) (ls : Array Slot) , At D cA ad kM 31 R A s σ H locs → lv_has ls 12 [(0, .ref (ad 0)), (1, .int (zI v1)), (2, .int (zI v2)), (3, .int (zI v3))] → K52 v1 v2 v3 σ = some res → W p l e (rmU 3 78) s m args below meth c H locs 0 0 (MQ below (QV D cA ad kM 31 R A res) args s 0 0 A) (F0 m 52 ls [])) (hK61 : ∀ (v1 : Int) (v2 : Int) (v3 : Int) (v4 : Int) (σ : St) (H : Heap) (locs : List Loc) (ls : Array Slot) , At D cA ad kM 31 R A s σ H locs → lv_has ls 12 [(0, .ref (ad 0)), (1, .int (zI v1)), (2, .int (zI v2)), (3, .int (zI v3)), (4, .int (zI v4))] → K61 v1 v2 v3 v4 σ = some res → W p l e (rmU 3 78) s m args below meth c H locs 0 0 (MQ below (QV D cA ad kM 31 R A res) args s 0 0 A) (F0 m 61 ls [])) (hK76 : ∀ (v1 : Int) (v2 : Int) (v3 : Int) (v4 : Int) (v5 : Int) (v7 : Int) (v9 : Int) (σ : St) (H : Heap) (locs : List Loc) (ls : Array Slot) , At D cA ad kM 31 R A s σ H locs → lv_has ls 12 [(0, .ref (ad 0)), (1, .int (zI v1)), (2, .int (zI v2)), (3, .int (zI v3)), (4, .int (zI v4)), (5, .long (zJ v5)), (7, .long (zJ v7)), (9, .int (zI v9))] → K76 v1 v2 v3 v4 v5 v7 v9 σ = some res → W p l e (rmU 3 78) s m args below meth c H locs 0 0 (MQ below (QV D cA ad kM 31 R A res) args s 0 0 A) (F0 m 76 ls [])) {σ : St} {H : Heap} {locs : List Loc} {ls : Array Slot}  (hw : At D cA ad kM 31 R A s σ H locs) (hl : lv_has ls 12 [(0, .ref (ad 0)), (1, .int (zI v1)), (2, .int (zI v2)), (3, .int (zI v3)), (4, .int (zI v4)), (5, .long (zJ v5)), (7, .long (zJ v7)), (9, .int (zI v9))]) (h : p_X8_liveYear_76b K52 K61 K76 v1 v2 v3 v4 v5 v7 v9 σ = some res) : W p l e (rmU 3 78) s m args below meth c H locs 0 0 (MQ below (QV D cA ad kM 31 R A res) args s 0 0 A) (F0 m 76 ls []) := by
  have h := h
  unfold p_X8_liveYear_76b at h
  refine y_iload C dX8_liveYear_76 (lv_at hl 7 rfl) ?_
  refine y_aload_n C dX8_liveYear_78 (lv_at hl 0 rfl) ?_
  refine g8 C hw km_0 8 (by decide) wd_879 rfl dX8_liveYear_79 ?_
  refine y_aload_n C dX8_liveYear_82 (lv_at hl 0 rfl) ?_
  refine g8 C hw km_0 28 (by decide) wd_899 rfl dX8_liveYear_83 ?_
  obtain ⟨hg86, h⟩ := gd_some h
  refine y_iald C hw km_8 (i' := zm (σ 0 28)) rfl hg86 dX8_liveYear_86 ?_
  refine y_icmp_ge (tgt := 198) C (a' := zm v9) (b' := zm (σ 8 (zm (σ 0 28)))) rfl rfl dX8_liveYear_87 (by decide) (fun hc => ?_) (fun hc => ?_)
  · rw [if_pos hc] at h
    refine y_aload_n C dX8_liveYear_198 (lv_at hl 0 rfl) ?_
    refine y_dup C dX8_liveYear_199 rfl ?_
    refine g8 C hw km_0 39 (by decide) wd_910 rfl dX8_liveYear_200 ?_
    refine y_aload_n C dX8_liveYear_203 (lv_at hl 0 rfl) ?_
    refine g8 C hw km_0 37 (by decide) wd_908 rfl dX8_liveYear_204 ?_
    refine y_iload C dX8_liveYear_207 (lv_at hl 4 rfl) ?_
    obtain ⟨hg209, h⟩ := gd_some h
    refine y_iald C hw km_21 (i' := zm v4) rfl hg209 dX8_liveYear_209 ?_
    refine y_i2l C rfl dX8_liveYear_210 ?_
    refine y_lload C dX8_liveYear_211 (lv_at hl 6 rfl) ?_
    refine y_lmul C dX8_liveYear_213 ?_
    refine y_ldc2 C (z := 1000000) wd_1272 (by decide) dX8_liveYear_214 ?_
    refine y_ldiv C (b' := 1000000) (by decide) (by decide) dX8_liveYear_217 ?_
    refine y_ladd C dX8_liveYear_218 ?_
    obtain ⟨σ219, eσ219, h⟩ := nx_some h
    refine q8 C hw km_0 39 (by decide) wd_910 rfl rfl rfl (by decide) ((σ 0 39) + ((zl ((zm (σ 21 (zm v4))) * v7)).tdiv 1000000)) 39 rfl rfl dX8_liveYear_219 (fun H locs hw => ?_)
    rw [← eσ219] at hw
    refine y_aload_n C dX8_liveYear_222 (lv_at hl 0 rfl) ?_
    refine g8 C hw km_0 38 (by decide) wd_909 rfl dX8_liveYear_223 ?_
    refine y_iload C dX8_liveYear_226 (lv_at hl 4 rfl) ?_
    refine y_aload_n C dX8_liveYear_228 (lv_at hl 0 rfl) ?_
    refine g8 C hw km_0 37 (by decide) wd_908 rfl dX8_liveYear_229 ?_
    refine y_iload C dX8_liveYear_232 (lv_at hl 4 rfl) ?_
    refine y_iald C hw km_21 (i' := zm v4) rfl hg209 dX8_liveYear_234 ?_
    refine y_i2l C rfl dX8_liveYear_235 ?_
    refine y_lload C dX8_liveYear_236 (lv_at hl 5 rfl) ?_
    refine y_lmul C dX8_liveYear_238 ?_
    refine y_ldc2 C (z := 1000) wd_1183 (by decide) dX8_liveYear_239 ?_
    refine y_ldiv C (b' := 1000) (by decide) (by decide) dX8_liveYear_242 ?_
    refine y_l2i C dX8_liveYear_243 ?_
    obtain ⟨σ244, eσ244, h⟩ := nx_some h
    refine y_iast C hw km_22 (i' := zm v4) rfl hg209 dX8_liveYear_244 (fun H locs hw => ?_)
    rw [← eσ244] at hw
    refine y_iinc (lv' := [(4, .int (zI (v4 + 1))), (0, .ref (ad 0)), (1, .int (zI v1)), (2, .int (zI v2)), (3, .int (zI v3)), (5, .long (zJ v5)), (7, .long (zJ v7)), (9, .int (zI v9))]) C dX8_liveYear_245 hl (k := 4) rfl (by decide) rfl (fun ls hl => ?_)
    refine y_goto (tgt := 61) C dX8_liveYear_248 (by decide) ?_
    exact hK61 _ _ _ _ _ _ _ _  hw (lv_sub hl [1, 2, 3, 4, 0] rfl) h
  · rw [if_neg hc] at h
    refine y_aload_n C dX8_liveYear_90 (lv_at hl 0 rfl) ?_
    refine g8 C hw km_0 9 (by decide) wd_880 rfl dX8_liveYear_91 ?_
    refine y_bipush C dX8_liveYear_94 (by decide) ?_
    refine y_aload_n C dX8_liveYear_96 (lv_at hl 0 rfl) ?_
    refine g8 C hw km_0 28 (by decide) wd_899 rfl dX8_liveYear_97 ?_
    refine y_imul C dX8_liveYear_100 ?_
    refine y_iload C dX8_liveYear_101 (lv_at hl 7 rfl) ?_
    refine y_iadd C dX8_liveYear_103 ?_
    obtain ⟨hg104, h⟩ := gd_some h
    refine y_iald C hw km_9 (i' := zm ((8 * (σ 0 28)) + v9)) rfl hg104 dX8_liveYear_104 ?_
    refine y_istore (lv' := [(10, .int (zI (σ 9 (zm ((8 * (σ 0 28)) + v9))))), (0, .ref (ad 0)), (1, .int (zI v1)), (2, .int (zI v2)), (3, .int (zI v3)), (4, .int (zI v4)), (5, .long (zJ v5)), (7, .long (zJ v7)), (9, .int (zI v9))]) C dX8_liveYear_105 hl (by decide) rfl (fun ls hl => ?_)
    refine y_aload_n C dX8_liveYear_107 (lv_at hl 1 rfl) ?_
    refine y_iload_n C dX8_liveYear_108 (lv_at hl 3 rfl) ?_
    refine y_iconst C dX8_liveYear_109 ?_
    refine y_iload_n C dX8_liveYear_110 (lv_at hl 2 rfl) ?_
    refine y_iload_n C dX8_liveYear_111 (lv_at hl 4 rfl) ?_
    refine y_iload C dX8_liveYear_112 (lv_at hl 5 rfl) ?_
    refine y_iload C dX8_liveYear_114 (lv_at hl 0 rfl) ?_
    obtain ⟨x116, hc116, h⟩ := bd_some h
    refine y_ci (rest := []) hw (y_rV C hw km_0 (by decide) rfl rfl (c_X8_asks  hc116) mi_X8_asks wd_1184 wd_1186 ws_46 rfl ⟨by decide, by decide⟩ hl rfl (Nat.le_of_ble_eq_true rfl) dX8_liveYear_116) (fun H locs hw => ?_)
    refine y_if_eq (tgt := 192) C (a' := zm x116.1) rfl dX8_liveYear_119 (by decide) (fun hc => ?_) (fun hc => ?_)
    · rw [if_pos hc] at h
      exact k_X8_liveYear_192 C hK52 hK61 hK76  hw (lv_sub hl [1, 2, 3, 4, 5, 6, 7, 8] rfl) h
    · rw [if_neg hc] at h
      refine y_aload_n C dX8_liveYear_122 (lv_at hl 1 rfl) ?_
      refine y_aload_n C dX8_liveYear_123 (lv_at hl 1 rfl) ?_
      refine g8 C hw km_0 28 (by decide) wd_899 rfl dX8_liveYear_124 ?_
      refine y_iload C dX8_liveYear_127 (lv_at hl 8 rfl) ?_
      refine y_iload_n C dX8_liveYear_129 (lv_at hl 3 rfl) ?_
      refine y_iconst C dX8_liveYear_130 ?_
      refine y_icmp_ne (tgt := 138) C (a' := zm v2) (b' := 1) rfl (by decide) dX8_liveYear_131 (by decide) (fun hc => ?_) (fun hc => ?_)
      · rw [if_pos hc] at h
        refine y_iconst C dX8_liveYear_134 ?_
        refine y_goto (tgt := 139) C dX8_liveYear_135 (by decide) ?_
        exact k_X8_liveYear_139 C hK52 hK61 hK76  hw (lv_sub hl [1, 2, 3, 4, 5, 6, 7, 8, 0] rfl) h
      · rw [if_neg hc] at h
        refine y_iconst C dX8_liveYear_138 ?_
        exact k_X8_liveYear_139 C hK52 hK61 hK76  hw (lv_sub hl [1, 2, 3, 4, 5, 6, 7, 8, 0] rfl) h
set_option maxRecDepth 100000 in
theorem k_X8_liveYear_76 {K52 : Int → Int → Int → St → Option (Int × St)} {K61 : Int → Int → Int → Int → St → Option (Int × St)} (C : Cx cX8_liveYear RX8 12 none D cA adK adV A p s m args meth c) (hK52 : ∀ (v1 : Int) (v2 : Int) (v3 : Int) (σ : St) (H : Heap) (locs : List Loc) (ls : Array Slot) , At D cA ad kM 31 R A s σ H locs → lv_has ls 12 [(0, .ref (ad 0)), (1, .int (zI v1)), (2, .int (zI v2)), (3, .int (zI v3))] → K52 v1 v2 v3 σ = some res → W p l e (rmU 3 78) s m args below meth c H locs 0 0 (MQ below (QV D cA ad kM 31 R A res) args s 0 0 A) (F0 m 52 ls [])) (hK61 : ∀ (v1 : Int) (v2 : Int) (v3 : Int) (v4 : Int) (σ : St) (H : Heap) (locs : List Loc) (ls : Array Slot) , At D cA ad kM 31 R A s σ H locs → lv_has ls 12 [(0, .ref (ad 0)), (1, .int (zI v1)), (2, .int (zI v2)), (3, .int (zI v3)), (4, .int (zI v4))] → K61 v1 v2 v3 v4 σ = some res → W p l e (rmU 3 78) s m args below meth c H locs 0 0 (MQ below (QV D cA ad kM 31 R A res) args s 0 0 A) (F0 m 61 ls [])) : ∀ (n : Nat) (v1 : Int) (v2 : Int) (v3 : Int) (v4 : Int) (v5 : Int) (v7 : Int) (v9 : Int) (σ : St) (H : Heap) (locs : List Loc) (ls : Array Slot) , At D cA ad kM 31 R A s σ H locs → lv_has ls 12 [(0, .ref (ad 0)), (1, .int (zI v1)), (2, .int (zI v2)), (3, .int (zI v3)), (4, .int (zI v4)), (5, .long (zJ v5)), (7, .long (zJ v7)), (9, .int (zI v9))] → p_X8_liveYear_76 K52 K61 n v1 v2 v3 v4 v5 v7 v9 σ = some res → W p l e (rmU 3 78) s m args below meth c H locs 0 0 (MQ below (QV D cA ad kM 31 R A res) args s 0 0 A) (F0 m 76 ls []) := by
  intro n
  induction n with
  | zero =>
    intro v1 v2 v3 v4 v5 v7 v9 σ H locs ls  hw hl h
    have h : none = some res := h
    cases h
  | succ n ih =>
    intro v1 v2 v3 v4 v5 v7 v9 σ H locs ls  hw hl h
    exact k_X8_liveYear_76b C hK52 hK61 ih  hw hl h
set_option maxRecDepth 100000 in
set_option maxHeartbeats 4000000 in
theorem k_X8_liveYear_61b {K52 : Int → Int → Int → St → Option (Int × St)} {K61 : Int → Int → Int → Int → St → Option (Int × St)} {v1 : Int} {v2 : Int} {v3 : Int} {v4 : Int} (C : Cx cX8_liveYear RX8 12 none D cA adK adV A p s m args meth c) (hK52 : ∀ (v1 : Int) (v2 : Int) (v3 : Int) (σ : St) (H : Heap) (locs : List Loc) (ls : Array Slot) , At D cA ad kM 31 R A s σ H locs → lv_has ls 12 [(0, .ref (ad 0)), (1, .int (zI v1)), (2, .int (zI v2)), (3, .int (zI v3))] → K52 v1 v2 v3 σ = some res → W p l e (rmU 3 78) s m args below meth c H locs 0 0 (MQ below (QV D cA ad kM 31 R A res) args s 0 0 A) (F0 m 52 ls [])) (hK61 : ∀ (v1 : Int) (v2 : Int) (v3 : Int) (v4 : Int) (σ : St) (H : Heap) (locs : List Loc) (ls : Array Slot) , At D cA ad kM 31 R A s σ H locs → lv_has ls 12 [(0, .ref (ad 0)), (1, .int (zI v1)), (2, .int (zI v2)), (3, .int (zI v3)), (4, .int (zI v4))] → K61 v1 v2 v3 v4 σ = some res → W p l e (rmU 3 78) s m args below meth c H locs 0 0 (MQ below (QV D cA ad kM 31 R A res) args s 0 0 A) (F0 m 61 ls [])) {σ : St} {H : Heap} {locs : List Loc} {ls : Array Slot}  (hw : At D cA ad kM 31 R A s σ H locs) (hl : lv_has ls 12 [(0, .ref (ad 0)), (1, .int (zI v1)), (2, .int (zI v2)), (3, .int (zI v3)), (4, .int (zI v4))]) (h : p_X8_liveYear_61b K52 K61 v1 v2 v3 v4 σ = some res) : W p l e (rmU 3 78) s m args below meth c H locs 0 0 (MQ below (QV D cA ad kM 31 R A res) args s 0 0 A) (F0 m 61 ls []) := by
  have h := h
  unfold p_X8_liveYear_61b at h
  refine y_iload C dX8_liveYear_61 (lv_at hl 4 rfl) ?_
  refine y_iconst C dX8_liveYear_63 ?_
  refine y_icmp_ge (tgt := 251) C (a' := zm v4) (b' := 4) rfl (by decide) dX8_liveYear_64 (by decide) (fun hc => ?_) (fun hc => ?_)
  · rw [if_pos hc] at h
    refine y_iconst C dX8_liveYear_251 ?_
    refine y_istore (lv' := [(4, .int (zI 2)), (0, .ref (ad 0)), (1, .int (zI v1)), (2, .int (zI v2)), (3, .int (zI v3))]) C dX8_liveYear_252 hl (by decide) rfl (fun ls hl => ?_)
    exact k_X8_liveYear_254 C hK52 FU _ _ _ _ _ _ _ _  hw (lv_sub hl [1, 2, 3, 4, 0] rfl) h
  · rw [if_neg hc] at h
    refine y_lconst C (z' := 0) dX8_liveYear_67 (by decide) ?_
    refine y_lstore (lv' := [(5, .long (zJ 0)), (0, .ref (ad 0)), (1, .int (zI v1)), (2, .int (zI v2)), (3, .int (zI v3)), (4, .int (zI v4))]) C dX8_liveYear_68 hl (by decide) rfl (fun ls hl => ?_)
    refine y_lconst C (z' := 0) dX8_liveYear_70 (by decide) ?_
    refine y_lstore (lv' := [(7, .long (zJ 0)), (5, .long (zJ 0)), (0, .ref (ad 0)), (1, .int (zI v1)), (2, .int (zI v2)), (3, .int (zI v3)), (4, .int (zI v4))]) C dX8_liveYear_71 hl (by decide) rfl (fun ls hl => ?_)
    refine y_iconst C dX8_liveYear_73 ?_
    refine y_istore (lv' := [(9, .int (zI 0)), (7, .long (zJ 0)), (5, .long (zJ 0)), (0, .ref (ad 0)), (1, .int (zI v1)), (2, .int (zI v2)), (3, .int (zI v3)), (4, .int (zI v4))]) C dX8_liveYear_74 hl (by decide) rfl (fun ls hl => ?_)
    exact k_X8_liveYear_76 C hK52 hK61 FU _ _ _ _ _ _ _ _ _ _ _  hw (lv_sub hl [3, 4, 5, 6, 7, 2, 1, 0] rfl) h
set_option maxRecDepth 100000 in
theorem k_X8_liveYear_61 {K52 : Int → Int → Int → St → Option (Int × St)} (C : Cx cX8_liveYear RX8 12 none D cA adK adV A p s m args meth c) (hK52 : ∀ (v1 : Int) (v2 : Int) (v3 : Int) (σ : St) (H : Heap) (locs : List Loc) (ls : Array Slot) , At D cA ad kM 31 R A s σ H locs → lv_has ls 12 [(0, .ref (ad 0)), (1, .int (zI v1)), (2, .int (zI v2)), (3, .int (zI v3))] → K52 v1 v2 v3 σ = some res → W p l e (rmU 3 78) s m args below meth c H locs 0 0 (MQ below (QV D cA ad kM 31 R A res) args s 0 0 A) (F0 m 52 ls [])) : ∀ (n : Nat) (v1 : Int) (v2 : Int) (v3 : Int) (v4 : Int) (σ : St) (H : Heap) (locs : List Loc) (ls : Array Slot) , At D cA ad kM 31 R A s σ H locs → lv_has ls 12 [(0, .ref (ad 0)), (1, .int (zI v1)), (2, .int (zI v2)), (3, .int (zI v3)), (4, .int (zI v4))] → p_X8_liveYear_61 K52 n v1 v2 v3 v4 σ = some res → W p l e (rmU 3 78) s m args below meth c H locs 0 0 (MQ below (QV D cA ad kM 31 R A res) args s 0 0 A) (F0 m 61 ls []) := by
  intro n
  induction n with
  | zero =>
    intro v1 v2 v3 v4 σ H locs ls  hw hl h
    have h : none = some res := h
    cases h
  | succ n ih =>
    intro v1 v2 v3 v4 σ H locs ls  hw hl h
    exact k_X8_liveYear_61b C hK52 ih  hw hl h
set_option maxRecDepth 100000 in
set_option maxHeartbeats 4000000 in
theorem k_X8_liveYear_52b {K52 : Int → Int → Int → St → Option (Int × St)} {v1 : Int} {v2 : Int} {v3 : Int} (C : Cx cX8_liveYear RX8 12 none D cA adK adV A p s m args meth c)  (hK52 : ∀ (v1 : Int) (v2 : Int) (v3 : Int) (σ : St) (H : Heap) (locs : List Loc) (ls : Array Slot) , At D cA ad kM 31 R A s σ H locs → lv_has ls 12 [(0, .ref (ad 0)), (1, .int (zI v1)), (2, .int (zI v2)), (3, .int (zI v3))] → K52 v1 v2 v3 σ = some res → W p l e (rmU 3 78) s m args below meth c H locs 0 0 (MQ below (QV D cA ad kM 31 R A res) args s 0 0 A) (F0 m 52 ls [])) {σ : St} {H : Heap} {locs : List Loc} {ls : Array Slot}  (hw : At D cA ad kM 31 R A s σ H locs) (hl : lv_has ls 12 [(0, .ref (ad 0)), (1, .int (zI v1)), (2, .int (zI v2)), (3, .int (zI v3))]) (h : p_X8_liveYear_52b K52 v1 v2 v3 σ = some res) : W p l e (rmU 3 78) s m args below meth c H locs 0 0 (MQ below (QV D cA ad kM 31 R A res) args s 0 0 A) (F0 m 52 ls []) := by
  have h := h
  unfold p_X8_liveYear_52b at h
  refine y_iload_n C dX8_liveYear_52 (lv_at hl 3 rfl) ?_
  refine y_bipush C dX8_liveYear_53 (by decide) ?_
  refine y_icmp_ge (tgt := 307) C (a' := zm v3) (b' := 12) rfl (by decide) dX8_liveYear_55 (by decide) (fun hc => ?_) (fun hc => ?_)
  · rw [if_pos hc] at h
    exact y_vret C hw h dX8_liveYear_307
  · rw [if_neg hc] at h
    refine y_iconst C dX8_liveYear_58 ?_
    refine y_istore (lv' := [(4, .int (zI 0)), (0, .ref (ad 0)), (1, .int (zI v1)), (2, .int (zI v2)), (3, .int (zI v3))]) C dX8_liveYear_59 hl (by decide) rfl (fun ls hl => ?_)
    exact k_X8_liveYear_61 C hK52 FU _ _ _ _ _ _ _ _  hw (lv_sub hl [1, 2, 3, 4, 0] rfl) h
set_option maxRecDepth 100000 in
theorem k_X8_liveYear_52  (C : Cx cX8_liveYear RX8 12 none D cA adK adV A p s m args meth c)  : ∀ (n : Nat) (v1 : Int) (v2 : Int) (v3 : Int) (σ : St) (H : Heap) (locs : List Loc) (ls : Array Slot) , At D cA ad kM 31 R A s σ H locs → lv_has ls 12 [(0, .ref (ad 0)), (1, .int (zI v1)), (2, .int (zI v2)), (3, .int (zI v3))] → p_X8_liveYear_52  n v1 v2 v3 σ = some res → W p l e (rmU 3 78) s m args below meth c H locs 0 0 (MQ below (QV D cA ad kM 31 R A res) args s 0 0 A) (F0 m 52 ls []) := by
  intro n
  induction n with
  | zero =>
    intro v1 v2 v3 σ H locs ls  hw hl h
    have h : none = some res := h
    cases h
  | succ n ih =>
    intro v1 v2 v3 σ H locs ls  hw hl h
    exact k_X8_liveYear_52b C  ih  hw hl h
set_option maxRecDepth 100000 in
set_option maxHeartbeats 4000000 in
theorem k_X8_liveYear_43 {K22 : Int → Int → Int → St → Option (Int × St)} {v1 : Int} {v2 : Int} {v3 : Int} {os0 : Int} {vs1 : Int} {vs2 : Int} (C : Cx cX8_liveYear RX8 12 none D cA adK adV A p s m args meth c) (hK22 : ∀ (v1 : Int) (v2 : Int) (v3 : Int) (σ : St) (H : Heap) (locs : List Loc) (ls : Array Slot) , At D cA ad kM 31 R A s σ H locs → lv_has ls 12 [(0, .ref (ad 0)), (1, .int (zI v1)), (2, .int (zI v2)), (3, .int (zI v3))] → K22 v1 v2 v3 σ = some res → W p l e (rmU 3 78) s m args below meth c H locs 0 0 (MQ below (QV D cA ad kM 31 R A res) args s 0 0 A) (F0 m 22 ls [])) {σ : St} {H : Heap} {locs : List Loc} {ls : Array Slot} (hos0 : kM os0 = (20, 4)) (hw : At D cA ad kM 31 R A s σ H locs) (hl : lv_has ls 12 [(0, .ref (ad 0)), (1, .int (zI v1)), (2, .int (zI v2)), (3, .int (zI v3))]) (h : p_X8_liveYear_43 K22 v1 v2 v3 os0 vs1 vs2 σ = some res) : W p l e (rmU 3 78) s m args below meth c H locs 0 0 (MQ below (QV D cA ad kM 31 R A res) args s 0 0 A) (F0 m 43 ls [.int (zI vs2), .int (zI vs1), .ref (ad os0)]) := by
  have h := h
  unfold p_X8_liveYear_43 at h
  obtain ⟨hg43, h⟩ := gd_some h
  obtain ⟨σ43, eσ43, h⟩ := nx_some h
  refine y_iast C hw hos0 (i' := zm vs1) rfl hg43 dX8_liveYear_43 (fun H locs hw => ?_)
  rw [← eσ43] at hw
  refine y_iinc (lv' := [(3, .int (zI (v3 + 1))), (0, .ref (ad 0)), (1, .int (zI v1)), (2, .int (zI v2))]) C dX8_liveYear_44 hl (k := 3) rfl (by decide) rfl (fun ls hl => ?_)
  refine y_goto (tgt := 22) C dX8_liveYear_47 (by decide) ?_
  exact hK22 _ _ _ _ _ _ _  hw (lv_sub hl [1, 2, 3, 0] rfl) h
set_option maxRecDepth 100000 in
set_option maxHeartbeats 4000000 in
theorem k_X8_liveYear_22b {K22 : Int → Int → Int → St → Option (Int × St)} {v1 : Int} {v2 : Int} {v3 : Int} (C : Cx cX8_liveYear RX8 12 none D cA adK adV A p s m args meth c)  (hK22 : ∀ (v1 : Int) (v2 : Int) (v3 : Int) (σ : St) (H : Heap) (locs : List Loc) (ls : Array Slot) , At D cA ad kM 31 R A s σ H locs → lv_has ls 12 [(0, .ref (ad 0)), (1, .int (zI v1)), (2, .int (zI v2)), (3, .int (zI v3))] → K22 v1 v2 v3 σ = some res → W p l e (rmU 3 78) s m args below meth c H locs 0 0 (MQ below (QV D cA ad kM 31 R A res) args s 0 0 A) (F0 m 22 ls [])) {σ : St} {H : Heap} {locs : List Loc} {ls : Array Slot}  (hw : At D cA ad kM 31 R A s σ H locs) (hl : lv_has ls 12 [(0, .ref (ad 0)), (1, .int (zI v1)), (2, .int (zI v2)), (3, .int (zI v3))]) (h : p_X8_liveYear_22b K22 v1 v2 v3 σ = some res) : W p l e (rmU 3 78) s m args below meth c H locs 0 0 (MQ below (QV D cA ad kM 31 R A res) args s 0 0 A) (F0 m 22 ls []) := by
  have h := h
  unfold p_X8_liveYear_22b at h
  refine y_iload_n C dX8_liveYear_22 (lv_at hl 3 rfl) ?_
  refine y_iconst C dX8_liveYear_23 ?_
  refine y_icmp_ge (tgt := 50) C (a' := zm v3) (b' := 4) rfl (by decide) dX8_liveYear_24 (by decide) (fun hc => ?_) (fun hc => ?_)
  · rw [if_pos hc] at h
    refine y_iconst C dX8_liveYear_50 ?_
    refine y_istore_n (lv' := [(3, .int (zI 0)), (0, .ref (ad 0)), (1, .int (zI v1)), (2, .int (zI v2))]) C dX8_liveYear_51 hl (by decide) rfl (fun ls hl => ?_)
    exact k_X8_liveYear_52 C  FU _ _ _ _ _ _ _  hw (lv_sub hl [1, 2, 3, 0] rfl) h
  · rw [if_neg hc] at h
    refine y_aload_n C dX8_liveYear_27 (lv_at hl 0 rfl) ?_
    refine g8 C hw km_0 37 (by decide) wd_908 rfl dX8_liveYear_28 ?_
    refine y_iload_n C dX8_liveYear_31 (lv_at hl 3 rfl) ?_
    refine y_iload_n C dX8_liveYear_32 (lv_at hl 3 rfl) ?_
    refine y_if_ne (tgt := 42) C (a' := zm v3) rfl dX8_liveYear_33 (by decide) (fun hc => ?_) (fun hc => ?_)
    · rw [if_pos hc] at h
      refine y_ldcw C (z := 1000000) wd_1267 (by decide) dX8_liveYear_36 ?_
      refine y_goto (tgt := 43) C dX8_liveYear_39 (by decide) ?_
      exact k_X8_liveYear_43 C hK22 km_21 hw hl h
    · rw [if_neg hc] at h
      refine y_iconst C dX8_liveYear_42 ?_
      exact k_X8_liveYear_43 C hK22 km_21 hw hl h
set_option maxRecDepth 100000 in
theorem k_X8_liveYear_22  (C : Cx cX8_liveYear RX8 12 none D cA adK adV A p s m args meth c)  : ∀ (n : Nat) (v1 : Int) (v2 : Int) (v3 : Int) (σ : St) (H : Heap) (locs : List Loc) (ls : Array Slot) , At D cA ad kM 31 R A s σ H locs → lv_has ls 12 [(0, .ref (ad 0)), (1, .int (zI v1)), (2, .int (zI v2)), (3, .int (zI v3))] → p_X8_liveYear_22  n v1 v2 v3 σ = some res → W p l e (rmU 3 78) s m args below meth c H locs 0 0 (MQ below (QV D cA ad kM 31 R A res) args s 0 0 A) (F0 m 22 ls []) := by
  intro n
  induction n with
  | zero =>
    intro v1 v2 v3 σ H locs ls  hw hl h
    have h : none = some res := h
    cases h
  | succ n ih =>
    intro v1 v2 v3 σ H locs ls  hw hl h
    exact k_X8_liveYear_22b C  ih  hw hl h
set_option maxRecDepth 100000 in
set_option maxHeartbeats 4000000 in
theorem k_X8_liveYear_14  {v1 : Int} {vs0 : Int} (C : Cx cX8_liveYear RX8 12 none D cA adK adV A p s m args meth c)  {σ : St} {H : Heap} {locs : List Loc} {ls : Array Slot}  (hw : At D cA ad kM 31 R A s σ H locs) (hl : lv_has ls 12 [(0, .ref (ad 0)), (1, .int (zI v1))]) (h : p_X8_liveYear_14  v1 vs0 σ = some res) : W p l e (rmU 3 78) s m args below meth c H locs 0 0 (MQ below (QV D cA ad kM 31 R A res) args s 0 0 A) (F0 m 14 ls [.int (zI vs0)]) := by
  have h := h
  unfold p_X8_liveYear_14 at h
  refine y_istore_n (lv' := [(2, .int (zI vs0)), (0, .ref (ad 0)), (1, .int (zI v1))]) C dX8_liveYear_14 hl (by decide) rfl (fun ls hl => ?_)
  refine y_aload_n C dX8_liveYear_15 (lv_at hl 1 rfl) ?_
  refine y_lconst C (z' := 0) dX8_liveYear_16 (by decide) ?_
  obtain ⟨σ17, eσ17, h⟩ := nx_some h
  refine q8 C hw km_0 39 (by decide) wd_910 rfl rfl rfl (by decide) 0 39 rfl rfl dX8_liveYear_17 (fun H locs hw => ?_)
  rw [← eσ17] at hw
  refine y_iconst C dX8_liveYear_20 ?_
  refine y_istore_n (lv' := [(3, .int (zI 0)), (2, .int (zI vs0)), (0, .ref (ad 0)), (1, .int (zI v1))]) C dX8_liveYear_21 hl (by decide) rfl (fun ls hl => ?_)
  exact k_X8_liveYear_22 C  FU _ _ _ _ _ _ _  hw (lv_sub hl [2, 3, 1, 0] rfl) h
set_option maxRecDepth 100000 in
set_option maxHeartbeats 4000000 in
theorem k_X8_liveYear_0  {v1 : Int} (C : Cx cX8_liveYear RX8 12 none D cA adK adV A p s m args meth c)  {σ : St} {H : Heap} {locs : List Loc} {ls : Array Slot}  (hw : At D cA ad kM 31 R A s σ H locs) (hl : lv_has ls 12 [(0, .ref (ad 0)), (1, .int (zI v1))]) (h : p_X8_liveYear  v1 σ = some res) : W p l e (rmU 3 78) s m args below meth c H locs 0 0 (MQ below (QV D cA ad kM 31 R A res) args s 0 0 A) (F0 m 0 ls []) := by
  have h := h
  unfold p_X8_liveYear at h
  refine y_aload_n C dX8_liveYear_0 (lv_at hl 0 rfl) ?_
  refine y_iconst C dX8_liveYear_1 ?_
  refine y_iload_n C dX8_liveYear_2 (lv_at hl 1 rfl) ?_
  obtain ⟨x3, hc3, h⟩ := bd_some h
  refine y_ci (rest := []) hw (y_rV C hw km_0 (by decide) rfl rfl (c_X8_isPained  hc3) mi_X8_isPained wd_1204 wd_1206 ws_51 rfl ⟨by decide, by decide⟩ hl rfl (Nat.le_of_ble_eq_true rfl) dX8_liveYear_3) (fun H locs hw => ?_)
  refine y_if_eq (tgt := 13) C (a' := zm x3.1) rfl dX8_liveYear_6 (by decide) (fun hc => ?_) (fun hc => ?_)
  · rw [if_pos hc] at h
    refine y_iconst C dX8_liveYear_13 ?_
    exact k_X8_liveYear_14 C   hw hl h
  · rw [if_neg hc] at h
    refine y_iconst C dX8_liveYear_9 ?_
    refine y_goto (tgt := 14) C dX8_liveYear_10 (by decide) ?_
    exact k_X8_liveYear_14 C   hw hl h
theorem c_X8_liveYear {l : Launch} {D : va_G} {cA : Nat → ClassId} {adK adV : Nat → Nat} {A : Nat → Prop} {ad : Int → Nat} {R : va_W} {σ : St} {res : Int × St} {v1 : Int}  (h : p_X8_liveYear v1 σ = some res) : Met l yX8_liveYear (wsU yX8_liveYear cX8_liveYear 12 none) (rmU 3 78) (va_Pc [.ref (ad 0), .int (zI v1)] (Pr D cA adK adV ad kM 31 R A σ)) (QV D cA ad kM 31 R A res) 0 0 A :=
  y_met (own := RX8) (by decide) rfl _ (Nat.le_of_ble_eq_true rfl) (fun p e s m args below meth c ls C hl hw => k_X8_liveYear_0 C  hw hl h)
/-! RungHouseModel.stand -/
set_option maxRecDepth 100000 in
set_option maxHeartbeats 4000000 in
theorem k_X8_stand_206 {K51 : Int → Int → Int → St → Option (Int × St)} {K176 : Int → Int → Int → Int → Int → St → Option (Int × St)} {v1 : Int} {v2 : Int} {v3 : Int} {v4 : Int} {v5 : Int} {os0 : Int} {vs1 : Int} {vs2 : Int} {vs3 : Int} (C : Cx cX8_stand RX8 8 none D cA adK adV A p s m args meth c) (hK51 : ∀ (v1 : Int) (v2 : Int) (v3 : Int) (σ : St) (H : Heap) (locs : List Loc) (ls : Array Slot) , At D cA ad kM 31 R A s σ H locs → lv_has ls 8 [(0, .ref (ad 0)), (1, .int (zI v1)), (2, .int (zI v2)), (3, .int (zI v3))] → K51 v1 v2 v3 σ = some res → W p l e (rmU 4 109) s m args below meth c H locs 0 0 (MQ below (QV D cA ad kM 31 R A res) args s 0 0 A) (F0 m 51 ls [])) (hK176 : ∀ (v1 : Int) (v2 : Int) (v3 : Int) (v4 : Int) (v5 : Int) (σ : St) (H : Heap) (locs : List Loc) (ls : Array Slot) , At D cA ad kM 31 R A s σ H locs → lv_has ls 8 [(0, .ref (ad 0)), (1, .int (zI v1)), (2, .int (zI v2)), (3, .int (zI v3)), (4, .int (zI v4)), (5, .int (zI v5))] → K176 v1 v2 v3 v4 v5 σ = some res → W p l e (rmU 4 109) s m args below meth c H locs 0 0 (MQ below (QV D cA ad kM 31 R A res) args s 0 0 A) (F0 m 176 ls [])) {σ : St} {H : Heap} {locs : List Loc} {ls : Array Slot} (hos0 : kM os0 = (20, 10)) (hw : At D cA ad kM 31 R A s σ H locs) (hl : lv_has ls 8 [(0, .ref (ad 0)), (1, .int (zI v1)), (2, .int (zI v2)), (3, .int (zI v3)), (4, .int (zI v4)), (5, .int (zI v5))]) (h : p_X8_stand_206 K51 K176 v1 v2 v3 v4 v5 os0 vs1 vs2 vs3 σ = some res) : W p l e (rmU 4 109) s m args below meth c H locs 0 0 (MQ below (QV D cA ad kM 31 R A res) args s 0 0 A) (F0 m 206 ls [.int (zI vs3), .int (zI vs2), .int (zI vs1), .ref (ad os0)]) := by
  have h := h
  unfold p_X8_stand_206 at h
  refine y_iadd C dX8_stand_206 ?_
  obtain ⟨hg207, h⟩ := gd_some h
  obtain ⟨σ207, eσ207, h⟩ := nx_some h
  refine y_iast C hw hos0 (i' := zm vs1) rfl hg207 dX8_stand_207 (fun H locs hw => ?_)
  rw [← eσ207] at hw
  refine y_iinc (lv' := [(5, .int (zI (v5 + 1))), (0, .ref (ad 0)), (1, .int (zI v1)), (2, .int (zI v2)), (3, .int (zI v3)), (4, .int (zI v4))]) C dX8_stand_208 hl (k := 5) rfl (by decide) rfl (fun ls hl => ?_)
  refine y_goto (tgt := 176) C dX8_stand_211 (by decide) ?_
  exact hK176 _ _ _ _ _ _ _ _ _  hw (lv_sub hl [1, 2, 3, 4, 5, 0] rfl) h
set_option maxRecDepth 100000 in
set_option maxHeartbeats 4000000 in
theorem k_X8_stand_176b {K51 : Int → Int → Int → St → Option (Int × St)} {K176 : Int → Int → Int → Int → Int → St → Option (Int × St)} {v1 : Int} {v2 : Int} {v3 : Int} {v4 : Int} {v5 : Int} (C : Cx cX8_stand RX8 8 none D cA adK adV A p s m args meth c) (hK51 : ∀ (v1 : Int) (v2 : Int) (v3 : Int) (σ : St) (H : Heap) (locs : List Loc) (ls : Array Slot) , At D cA ad kM 31 R A s σ H locs → lv_has ls 8 [(0, .ref (ad 0)), (1, .int (zI v1)), (2, .int (zI v2)), (3, .int (zI v3))] → K51 v1 v2 v3 σ = some res → W p l e (rmU 4 109) s m args below meth c H locs 0 0 (MQ below (QV D cA ad kM 31 R A res) args s 0 0 A) (F0 m 51 ls [])) (hK176 : ∀ (v1 : Int) (v2 : Int) (v3 : Int) (v4 : Int) (v5 : Int) (σ : St) (H : Heap) (locs : List Loc) (ls : Array Slot) , At D cA ad kM 31 R A s σ H locs → lv_has ls 8 [(0, .ref (ad 0)), (1, .int (zI v1)), (2, .int (zI v2)), (3, .int (zI v3)), (4, .int (zI v4)), (5, .int (zI v5))] → K176 v1 v2 v3 v4 v5 σ = some res → W p l e (rmU 4 109) s m args below meth c H locs 0 0 (MQ below (QV D cA ad kM 31 R A res) args s 0 0 A) (F0 m 176 ls [])) {σ : St} {H : Heap} {locs : List Loc} {ls : Array Slot}  (hw : At D cA ad kM 31 R A s σ H locs) (hl : lv_has ls 8 [(0, .ref (ad 0)), (1, .int (zI v1)), (2, .int (zI v2)), (3, .int (zI v3)), (4, .int (zI v4)), (5, .int (zI v5))]) (h : p_X8_stand_176b K51 K176 v1 v2 v3 v4 v5 σ = some res) : W p l e (rmU 4 109) s m args below meth c H locs 0 0 (MQ below (QV D cA ad kM 31 R A res) args s 0 0 A) (F0 m 176 ls []) := by
  have h := h
  unfold p_X8_stand_176b at h
  refine y_iload C dX8_stand_176 (lv_at hl 5 rfl) ?_
  refine y_iload_n C dX8_stand_178 (lv_at hl 2 rfl) ?_
  refine y_icmp_ge (tgt := 214) C (a' := zm v5) (b' := zm v2) rfl rfl dX8_stand_179 (by decide) (fun hc => ?_) (fun hc => ?_)
  · rw [if_pos hc] at h
    refine y_iinc (lv' := [(3, .int (zI (v3 + 1))), (0, .ref (ad 0)), (1, .int (zI v1)), (2, .int (zI v2)), (4, .int (zI v4)), (5, .int (zI v5))]) C dX8_stand_214 hl (k := 3) rfl (by decide) rfl (fun ls hl => ?_)
    refine y_goto (tgt := 51) C dX8_stand_217 (by decide) ?_
    exact hK51 _ _ _ _ _ _ _  hw (lv_sub hl [1, 2, 3, 0] rfl) h
  · rw [if_neg hc] at h
    refine y_aload_n C dX8_stand_182 (lv_at hl 0 rfl) ?_
    refine g8 C hw km_0 40 (by decide) wd_911 rfl dX8_stand_183 ?_
    refine y_iload C dX8_stand_186 (lv_at hl 5 rfl) ?_
    refine y_aload_n C dX8_stand_188 (lv_at hl 0 rfl) ?_
    refine g8 C hw km_0 41 (by decide) wd_912 rfl dX8_stand_189 ?_
    refine y_iload C dX8_stand_192 (lv_at hl 5 rfl) ?_
    obtain ⟨hg194, h⟩ := gd_some h
    refine y_iald C hw km_24 (i' := zm v5) rfl hg194 dX8_stand_194 ?_
    refine y_iload C dX8_stand_195 (lv_at hl 5 rfl) ?_
    refine y_if_ne (tgt := 205) C (a' := zm v5) rfl dX8_stand_197 (by decide) (fun hc => ?_) (fun hc => ?_)
    · rw [if_pos hc] at h
      refine y_iload C dX8_stand_200 (lv_at hl 4 rfl) ?_
      refine y_goto (tgt := 206) C dX8_stand_202 (by decide) ?_
      exact k_X8_stand_206 C hK51 hK176 km_23 hw hl h
    · rw [if_neg hc] at h
      refine y_iconst C dX8_stand_205 ?_
      exact k_X8_stand_206 C hK51 hK176 km_23 hw hl h
set_option maxRecDepth 100000 in
theorem k_X8_stand_176 {K51 : Int → Int → Int → St → Option (Int × St)} (C : Cx cX8_stand RX8 8 none D cA adK adV A p s m args meth c) (hK51 : ∀ (v1 : Int) (v2 : Int) (v3 : Int) (σ : St) (H : Heap) (locs : List Loc) (ls : Array Slot) , At D cA ad kM 31 R A s σ H locs → lv_has ls 8 [(0, .ref (ad 0)), (1, .int (zI v1)), (2, .int (zI v2)), (3, .int (zI v3))] → K51 v1 v2 v3 σ = some res → W p l e (rmU 4 109) s m args below meth c H locs 0 0 (MQ below (QV D cA ad kM 31 R A res) args s 0 0 A) (F0 m 51 ls [])) : ∀ (n : Nat) (v1 : Int) (v2 : Int) (v3 : Int) (v4 : Int) (v5 : Int) (σ : St) (H : Heap) (locs : List Loc) (ls : Array Slot) , At D cA ad kM 31 R A s σ H locs → lv_has ls 8 [(0, .ref (ad 0)), (1, .int (zI v1)), (2, .int (zI v2)), (3, .int (zI v3)), (4, .int (zI v4)), (5, .int (zI v5))] → p_X8_stand_176 K51 n v1 v2 v3 v4 v5 σ = some res → W p l e (rmU 4 109) s m args below meth c H locs 0 0 (MQ below (QV D cA ad kM 31 R A res) args s 0 0 A) (F0 m 176 ls []) := by
  intro n
  induction n with
  | zero =>
    intro v1 v2 v3 v4 v5 σ H locs ls  hw hl h
    have h : none = some res := h
    cases h
  | succ n ih =>
    intro v1 v2 v3 v4 v5 σ H locs ls  hw hl h
    exact k_X8_stand_176b C hK51 ih  hw hl h
set_option maxRecDepth 100000 in
set_option maxHeartbeats 4000000 in
theorem k_X8_stand_102b {K51 : Int → Int → Int → St → Option (Int × St)} {K87 : Int → Int → Int → Int → Int → St → Option (Int × St)} {K102 : Int → Int → Int → Int → Int → Int → St → Option (Int × St)} {v1 : Int} {v2 : Int} {v3 : Int} {v4 : Int} {v5 : Int} {v6 : Int} (C : Cx cX8_stand RX8 8 none D cA adK adV A p s m args meth c) (hK51 : ∀ (v1 : Int) (v2 : Int) (v3 : Int) (σ : St) (H : Heap) (locs : List Loc) (ls : Array Slot) , At D cA ad kM 31 R A s σ H locs → lv_has ls 8 [(0, .ref (ad 0)), (1, .int (zI v1)), (2, .int (zI v2)), (3, .int (zI v3))] → K51 v1 v2 v3 σ = some res → W p l e (rmU 4 109) s m args below meth c H locs 0 0 (MQ below (QV D cA ad kM 31 R A res) args s 0 0 A) (F0 m 51 ls [])) (hK87 : ∀ (v1 : Int) (v2 : Int) (v3 : Int) (v4 : Int) (v5 : Int) (σ : St) (H : Heap) (locs : List Loc) (ls : Array Slot) , At D cA ad kM 31 R A s σ H locs → lv_has ls 8 [(0, .ref (ad 0)), (1, .int (zI v1)), (2, .int (zI v2)), (3, .int (zI v3)), (4, .int (zI v4)), (5, .int (zI v5))] → K87 v1 v2 v3 v4 v5 σ = some res → W p l e (rmU 4 109) s m args below meth c H locs 0 0 (MQ below (QV D cA ad kM 31 R A res) args s 0 0 A) (F0 m 87 ls [])) (hK102 : ∀ (v1 : Int) (v2 : Int) (v3 : Int) (v4 : Int) (v5 : Int) (v6 : Int) (σ : St) (H : Heap) (locs : List Loc) (ls : Array Slot) , At D cA ad kM 31 R A s σ H locs → lv_has ls 8 [(0, .ref (ad 0)), (1, .int (zI v1)), (2, .int (zI v2)), (3, .int (zI v3)), (4, .int (zI v4)), (5, .int (zI v5)), (6, .int (zI v6))] → K102 v1 v2 v3 v4 v5 v6 σ = some res → W p l e (rmU 4 109) s m args below meth c H locs 0 0 (MQ below (QV D cA ad kM 31 R A res) args s 0 0 A) (F0 m 102 ls [])) {σ : St} {H : Heap} {locs : List Loc} {ls : Array Slot}  (hw : At D cA ad kM 31 R A s σ H locs) (hl : lv_has ls 8 [(0, .ref (ad 0)), (1, .int (zI v1)), (2, .int (zI v2)), (3, .int (zI v3)), (4, .int (zI v4)), (5, .int (zI v5)), (6, .int (zI v6))]) (h : p_X8_stand_102b K51 K87 K102 v1 v2 v3 v4 v5 v6 σ = some res) : W p l e (rmU 4 109) s m args below meth c H locs 0 0 (MQ below (QV D cA ad kM 31 R A res) args s 0 0 A) (F0 m 102 ls []) := by
  have h := h
  unfold p_X8_stand_102b at h
  refine y_iload C dX8_stand_102 (lv_at hl 6 rfl) ?_
  refine y_iconst C dX8_stand_104 ?_
  refine y_icmp_ge (tgt := 167) C (a' := zm v6) (b' := 4) rfl (by decide) dX8_stand_105 (by decide) (fun hc => ?_) (fun hc => ?_)
  · rw [if_pos hc] at h
    refine y_iinc (lv' := [(5, .int (zI (v5 + 1))), (0, .ref (ad 0)), (1, .int (zI v1)), (2, .int (zI v2)), (3, .int (zI v3)), (4, .int (zI v4)), (6, .int (zI v6))]) C dX8_stand_167 hl (k := 5) rfl (by decide) rfl (fun ls hl => ?_)
    refine y_goto (tgt := 87) C dX8_stand_170 (by decide) ?_
    exact hK87 _ _ _ _ _ _ _ _ _  hw (lv_sub hl [1, 2, 3, 4, 5, 0] rfl) h
  · rw [if_neg hc] at h
    refine y_aload_n C dX8_stand_108 (lv_at hl 0 rfl) ?_
    refine g8 C hw km_0 40 (by decide) wd_911 rfl dX8_stand_109 ?_
    refine y_iload C dX8_stand_112 (lv_at hl 5 rfl) ?_
    obtain ⟨hg114, h⟩ := gd_some h
    refine y_iald C hw km_23 (i' := zm v5) rfl hg114 dX8_stand_114 ?_
    refine y_i2l C rfl dX8_stand_115 ?_
    refine y_aload_n C dX8_stand_116 (lv_at hl 0 rfl) ?_
    refine g8 C hw km_0 37 (by decide) wd_908 rfl dX8_stand_117 ?_
    refine y_iload C dX8_stand_120 (lv_at hl 6 rfl) ?_
    obtain ⟨hg122, h⟩ := gd_some h
    refine y_iald C hw km_21 (i' := zm v6) rfl hg122 dX8_stand_122 ?_
    refine y_i2l C rfl dX8_stand_123 ?_
    refine y_lmul C dX8_stand_124 ?_
    refine y_ldc2 C (z := 1000000) wd_1272 (by decide) dX8_stand_125 ?_
    refine y_ldiv C (b' := 1000000) (by decide) (by decide) dX8_stand_128 ?_
    refine y_l2i C dX8_stand_129 ?_
    obtain ⟨z130, ez130, h⟩ := nz_some h
    rw [← ez130]
    refine y_istore (lv' := [(7, .int (zI z130)), (0, .ref (ad 0)), (1, .int (zI v1)), (2, .int (zI v2)), (3, .int (zI v3)), (4, .int (zI v4)), (5, .int (zI v5)), (6, .int (zI v6))]) C dX8_stand_130 hl (by decide) rfl (fun ls hl => ?_)
    refine y_aload_n C dX8_stand_132 (lv_at hl 1 rfl) ?_
    refine g8 C hw km_0 41 (by decide) wd_912 rfl dX8_stand_133 ?_
    refine y_aload_n C dX8_stand_136 (lv_at hl 1 rfl) ?_
    refine y_aload_n C dX8_stand_137 (lv_at hl 1 rfl) ?_
    refine g8 C hw km_0 29 (by decide) wd_900 rfl dX8_stand_138 ?_
    refine y_iload C dX8_stand_141 (lv_at hl 6 rfl) ?_
    refine y_iload C dX8_stand_143 (lv_at hl 7 rfl) ?_
    obtain ⟨x145, hc145, h⟩ := bd_some h
    refine y_ci (rest := [.ref (ad 24)]) hw (y_rV C hw km_0 (by decide) rfl rfl (c_X8_nextOf  hc145) mi_X8_nextOf wd_1113 wd_1115 ws_35 rfl ⟨by decide, by decide⟩ hl rfl (Nat.le_of_ble_eq_true rfl) dX8_stand_145) (fun H locs hw => ?_)
    refine y_dup2 C dX8_stand_148 rfl rfl ?_
    obtain ⟨hg149, h⟩ := gd_some h
    refine y_iald C hw km_24 (i' := zm x145.1) rfl hg149 dX8_stand_149 ?_
    refine y_iload C dX8_stand_150 (lv_at hl 0 rfl) ?_
    refine y_iadd C dX8_stand_152 ?_
    obtain ⟨σ153, eσ153, h⟩ := nx_some h
    refine y_iast C hw km_24 (i' := zm x145.1) rfl hg149 dX8_stand_153 (fun H locs hw => ?_)
    rw [← eσ153] at hw
    refine y_iload C dX8_stand_154 (lv_at hl 5 rfl) ?_
    refine y_iload C dX8_stand_156 (lv_at hl 0 rfl) ?_
    refine y_isub C dX8_stand_158 ?_
    refine y_istore (lv' := [(4, .int (zI (v4 - z130))), (7, .int (zI z130)), (0, .ref (ad 0)), (1, .int (zI v1)), (2, .int (zI v2)), (3, .int (zI v3)), (5, .int (zI v5)), (6, .int (zI v6))]) C dX8_stand_159 hl (by decide) rfl (fun ls hl => ?_)
    refine y_iinc (lv' := [(6, .int (zI (v6 + 1))), (4, .int (zI (v4 - z130))), (7, .int (zI z130)), (0, .ref (ad 0)), (1, .int (zI v1)), (2, .int (zI v2)), (3, .int (zI v3)), (5, .int (zI v5))]) C dX8_stand_161 hl (k := 7) rfl (by decide) rfl (fun ls hl => ?_)
    refine y_goto (tgt := 102) C dX8_stand_164 (by decide) ?_
    exact hK102 _ _ _ _ _ _ _ _ _ _  hw (lv_sub hl [3, 4, 5, 6, 1, 7, 0] rfl) h
set_option maxRecDepth 100000 in
theorem k_X8_stand_102 {K51 : Int → Int → Int → St → Option (Int × St)} {K87 : Int → Int → Int → Int → Int → St → Option (Int × St)} (C : Cx cX8_stand RX8 8 none D cA adK adV A p s m args meth c) (hK51 : ∀ (v1 : Int) (v2 : Int) (v3 : Int) (σ : St) (H : Heap) (locs : List Loc) (ls : Array Slot) , At D cA ad kM 31 R A s σ H locs → lv_has ls 8 [(0, .ref (ad 0)), (1, .int (zI v1)), (2, .int (zI v2)), (3, .int (zI v3))] → K51 v1 v2 v3 σ = some res → W p l e (rmU 4 109) s m args below meth c H locs 0 0 (MQ below (QV D cA ad kM 31 R A res) args s 0 0 A) (F0 m 51 ls [])) (hK87 : ∀ (v1 : Int) (v2 : Int) (v3 : Int) (v4 : Int) (v5 : Int) (σ : St) (H : Heap) (locs : List Loc) (ls : Array Slot) , At D cA ad kM 31 R A s σ H locs → lv_has ls 8 [(0, .ref (ad 0)), (1, .int (zI v1)), (2, .int (zI v2)), (3, .int (zI v3)), (4, .int (zI v4)), (5, .int (zI v5))] → K87 v1 v2 v3 v4 v5 σ = some res → W p l e (rmU 4 109) s m args below meth c H locs 0 0 (MQ below (QV D cA ad kM 31 R A res) args s 0 0 A) (F0 m 87 ls [])) : ∀ (n : Nat) (v1 : Int) (v2 : Int) (v3 : Int) (v4 : Int) (v5 : Int) (v6 : Int) (σ : St) (H : Heap) (locs : List Loc) (ls : Array Slot) , At D cA ad kM 31 R A s σ H locs → lv_has ls 8 [(0, .ref (ad 0)), (1, .int (zI v1)), (2, .int (zI v2)), (3, .int (zI v3)), (4, .int (zI v4)), (5, .int (zI v5)), (6, .int (zI v6))] → p_X8_stand_102 K51 K87 n v1 v2 v3 v4 v5 v6 σ = some res → W p l e (rmU 4 109) s m args below meth c H locs 0 0 (MQ below (QV D cA ad kM 31 R A res) args s 0 0 A) (F0 m 102 ls []) := by
  intro n
  induction n with
  | zero =>
    intro v1 v2 v3 v4 v5 v6 σ H locs ls  hw hl h
    have h : none = some res := h
    cases h
  | succ n ih =>
    intro v1 v2 v3 v4 v5 v6 σ H locs ls  hw hl h
    exact k_X8_stand_102b C hK51 hK87 ih  hw hl h
set_option maxRecDepth 100000 in
set_option maxHeartbeats 4000000 in
theorem k_X8_stand_87b {K51 : Int → Int → Int → St → Option (Int × St)} {K87 : Int → Int → Int → Int → Int → St → Option (Int × St)} {v1 : Int} {v2 : Int} {v3 : Int} {v4 : Int} {v5 : Int} (C : Cx cX8_stand RX8 8 none D cA adK adV A p s m args meth c) (hK51 : ∀ (v1 : Int) (v2 : Int) (v3 : Int) (σ : St) (H : Heap) (locs : List Loc) (ls : Array Slot) , At D cA ad kM 31 R A s σ H locs → lv_has ls 8 [(0, .ref (ad 0)), (1, .int (zI v1)), (2, .int (zI v2)), (3, .int (zI v3))] → K51 v1 v2 v3 σ = some res → W p l e (rmU 4 109) s m args below meth c H locs 0 0 (MQ below (QV D cA ad kM 31 R A res) args s 0 0 A) (F0 m 51 ls [])) (hK87 : ∀ (v1 : Int) (v2 : Int) (v3 : Int) (v4 : Int) (v5 : Int) (σ : St) (H : Heap) (locs : List Loc) (ls : Array Slot) , At D cA ad kM 31 R A s σ H locs → lv_has ls 8 [(0, .ref (ad 0)), (1, .int (zI v1)), (2, .int (zI v2)), (3, .int (zI v3)), (4, .int (zI v4)), (5, .int (zI v5))] → K87 v1 v2 v3 v4 v5 σ = some res → W p l e (rmU 4 109) s m args below meth c H locs 0 0 (MQ below (QV D cA ad kM 31 R A res) args s 0 0 A) (F0 m 87 ls [])) {σ : St} {H : Heap} {locs : List Loc} {ls : Array Slot}  (hw : At D cA ad kM 31 R A s σ H locs) (hl : lv_has ls 8 [(0, .ref (ad 0)), (1, .int (zI v1)), (2, .int (zI v2)), (3, .int (zI v3)), (4, .int (zI v4)), (5, .int (zI v5))]) (h : p_X8_stand_87b K51 K87 v1 v2 v3 v4 v5 σ = some res) : W p l e (rmU 4 109) s m args below meth c H locs 0 0 (MQ below (QV D cA ad kM 31 R A res) args s 0 0 A) (F0 m 87 ls []) := by
  have h := h
  unfold p_X8_stand_87b at h
  refine y_iload C dX8_stand_87 (lv_at hl 5 rfl) ?_
  refine y_iload_n C dX8_stand_89 (lv_at hl 2 rfl) ?_
  refine y_icmp_ge (tgt := 173) C (a' := zm v5) (b' := zm v2) rfl rfl dX8_stand_90 (by decide) (fun hc => ?_) (fun hc => ?_)
  · rw [if_pos hc] at h
    refine y_iconst C dX8_stand_173 ?_
    refine y_istore (lv' := [(5, .int (zI 0)), (0, .ref (ad 0)), (1, .int (zI v1)), (2, .int (zI v2)), (3, .int (zI v3)), (4, .int (zI v4))]) C dX8_stand_174 hl (by decide) rfl (fun ls hl => ?_)
    exact k_X8_stand_176 C hK51 FU _ _ _ _ _ _ _ _ _  hw (lv_sub hl [1, 2, 3, 4, 5, 0] rfl) h
  · rw [if_neg hc] at h
    refine y_aload_n C dX8_stand_93 (lv_at hl 0 rfl) ?_
    refine y_iload C dX8_stand_94 (lv_at hl 5 rfl) ?_
    obtain ⟨x96, hc96, h⟩ := bd_some h
    refine y_cv (rest := []) hw (y_rV C hw km_0 (by decide) rfl rfl (c_X8_liveYear  hc96) mi_X8_liveYear wd_1268 wd_1270 ws_59 rfl ⟨by decide, by decide⟩ hl rfl (Nat.le_of_ble_eq_true rfl) dX8_stand_96) (fun H locs hw => ?_)
    refine y_iconst C dX8_stand_99 ?_
    refine y_istore (lv' := [(6, .int (zI 0)), (0, .ref (ad 0)), (1, .int (zI v1)), (2, .int (zI v2)), (3, .int (zI v3)), (4, .int (zI v4)), (5, .int (zI v5))]) C dX8_stand_100 hl (by decide) rfl (fun ls hl => ?_)
    exact k_X8_stand_102 C hK51 hK87 FU _ _ _ _ _ _ _ _ _ _  hw (lv_sub hl [1, 2, 3, 4, 5, 6, 0] rfl) h
set_option maxRecDepth 100000 in
theorem k_X8_stand_87 {K51 : Int → Int → Int → St → Option (Int × St)} (C : Cx cX8_stand RX8 8 none D cA adK adV A p s m args meth c) (hK51 : ∀ (v1 : Int) (v2 : Int) (v3 : Int) (σ : St) (H : Heap) (locs : List Loc) (ls : Array Slot) , At D cA ad kM 31 R A s σ H locs → lv_has ls 8 [(0, .ref (ad 0)), (1, .int (zI v1)), (2, .int (zI v2)), (3, .int (zI v3))] → K51 v1 v2 v3 σ = some res → W p l e (rmU 4 109) s m args below meth c H locs 0 0 (MQ below (QV D cA ad kM 31 R A res) args s 0 0 A) (F0 m 51 ls [])) : ∀ (n : Nat) (v1 : Int) (v2 : Int) (v3 : Int) (v4 : Int) (v5 : Int) (σ : St) (H : Heap) (locs : List Loc) (ls : Array Slot) , At D cA ad kM 31 R A s σ H locs → lv_has ls 8 [(0, .ref (ad 0)), (1, .int (zI v1)), (2, .int (zI v2)), (3, .int (zI v3)), (4, .int (zI v4)), (5, .int (zI v5))] → p_X8_stand_87 K51 n v1 v2 v3 v4 v5 σ = some res → W p l e (rmU 4 109) s m args below meth c H locs 0 0 (MQ below (QV D cA ad kM 31 R A res) args s 0 0 A) (F0 m 87 ls []) := by
  intro n
  induction n with
  | zero =>
    intro v1 v2 v3 v4 v5 σ H locs ls  hw hl h
    have h : none = some res := h
    cases h
  | succ n ih =>
    intro v1 v2 v3 v4 v5 σ H locs ls  hw hl h
    exact k_X8_stand_87b C hK51 ih  hw hl h
set_option maxRecDepth 100000 in
set_option maxHeartbeats 4000000 in
theorem k_X8_stand_64b {K51 : Int → Int → Int → St → Option (Int × St)} {K64 : Int → Int → Int → Int → Int → St → Option (Int × St)} {v1 : Int} {v2 : Int} {v3 : Int} {v4 : Int} {v5 : Int} (C : Cx cX8_stand RX8 8 none D cA adK adV A p s m args meth c) (hK51 : ∀ (v1 : Int) (v2 : Int) (v3 : Int) (σ : St) (H : Heap) (locs : List Loc) (ls : Array Slot) , At D cA ad kM 31 R A s σ H locs → lv_has ls 8 [(0, .ref (ad 0)), (1, .int (zI v1)), (2, .int (zI v2)), (3, .int (zI v3))] → K51 v1 v2 v3 σ = some res → W p l e (rmU 4 109) s m args below meth c H locs 0 0 (MQ below (QV D cA ad kM 31 R A res) args s 0 0 A) (F0 m 51 ls [])) (hK64 : ∀ (v1 : Int) (v2 : Int) (v3 : Int) (v4 : Int) (v5 : Int) (σ : St) (H : Heap) (locs : List Loc) (ls : Array Slot) , At D cA ad kM 31 R A s σ H locs → lv_has ls 8 [(0, .ref (ad 0)), (1, .int (zI v1)), (2, .int (zI v2)), (3, .int (zI v3)), (4, .int (zI v4)), (5, .int (zI v5))] → K64 v1 v2 v3 v4 v5 σ = some res → W p l e (rmU 4 109) s m args below meth c H locs 0 0 (MQ below (QV D cA ad kM 31 R A res) args s 0 0 A) (F0 m 64 ls [])) {σ : St} {H : Heap} {locs : List Loc} {ls : Array Slot}  (hw : At D cA ad kM 31 R A s σ H locs) (hl : lv_has ls 8 [(0, .ref (ad 0)), (1, .int (zI v1)), (2, .int (zI v2)), (3, .int (zI v3)), (4, .int (zI v4)), (5, .int (zI v5))]) (h : p_X8_stand_64b K51 K64 v1 v2 v3 v4 v5 σ = some res) : W p l e (rmU 4 109) s m args below meth c H locs 0 0 (MQ below (QV D cA ad kM 31 R A res) args s 0 0 A) (F0 m 64 ls []) := by
  have h := h
  unfold p_X8_stand_64b at h
  refine y_iload C dX8_stand_64 (lv_at hl 5 rfl) ?_
  refine y_iload_n C dX8_stand_66 (lv_at hl 2 rfl) ?_
  refine y_icmp_ge (tgt := 84) C (a' := zm v5) (b' := zm v2) rfl rfl dX8_stand_67 (by decide) (fun hc => ?_) (fun hc => ?_)
  · rw [if_pos hc] at h
    refine y_iconst C dX8_stand_84 ?_
    refine y_istore (lv' := [(5, .int (zI 0)), (0, .ref (ad 0)), (1, .int (zI v1)), (2, .int (zI v2)), (3, .int (zI v3)), (4, .int (zI v4))]) C dX8_stand_85 hl (by decide) rfl (fun ls hl => ?_)
    exact k_X8_stand_87 C hK51 FU _ _ _ _ _ _ _ _ _  hw (lv_sub hl [1, 2, 3, 4, 5, 0] rfl) h
  · rw [if_neg hc] at h
    refine y_aload_n C dX8_stand_70 (lv_at hl 0 rfl) ?_
    refine g8 C hw km_0 41 (by decide) wd_912 rfl dX8_stand_71 ?_
    refine y_iload C dX8_stand_74 (lv_at hl 5 rfl) ?_
    refine y_iconst C dX8_stand_76 ?_
    obtain ⟨hg77, h⟩ := gd_some h
    obtain ⟨σ77, eσ77, h⟩ := nx_some h
    refine y_iast C hw km_24 (i' := zm v5) rfl hg77 dX8_stand_77 (fun H locs hw => ?_)
    rw [← eσ77] at hw
    refine y_iinc (lv' := [(5, .int (zI (v5 + 1))), (0, .ref (ad 0)), (1, .int (zI v1)), (2, .int (zI v2)), (3, .int (zI v3)), (4, .int (zI v4))]) C dX8_stand_78 hl (k := 5) rfl (by decide) rfl (fun ls hl => ?_)
    refine y_goto (tgt := 64) C dX8_stand_81 (by decide) ?_
    exact hK64 _ _ _ _ _ _ _ _ _  hw (lv_sub hl [1, 2, 3, 4, 5, 0] rfl) h
set_option maxRecDepth 100000 in
theorem k_X8_stand_64 {K51 : Int → Int → Int → St → Option (Int × St)} (C : Cx cX8_stand RX8 8 none D cA adK adV A p s m args meth c) (hK51 : ∀ (v1 : Int) (v2 : Int) (v3 : Int) (σ : St) (H : Heap) (locs : List Loc) (ls : Array Slot) , At D cA ad kM 31 R A s σ H locs → lv_has ls 8 [(0, .ref (ad 0)), (1, .int (zI v1)), (2, .int (zI v2)), (3, .int (zI v3))] → K51 v1 v2 v3 σ = some res → W p l e (rmU 4 109) s m args below meth c H locs 0 0 (MQ below (QV D cA ad kM 31 R A res) args s 0 0 A) (F0 m 51 ls [])) : ∀ (n : Nat) (v1 : Int) (v2 : Int) (v3 : Int) (v4 : Int) (v5 : Int) (σ : St) (H : Heap) (locs : List Loc) (ls : Array Slot) , At D cA ad kM 31 R A s σ H locs → lv_has ls 8 [(0, .ref (ad 0)), (1, .int (zI v1)), (2, .int (zI v2)), (3, .int (zI v3)), (4, .int (zI v4)), (5, .int (zI v5))] → p_X8_stand_64 K51 n v1 v2 v3 v4 v5 σ = some res → W p l e (rmU 4 109) s m args below meth c H locs 0 0 (MQ below (QV D cA ad kM 31 R A res) args s 0 0 A) (F0 m 64 ls []) := by
  intro n
  induction n with
  | zero =>
    intro v1 v2 v3 v4 v5 σ H locs ls  hw hl h
    have h : none = some res := h
    cases h
  | succ n ih =>
    intro v1 v2 v3 v4 v5 σ H locs ls  hw hl h
    exact k_X8_stand_64b C hK51 ih  hw hl h
set_option maxRecDepth 100000 in
set_option maxHeartbeats 4000000 in
theorem k_X8_stand_51b {K51 : Int → Int → Int → St → Option (Int × St)} {v1 : Int} {v2 : Int} {v3 : Int} (C : Cx cX8_stand RX8 8 none D cA adK adV A p s m args meth c)  (hK51 : ∀ (v1 : Int) (v2 : Int) (v3 : Int) (σ : St) (H : Heap) (locs : List Loc) (ls : Array Slot) , At D cA ad kM 31 R A s σ H locs → lv_has ls 8 [(0, .ref (ad 0)), (1, .int (zI v1)), (2, .int (zI v2)), (3, .int (zI v3))] → K51 v1 v2 v3 σ = some res → W p l e (rmU 4 109) s m args below meth c H locs 0 0 (MQ below (QV D cA ad kM 31 R A res) args s 0 0 A) (F0 m 51 ls [])) {σ : St} {H : Heap} {locs : List Loc} {ls : Array Slot}  (hw : At D cA ad kM 31 R A s σ H locs) (hl : lv_has ls 8 [(0, .ref (ad 0)), (1, .int (zI v1)), (2, .int (zI v2)), (3, .int (zI v3))]) (h : p_X8_stand_51b K51 v1 v2 v3 σ = some res) : W p l e (rmU 4 109) s m args below meth c H locs 0 0 (MQ below (QV D cA ad kM 31 R A res) args s 0 0 A) (F0 m 51 ls []) := by
  have h := h
  unfold p_X8_stand_51b at h
  refine y_iload_n C dX8_stand_51 (lv_at hl 3 rfl) ?_
  refine y_iload_n C dX8_stand_52 (lv_at hl 1 rfl) ?_
  refine y_icmp_ge (tgt := 220) C (a' := zm v3) (b' := zm v1) rfl rfl dX8_stand_53 (by decide) (fun hc => ?_) (fun hc => ?_)
  · rw [if_pos hc] at h
    exact y_vret C hw h dX8_stand_220
  · rw [if_neg hc] at h
    refine y_ldcw C (z := 1000000) wd_1267 (by decide) dX8_stand_56 ?_
    refine y_istore (lv' := [(4, .int (zI 1000000)), (0, .ref (ad 0)), (1, .int (zI v1)), (2, .int (zI v2)), (3, .int (zI v3))]) C dX8_stand_59 hl (by decide) rfl (fun ls hl => ?_)
    refine y_iconst C dX8_stand_61 ?_
    refine y_istore (lv' := [(5, .int (zI 0)), (4, .int (zI 1000000)), (0, .ref (ad 0)), (1, .int (zI v1)), (2, .int (zI v2)), (3, .int (zI v3))]) C dX8_stand_62 hl (by decide) rfl (fun ls hl => ?_)
    exact k_X8_stand_64 C hK51 FU _ _ _ _ _ _ _ _ _  hw (lv_sub hl [2, 3, 4, 5, 1, 0] rfl) h
set_option maxRecDepth 100000 in
theorem k_X8_stand_51  (C : Cx cX8_stand RX8 8 none D cA adK adV A p s m args meth c)  : ∀ (n : Nat) (v1 : Int) (v2 : Int) (v3 : Int) (σ : St) (H : Heap) (locs : List Loc) (ls : Array Slot) , At D cA ad kM 31 R A s σ H locs → lv_has ls 8 [(0, .ref (ad 0)), (1, .int (zI v1)), (2, .int (zI v2)), (3, .int (zI v3))] → p_X8_stand_51  n v1 v2 v3 σ = some res → W p l e (rmU 4 109) s m args below meth c H locs 0 0 (MQ below (QV D cA ad kM 31 R A res) args s 0 0 A) (F0 m 51 ls []) := by
  intro n
  induction n with
  | zero =>
    intro v1 v2 v3 σ H locs ls  hw hl h
    have h : none = some res := h
    cases h
  | succ n ih =>
    intro v1 v2 v3 σ H locs ls  hw hl h
    exact k_X8_stand_51b C  ih  hw hl h
set_option maxRecDepth 100000 in
set_option maxHeartbeats 4000000 in
theorem k_X8_stand_42 {K12 : Int → Int → Int → St → Option (Int × St)} {v1 : Int} {v2 : Int} {v3 : Int} {os0 : Int} {vs1 : Int} {vs2 : Int} (C : Cx cX8_stand RX8 8 none D cA adK adV A p s m args meth c) (hK12 : ∀ (v1 : Int) (v2 : Int) (v3 : Int) (σ : St) (H : Heap) (locs : List Loc) (ls : Array Slot) , At D cA ad kM 31 R A s σ H locs → lv_has ls 8 [(0, .ref (ad 0)), (1, .int (zI v1)), (2, .int (zI v2)), (3, .int (zI v3))] → K12 v1 v2 v3 σ = some res → W p l e (rmU 4 109) s m args below meth c H locs 0 0 (MQ below (QV D cA ad kM 31 R A res) args s 0 0 A) (F0 m 12 ls [])) {σ : St} {H : Heap} {locs : List Loc} {ls : Array Slot} (hos0 : kM os0 = (20, 10)) (hw : At D cA ad kM 31 R A s σ H locs) (hl : lv_has ls 8 [(0, .ref (ad 0)), (1, .int (zI v1)), (2, .int (zI v2)), (3, .int (zI v3))]) (h : p_X8_stand_42 K12 v1 v2 v3 os0 vs1 vs2 σ = some res) : W p l e (rmU 4 109) s m args below meth c H locs 0 0 (MQ below (QV D cA ad kM 31 R A res) args s 0 0 A) (F0 m 42 ls [.int (zI vs2), .int (zI vs1), .ref (ad os0)]) := by
  have h := h
  unfold p_X8_stand_42 at h
  obtain ⟨hg42, h⟩ := gd_some h
  obtain ⟨σ42, eσ42, h⟩ := nx_some h
  refine y_iast C hw hos0 (i' := zm vs1) rfl hg42 dX8_stand_42 (fun H locs hw => ?_)
  rw [← eσ42] at hw
  refine y_iinc (lv' := [(3, .int (zI (v3 + 1))), (0, .ref (ad 0)), (1, .int (zI v1)), (2, .int (zI v2))]) C dX8_stand_43 hl (k := 3) rfl (by decide) rfl (fun ls hl => ?_)
  refine y_goto (tgt := 12) C dX8_stand_46 (by decide) ?_
  exact hK12 _ _ _ _ _ _ _  hw (lv_sub hl [1, 2, 3, 0] rfl) h
set_option maxRecDepth 100000 in
set_option maxHeartbeats 4000000 in
theorem k_X8_stand_12b {K12 : Int → Int → Int → St → Option (Int × St)} {v1 : Int} {v2 : Int} {v3 : Int} (C : Cx cX8_stand RX8 8 none D cA adK adV A p s m args meth c)  (hK12 : ∀ (v1 : Int) (v2 : Int) (v3 : Int) (σ : St) (H : Heap) (locs : List Loc) (ls : Array Slot) , At D cA ad kM 31 R A s σ H locs → lv_has ls 8 [(0, .ref (ad 0)), (1, .int (zI v1)), (2, .int (zI v2)), (3, .int (zI v3))] → K12 v1 v2 v3 σ = some res → W p l e (rmU 4 109) s m args below meth c H locs 0 0 (MQ below (QV D cA ad kM 31 R A res) args s 0 0 A) (F0 m 12 ls [])) {σ : St} {H : Heap} {locs : List Loc} {ls : Array Slot}  (hw : At D cA ad kM 31 R A s σ H locs) (hl : lv_has ls 8 [(0, .ref (ad 0)), (1, .int (zI v1)), (2, .int (zI v2)), (3, .int (zI v3))]) (h : p_X8_stand_12b K12 v1 v2 v3 σ = some res) : W p l e (rmU 4 109) s m args below meth c H locs 0 0 (MQ below (QV D cA ad kM 31 R A res) args s 0 0 A) (F0 m 12 ls []) := by
  have h := h
  unfold p_X8_stand_12b at h
  refine y_iload_n C dX8_stand_12 (lv_at hl 3 rfl) ?_
  refine y_iload_n C dX8_stand_13 (lv_at hl 2 rfl) ?_
  refine y_icmp_ge (tgt := 49) C (a' := zm v3) (b' := zm v2) rfl rfl dX8_stand_14 (by decide) (fun hc => ?_) (fun hc => ?_)
  · rw [if_pos hc] at h
    refine y_iconst C dX8_stand_49 ?_
    refine y_istore_n (lv' := [(3, .int (zI 0)), (0, .ref (ad 0)), (1, .int (zI v1)), (2, .int (zI v2))]) C dX8_stand_50 hl (by decide) rfl (fun ls hl => ?_)
    exact k_X8_stand_51 C  FU _ _ _ _ _ _ _  hw (lv_sub hl [1, 2, 3, 0] rfl) h
  · rw [if_neg hc] at h
    refine y_aload_n C dX8_stand_17 (lv_at hl 0 rfl) ?_
    refine g8 C hw km_0 40 (by decide) wd_911 rfl dX8_stand_18 ?_
    refine y_iload_n C dX8_stand_21 (lv_at hl 3 rfl) ?_
    refine y_iload_n C dX8_stand_22 (lv_at hl 3 rfl) ?_
    refine y_aload_n C dX8_stand_23 (lv_at hl 0 rfl) ?_
    refine g8 C hw km_0 6 (by decide) wd_877 rfl dX8_stand_24 ?_
    refine y_aload_n C dX8_stand_27 (lv_at hl 0 rfl) ?_
    refine g8 C hw km_0 29 (by decide) wd_900 rfl dX8_stand_28 ?_
    obtain ⟨hg31, h⟩ := gd_some h
    refine y_iald C hw km_7 (i' := zm (σ 0 29)) rfl hg31 dX8_stand_31 ?_
    refine y_icmp_ne (tgt := 41) C (a' := zm v3) (b' := zm (σ 7 (zm (σ 0 29)))) rfl rfl dX8_stand_32 (by decide) (fun hc => ?_) (fun hc => ?_)
    · rw [if_pos hc] at h
      refine y_ldcw C (z := 1000000) wd_1267 (by decide) dX8_stand_35 ?_
      refine y_goto (tgt := 42) C dX8_stand_38 (by decide) ?_
      exact k_X8_stand_42 C hK12 km_23 hw hl h
    · rw [if_neg hc] at h
      refine y_iconst C dX8_stand_41 ?_
      exact k_X8_stand_42 C hK12 km_23 hw hl h
set_option maxRecDepth 100000 in
theorem k_X8_stand_12  (C : Cx cX8_stand RX8 8 none D cA adK adV A p s m args meth c)  : ∀ (n : Nat) (v1 : Int) (v2 : Int) (v3 : Int) (σ : St) (H : Heap) (locs : List Loc) (ls : Array Slot) , At D cA ad kM 31 R A s σ H locs → lv_has ls 8 [(0, .ref (ad 0)), (1, .int (zI v1)), (2, .int (zI v2)), (3, .int (zI v3))] → p_X8_stand_12  n v1 v2 v3 σ = some res → W p l e (rmU 4 109) s m args below meth c H locs 0 0 (MQ below (QV D cA ad kM 31 R A res) args s 0 0 A) (F0 m 12 ls []) := by
  intro n
  induction n with
  | zero =>
    intro v1 v2 v3 σ H locs ls  hw hl h
    have h : none = some res := h
    cases h
  | succ n ih =>
    intro v1 v2 v3 σ H locs ls  hw hl h
    exact k_X8_stand_12b C  ih  hw hl h
set_option maxRecDepth 100000 in
set_option maxHeartbeats 4000000 in
theorem k_X8_stand_0  {v1 : Int} (C : Cx cX8_stand RX8 8 none D cA adK adV A p s m args meth c)  {σ : St} {H : Heap} {locs : List Loc} {ls : Array Slot}  (hw : At D cA ad kM 31 R A s σ H locs) (hl : lv_has ls 8 [(0, .ref (ad 0)), (1, .int (zI v1))]) (h : p_X8_stand  v1 σ = some res) : W p l e (rmU 4 109) s m args below meth c H locs 0 0 (MQ below (QV D cA ad kM 31 R A res) args s 0 0 A) (F0 m 0 ls []) := by
  have h := h
  unfold p_X8_stand at h
  refine y_aload_n C dX8_stand_0 (lv_at hl 0 rfl) ?_
  refine g8 C hw km_0 0 (by decide) wd_871 rfl dX8_stand_1 ?_
  refine y_aload_n C dX8_stand_4 (lv_at hl 0 rfl) ?_
  refine g8 C hw km_0 29 (by decide) wd_900 rfl dX8_stand_5 ?_
  obtain ⟨hg8, h⟩ := gd_some h
  refine y_iald C hw km_1 (i' := zm (σ 0 29)) rfl hg8 dX8_stand_8 ?_
  refine y_istore_n (lv' := [(2, .int (zI (σ 1 (zm (σ 0 29))))), (0, .ref (ad 0)), (1, .int (zI v1))]) C dX8_stand_9 hl (by decide) rfl (fun ls hl => ?_)
  refine y_iconst C dX8_stand_10 ?_
  refine y_istore_n (lv' := [(3, .int (zI 0)), (2, .int (zI (σ 1 (zm (σ 0 29))))), (0, .ref (ad 0)), (1, .int (zI v1))]) C dX8_stand_11 hl (by decide) rfl (fun ls hl => ?_)
  exact k_X8_stand_12 C  FU _ _ _ _ _ _ _  hw (lv_sub hl [2, 3, 1, 0] rfl) h
theorem c_X8_stand {l : Launch} {D : va_G} {cA : Nat → ClassId} {adK adV : Nat → Nat} {A : Nat → Prop} {ad : Int → Nat} {R : va_W} {σ : St} {res : Int × St} {v1 : Int}  (h : p_X8_stand v1 σ = some res) : Met l yX8_stand (wsU yX8_stand cX8_stand 8 none) (rmU 4 109) (va_Pc [.ref (ad 0), .int (zI v1)] (Pr D cA adK adV ad kM 31 R A σ)) (QV D cA ad kM 31 R A res) 0 0 A :=
  y_met (own := RX8) (by decide) rfl _ (Nat.le_of_ble_eq_true rfl) (fun p e s m args below meth c ls C hl hw => k_X8_stand_0 C  hw hl h)
/-! RungHouseModel.isBy -/
set_option maxRecDepth 100000 in
set_option maxHeartbeats 4000000 in
theorem k_X8_isBy_13   (C : Cx cX8_isBy RX8 2 (some .boolean) D cA adK adV A p s m args meth c)  {σ : St} {H : Heap} {locs : List Loc} {ls : Array Slot}  (hw : At D cA ad kM 31 R A s σ H locs) (hl : lv_has ls 2 []) (h : p_X8_isBy_13   σ = some res) : W p l e (rmU 2 46) s m args below meth c H locs 0 0 (MQ below (QI D cA ad kM 31 R A res) args s 0 0 A) (F0 m 13 ls []) := by
  have h := h
  unfold p_X8_isBy_13 at h
  refine y_iconst C dX8_isBy_13 ?_
  refine y_goto (tgt := 18) C dX8_isBy_14 (by decide) ?_
  exact y_zret C hw (by decide) h dX8_isBy_18
set_option maxRecDepth 100000 in
set_option maxHeartbeats 4000000 in
theorem k_X8_isBy_0  {v1 : Int} (C : Cx cX8_isBy RX8 2 (some .boolean) D cA adK adV A p s m args meth c)  {σ : St} {H : Heap} {locs : List Loc} {ls : Array Slot}  (hw : At D cA ad kM 31 R A s σ H locs) (hl : lv_has ls 2 [(0, .ref (ad 0)), (1, .int (zI v1))]) (h : p_X8_isBy  v1 σ = some res) : W p l e (rmU 2 46) s m args below meth c H locs 0 0 (MQ below (QI D cA ad kM 31 R A res) args s 0 0 A) (F0 m 0 ls []) := by
  have h := h
  unfold p_X8_isBy at h
  refine y_iload_n C dX8_isBy_0 (lv_at hl 1 rfl) ?_
  refine y_iconst C dX8_isBy_1 ?_
  refine y_icmp_eq (tgt := 13) C (a' := zm v1) (b' := (-1)) rfl (by decide) dX8_isBy_2 (by decide) (fun hc => ?_) (fun hc => ?_)
  · rw [if_pos hc] at h
    exact k_X8_isBy_13 C   hw (lv_sub hl [] rfl) h
  · rw [if_neg hc] at h
    refine y_aload_n C dX8_isBy_5 (lv_at hl 0 rfl) ?_
    refine y_iload_n C dX8_isBy_6 (lv_at hl 1 rfl) ?_
    obtain ⟨x7, hc7, h⟩ := bd_some h
    refine y_ci (rest := []) hw (y_rV C hw km_0 (by decide) rfl rfl (c_X8_isRule  hc7) mi_X8_isRule wd_1242 wd_1244 ws_56 rfl ⟨by decide, by decide⟩ hl rfl (Nat.le_of_ble_eq_true rfl) dX8_isBy_7) (fun H locs hw => ?_)
    refine y_if_eq (tgt := 17) C (a' := zm x7.1) rfl dX8_isBy_10 (by decide) (fun hc => ?_) (fun hc => ?_)
    · rw [if_pos hc] at h
      refine y_iconst C dX8_isBy_17 ?_
      exact y_zret C hw (by decide) h dX8_isBy_18
    · rw [if_neg hc] at h
      exact k_X8_isBy_13 C   hw (lv_sub hl [] rfl) h
theorem c_X8_isBy {l : Launch} {D : va_G} {cA : Nat → ClassId} {adK adV : Nat → Nat} {A : Nat → Prop} {ad : Int → Nat} {R : va_W} {σ : St} {res : Int × St} {v1 : Int}  (h : p_X8_isBy v1 σ = some res) : Met l yX8_isBy (wsU yX8_isBy cX8_isBy 2 (some .boolean)) (rmU 2 46) (va_Pc [.ref (ad 0), .int (zI v1)] (Pr D cA adK adV ad kM 31 R A σ)) (QI D cA ad kM 31 R A res) 0 0 A :=
  y_met (own := RX8) (by decide) rfl _ (Nat.le_of_ble_eq_true rfl) (fun p e s m args below meth c ls C hl hw => k_X8_isBy_0 C  hw hl h)
/-! RungHouseModel.standing -/
set_option maxRecDepth 100000 in
set_option maxHeartbeats 4000000 in
theorem k_X8_standing_0  {v1 : Int} {v2 : Int} {v3 : Int} {v4 : Int} {v5 : Int} {v6 : Int} (C : Cx cX8_standing RX8 7 (some .int) D cA adK adV A p s m args meth c)  {σ : St} {H : Heap} {locs : List Loc} {ls : Array Slot}  (hw : At D cA ad kM 31 R A s σ H locs) (hl : lv_has ls 7 [(0, .ref (ad 0)), (1, .int (zI v1)), (2, .int (zI v2)), (3, .int (zI v3)), (4, .int (zI v4)), (5, .int (zI v5)), (6, .int (zI v6))]) (h : p_X8_standing  v1 v2 v3 v4 v5 v6 σ = some res) : W p l e (rmU 5 136) s m args below meth c H locs 0 0 (MQ below (QI D cA ad kM 31 R A res) args s 0 0 A) (F0 m 0 ls []) := by
  have h := h
  unfold p_X8_standing at h
  refine y_aload_n C dX8_standing_0 (lv_at hl 0 rfl) ?_
  refine y_iload_n C dX8_standing_1 (lv_at hl 1 rfl) ?_
  obtain ⟨x2, hc2, h⟩ := bd_some h
  refine y_ci (rest := []) hw (y_rV C hw km_0 (by decide) rfl rfl (c_X8_isSort  hc2) mi_X8_isSort wd_1138 wd_1140 ws_39 rfl ⟨by decide, by decide⟩ hl rfl (Nat.le_of_ble_eq_true rfl) dX8_standing_2) (fun H locs hw => ?_)
  refine y_if_eq (tgt := 26) C (a' := zm x2.1) rfl dX8_standing_5 (by decide) (fun hc => ?_) (fun hc => ?_)
  · rw [if_pos hc] at h
    refine y_ldc C (z := (-1000000001)) wd_1037 (by decide) dX8_standing_26 ?_
    exact y_iret C hw h dX8_standing_28
  · rw [if_neg hc] at h
    refine y_aload_n C dX8_standing_8 (lv_at hl 0 rfl) ?_
    refine y_iload_n C dX8_standing_9 (lv_at hl 2 rfl) ?_
    refine y_iload C dX8_standing_10 (lv_at hl 6 rfl) ?_
    obtain ⟨x12, hc12, h⟩ := bd_some h
    refine y_ci (rest := []) hw (y_rV C hw km_0 (by decide) rfl rfl (c_X8_isRung  hc12) mi_X8_isRung wd_1104 wd_1106 ws_34 rfl ⟨by decide, by decide⟩ hl rfl (Nat.le_of_ble_eq_true rfl) dX8_standing_12) (fun H locs hw => ?_)
    refine y_if_eq (tgt := 26) C (a' := zm x12.1) rfl dX8_standing_15 (by decide) (fun hc => ?_) (fun hc => ?_)
    · rw [if_pos hc] at h
      refine y_ldc C (z := (-1000000001)) wd_1037 (by decide) dX8_standing_26 ?_
      exact y_iret C hw h dX8_standing_28
    · rw [if_neg hc] at h
      refine y_aload_n C dX8_standing_18 (lv_at hl 0 rfl) ?_
      refine y_iload_n C dX8_standing_19 (lv_at hl 3 rfl) ?_
      obtain ⟨x20, hc20, h⟩ := bd_some h
      refine y_ci (rest := []) hw (y_rV C hw km_0 (by decide) rfl rfl (c_X8_isBy  hc20) mi_X8_isBy wd_1259 wd_1261 ws_57 rfl ⟨by decide, by decide⟩ hl rfl (Nat.le_of_ble_eq_true rfl) dX8_standing_20) (fun H locs hw => ?_)
      refine y_if_ne (tgt := 29) C (a' := zm x20.1) rfl dX8_standing_23 (by decide) (fun hc => ?_) (fun hc => ?_)
      · rw [if_pos hc] at h
        refine y_ldc C (z := (-1000000001)) wd_1037 (by decide) dX8_standing_26 ?_
        exact y_iret C hw h dX8_standing_28
      · rw [if_neg hc] at h
        refine y_iload C dX8_standing_29 (lv_at hl 4 rfl) ?_
        obtain ⟨x31, hc31, h⟩ := bd_some h
        refine y_ci (rest := []) hw (y_rS C hw (c_X8_isTime  hc31) mi_X8_isTime wd_1168 wd_1169 rfl ⟨by decide, by decide⟩ hl rfl (Nat.le_of_ble_eq_true rfl) dX8_standing_31) (fun H locs hw => ?_)
        refine y_if_eq (tgt := 50) C (a' := zm x31.1) rfl dX8_standing_34 (by decide) (fun hc => ?_) (fun hc => ?_)
        · rw [if_pos hc] at h
          refine y_ldc C (z := (-1000000002)) wd_1030 (by decide) dX8_standing_50 ?_
          exact y_iret C hw h dX8_standing_52
        · rw [if_neg hc] at h
          refine y_iload C dX8_standing_37 (lv_at hl 5 rfl) ?_
          refine y_i2l C rfl dX8_standing_39 ?_
          refine y_lconst C (z' := 0) dX8_standing_40 (by decide) ?_
          refine y_ldc2 C (z := 30) wd_1171 (by decide) dX8_standing_41 ?_
          obtain ⟨x44, hc44, h⟩ := bd_some h
          refine y_ci (rest := []) hw (y_rS C hw (c_X8_within  hc44) mi_X8_within wd_1027 wd_1028 rfl ⟨by decide, by decide⟩ hl rfl (Nat.le_of_ble_eq_true rfl) dX8_standing_44) (fun H locs hw => ?_)
          refine y_if_ne (tgt := 53) C (a' := zm x44.1) rfl dX8_standing_47 (by decide) (fun hc => ?_) (fun hc => ?_)
          · rw [if_pos hc] at h
            refine y_ldc C (z := (-1000000002)) wd_1030 (by decide) dX8_standing_50 ?_
            exact y_iret C hw h dX8_standing_52
          · rw [if_neg hc] at h
            refine y_aload_n C dX8_standing_53 (lv_at hl 0 rfl) ?_
            refine y_iload_n C dX8_standing_54 (lv_at hl 1 rfl) ?_
            refine y_iload_n C dX8_standing_55 (lv_at hl 2 rfl) ?_
            refine y_iload_n C dX8_standing_56 (lv_at hl 3 rfl) ?_
            refine y_iload C dX8_standing_57 (lv_at hl 4 rfl) ?_
            obtain ⟨x59, hc59, h⟩ := bd_some h
            refine y_cv (rest := []) hw (y_rV C hw km_0 (by decide) rfl rfl (c_X8_work  hc59) mi_X8_work wd_1172 wd_1174 ws_44 rfl ⟨by decide, by decide⟩ hl rfl (Nat.le_of_ble_eq_true rfl) dX8_standing_59) (fun H locs hw => ?_)
            refine y_aload_n C dX8_standing_62 (lv_at hl 0 rfl) ?_
            refine y_iload C dX8_standing_63 (lv_at hl 5 rfl) ?_
            obtain ⟨x65, hc65, h⟩ := bd_some h
            refine y_cv (rest := []) hw (y_rV C hw km_0 (by decide) rfl rfl (c_X8_stand  hc65) mi_X8_stand wd_1263 wd_1265 ws_58 rfl ⟨by decide, by decide⟩ hl rfl (Nat.le_of_ble_eq_true rfl) dX8_standing_65) (fun H locs hw => ?_)
            refine y_aload_n C dX8_standing_68 (lv_at hl 0 rfl) ?_
            refine g8 C hw km_0 40 (by decide) wd_911 rfl dX8_standing_69 ?_
            refine y_iload C dX8_standing_72 (lv_at hl 6 rfl) ?_
            obtain ⟨hg74, h⟩ := gd_some h
            refine y_iald C hw km_23 (i' := zm v6) rfl hg74 dX8_standing_74 ?_
            exact y_iret C hw h dX8_standing_75
theorem c_X8_standing {l : Launch} {D : va_G} {cA : Nat → ClassId} {adK adV : Nat → Nat} {A : Nat → Prop} {ad : Int → Nat} {R : va_W} {σ : St} {res : Int × St} {v1 : Int} {v2 : Int} {v3 : Int} {v4 : Int} {v5 : Int} {v6 : Int}  (h : p_X8_standing v1 v2 v3 v4 v5 v6 σ = some res) : Met l yX8_standing (wsU yX8_standing cX8_standing 7 (some .int)) (rmU 5 136) (va_Pc [.ref (ad 0), .int (zI v1), .int (zI v2), .int (zI v3), .int (zI v4), .int (zI v5), .int (zI v6)] (Pr D cA adK adV ad kM 31 R A σ)) (QI D cA ad kM 31 R A res) 0 0 A :=
  y_met (own := RX8) (by decide) rfl _ (Nat.le_of_ble_eq_true rfl) (fun p e s m args below meth c ls C hl hw => k_X8_standing_0 C  hw hl h)
/-! RungHouseModel.odds -/
set_option maxRecDepth 100000 in
set_option maxHeartbeats 4000000 in
theorem k_X8_odds_0  {v1 : Int} {v2 : Int} {v3 : Int} {v4 : Int} {v5 : Int} {v6 : Int} (C : Cx cX8_odds RX8 7 (some .int) D cA adK adV A p s m args meth c)  {σ : St} {H : Heap} {locs : List Loc} {ls : Array Slot}  (hw : At D cA ad kM 31 R A s σ H locs) (hl : lv_has ls 7 [(0, .ref (ad 0)), (1, .int (zI v1)), (2, .int (zI v2)), (3, .int (zI v3)), (4, .int (zI v4)), (5, .int (zI v5)), (6, .int (zI v6))]) (h : p_X8_odds  v1 v2 v3 v4 v5 v6 σ = some res) : W p l e (rmU 5 136) s m args below meth c H locs 0 0 (MQ below (QI D cA ad kM 31 R A res) args s 0 0 A) (F0 m 0 ls []) := by
  have h := h
  unfold p_X8_odds at h
  refine y_aload_n C dX8_odds_0 (lv_at hl 0 rfl) ?_
  refine y_iload_n C dX8_odds_1 (lv_at hl 1 rfl) ?_
  obtain ⟨x2, hc2, h⟩ := bd_some h
  refine y_ci (rest := []) hw (y_rV C hw km_0 (by decide) rfl rfl (c_X8_isSort  hc2) mi_X8_isSort wd_1138 wd_1140 ws_39 rfl ⟨by decide, by decide⟩ hl rfl (Nat.le_of_ble_eq_true rfl) dX8_odds_2) (fun H locs hw => ?_)
  refine y_if_eq (tgt := 26) C (a' := zm x2.1) rfl dX8_odds_5 (by decide) (fun hc => ?_) (fun hc => ?_)
  · rw [if_pos hc] at h
    refine y_ldc C (z := (-1000000001)) wd_1037 (by decide) dX8_odds_26 ?_
    exact y_iret C hw h dX8_odds_28
  · rw [if_neg hc] at h
    refine y_aload_n C dX8_odds_8 (lv_at hl 0 rfl) ?_
    refine y_iload_n C dX8_odds_9 (lv_at hl 2 rfl) ?_
    refine y_iload C dX8_odds_10 (lv_at hl 5 rfl) ?_
    obtain ⟨x12, hc12, h⟩ := bd_some h
    refine y_ci (rest := []) hw (y_rV C hw km_0 (by decide) rfl rfl (c_X8_isRung  hc12) mi_X8_isRung wd_1104 wd_1106 ws_34 rfl ⟨by decide, by decide⟩ hl rfl (Nat.le_of_ble_eq_true rfl) dX8_odds_12) (fun H locs hw => ?_)
    refine y_if_eq (tgt := 26) C (a' := zm x12.1) rfl dX8_odds_15 (by decide) (fun hc => ?_) (fun hc => ?_)
    · rw [if_pos hc] at h
      refine y_ldc C (z := (-1000000001)) wd_1037 (by decide) dX8_odds_26 ?_
      exact y_iret C hw h dX8_odds_28
    · rw [if_neg hc] at h
      refine y_aload_n C dX8_odds_18 (lv_at hl 0 rfl) ?_
      refine y_iload_n C dX8_odds_19 (lv_at hl 3 rfl) ?_
      obtain ⟨x20, hc20, h⟩ := bd_some h
      refine y_ci (rest := []) hw (y_rV C hw km_0 (by decide) rfl rfl (c_X8_isBy  hc20) mi_X8_isBy wd_1259 wd_1261 ws_57 rfl ⟨by decide, by decide⟩ hl rfl (Nat.le_of_ble_eq_true rfl) dX8_odds_20) (fun H locs hw => ?_)
      refine y_if_ne (tgt := 29) C (a' := zm x20.1) rfl dX8_odds_23 (by decide) (fun hc => ?_) (fun hc => ?_)
      · rw [if_pos hc] at h
        refine y_ldc C (z := (-1000000001)) wd_1037 (by decide) dX8_odds_26 ?_
        exact y_iret C hw h dX8_odds_28
      · rw [if_neg hc] at h
        refine y_iload C dX8_odds_29 (lv_at hl 4 rfl) ?_
        obtain ⟨x31, hc31, h⟩ := bd_some h
        refine y_ci (rest := []) hw (y_rS C hw (c_X8_isTime  hc31) mi_X8_isTime wd_1168 wd_1169 rfl ⟨by decide, by decide⟩ hl rfl (Nat.le_of_ble_eq_true rfl) dX8_odds_31) (fun H locs hw => ?_)
        refine y_if_eq (tgt := 50) C (a' := zm x31.1) rfl dX8_odds_34 (by decide) (fun hc => ?_) (fun hc => ?_)
        · rw [if_pos hc] at h
          refine y_ldc C (z := (-1000000002)) wd_1030 (by decide) dX8_odds_50 ?_
          exact y_iret C hw h dX8_odds_52
        · rw [if_neg hc] at h
          refine y_iload C dX8_odds_37 (lv_at hl 6 rfl) ?_
          refine y_i2l C rfl dX8_odds_39 ?_
          refine y_lconst C (z' := 0) dX8_odds_40 (by decide) ?_
          refine y_ldc2 C (z := 3) wd_1112 (by decide) dX8_odds_41 ?_
          obtain ⟨x44, hc44, h⟩ := bd_some h
          refine y_ci (rest := []) hw (y_rS C hw (c_X8_within  hc44) mi_X8_within wd_1027 wd_1028 rfl ⟨by decide, by decide⟩ hl rfl (Nat.le_of_ble_eq_true rfl) dX8_odds_44) (fun H locs hw => ?_)
          refine y_if_ne (tgt := 53) C (a' := zm x44.1) rfl dX8_odds_47 (by decide) (fun hc => ?_) (fun hc => ?_)
          · rw [if_pos hc] at h
            refine y_ldc C (z := (-1000000002)) wd_1030 (by decide) dX8_odds_50 ?_
            exact y_iret C hw h dX8_odds_52
          · rw [if_neg hc] at h
            refine y_aload_n C dX8_odds_53 (lv_at hl 0 rfl) ?_
            refine y_iload_n C dX8_odds_54 (lv_at hl 1 rfl) ?_
            refine y_iload_n C dX8_odds_55 (lv_at hl 2 rfl) ?_
            refine y_iload_n C dX8_odds_56 (lv_at hl 3 rfl) ?_
            refine y_iload C dX8_odds_57 (lv_at hl 4 rfl) ?_
            obtain ⟨x59, hc59, h⟩ := bd_some h
            refine y_cv (rest := []) hw (y_rV C hw km_0 (by decide) rfl rfl (c_X8_work  hc59) mi_X8_work wd_1172 wd_1174 ws_44 rfl ⟨by decide, by decide⟩ hl rfl (Nat.le_of_ble_eq_true rfl) dX8_odds_59) (fun H locs hw => ?_)
            refine y_aload_n C dX8_odds_62 (lv_at hl 0 rfl) ?_
            refine y_iload C dX8_odds_63 (lv_at hl 5 rfl) ?_
            obtain ⟨x65, hc65, h⟩ := bd_some h
            refine y_cv (rest := []) hw (y_rV C hw km_0 (by decide) rfl rfl (c_X8_liveYear  hc65) mi_X8_liveYear wd_1268 wd_1270 ws_59 rfl ⟨by decide, by decide⟩ hl rfl (Nat.le_of_ble_eq_true rfl) dX8_odds_65) (fun H locs hw => ?_)
            refine y_aload_n C dX8_odds_68 (lv_at hl 0 rfl) ?_
            refine g8 C hw km_0 37 (by decide) wd_908 rfl dX8_odds_69 ?_
            refine y_iload C dX8_odds_72 (lv_at hl 6 rfl) ?_
            obtain ⟨hg74, h⟩ := gd_some h
            refine y_iald C hw km_21 (i' := zm v6) rfl hg74 dX8_odds_74 ?_
            exact y_iret C hw h dX8_odds_75
theorem c_X8_odds {l : Launch} {D : va_G} {cA : Nat → ClassId} {adK adV : Nat → Nat} {A : Nat → Prop} {ad : Int → Nat} {R : va_W} {σ : St} {res : Int × St} {v1 : Int} {v2 : Int} {v3 : Int} {v4 : Int} {v5 : Int} {v6 : Int}  (h : p_X8_odds v1 v2 v3 v4 v5 v6 σ = some res) : Met l yX8_odds (wsU yX8_odds cX8_odds 7 (some .int)) (rmU 5 136) (va_Pc [.ref (ad 0), .int (zI v1), .int (zI v2), .int (zI v3), .int (zI v4), .int (zI v5), .int (zI v6)] (Pr D cA adK adV ad kM 31 R A σ)) (QI D cA ad kM 31 R A res) 0 0 A :=
  y_met (own := RX8) (by decide) rfl _ (Nat.le_of_ble_eq_true rfl) (fun p e s m args below meth c ls C hl hw => k_X8_odds_0 C  hw hl h)
/-! RungHouseModel.evenAt -/
set_option maxRecDepth 100000 in
set_option maxHeartbeats 4000000 in
theorem k_X8_evenAt_115  {vs0 : Int} (C : Cx cX8_evenAt RX8 8 (some .int) D cA adK adV A p s m args meth c)  {σ : St} {H : Heap} {locs : List Loc} {ls : Array Slot}  (hw : At D cA ad kM 31 R A s σ H locs) (hl : lv_has ls 8 []) (h : p_X8_evenAt_115  vs0 σ = some res) : W p l e (rmU 5 136) s m args below meth c H locs 0 0 (MQ below (QI D cA ad kM 31 R A res) args s 0 0 A) (F0 m 115 ls [.long (zJ vs0)]) := by
  have h := h
  unfold p_X8_evenAt_115 at h
  refine y_l2i C dX8_evenAt_115 ?_
  exact y_iret C hw h dX8_evenAt_116
set_option maxRecDepth 100000 in
set_option maxHeartbeats 4000000 in
theorem k_X8_evenAt_13b {K13 : Int → Int → Int → Int → St → Option (Int × St)} {v2 : Int} {v3 : Int} {v5 : Int} {v7 : Int} (C : Cx cX8_evenAt RX8 8 (some .int) D cA adK adV A p s m args meth c)  (hK13 : ∀ (v2 : Int) (v3 : Int) (v5 : Int) (v7 : Int) (σ : St) (H : Heap) (locs : List Loc) (ls : Array Slot) , At D cA ad kM 31 R A s σ H locs → lv_has ls 8 [(0, .ref (ad 0)), (2, .int (zI v2)), (3, .long (zJ v3)), (5, .long (zJ v5)), (7, .int (zI v7))] → K13 v2 v3 v5 v7 σ = some res → W p l e (rmU 5 136) s m args below meth c H locs 0 0 (MQ below (QI D cA ad kM 31 R A res) args s 0 0 A) (F0 m 13 ls [])) {σ : St} {H : Heap} {locs : List Loc} {ls : Array Slot}  (hw : At D cA ad kM 31 R A s σ H locs) (hl : lv_has ls 8 [(0, .ref (ad 0)), (2, .int (zI v2)), (3, .long (zJ v3)), (5, .long (zJ v5)), (7, .int (zI v7))]) (h : p_X8_evenAt_13b K13 v2 v3 v5 v7 σ = some res) : W p l e (rmU 5 136) s m args below meth c H locs 0 0 (MQ below (QI D cA ad kM 31 R A res) args s 0 0 A) (F0 m 13 ls []) := by
  have h := h
  unfold p_X8_evenAt_13b at h
  refine y_iload C dX8_evenAt_13 (lv_at hl 4 rfl) ?_
  refine y_aload_n C dX8_evenAt_15 (lv_at hl 0 rfl) ?_
  refine g8 C hw km_0 0 (by decide) wd_871 rfl dX8_evenAt_16 ?_
  refine y_aload_n C dX8_evenAt_19 (lv_at hl 0 rfl) ?_
  refine g8 C hw km_0 29 (by decide) wd_900 rfl dX8_evenAt_20 ?_
  obtain ⟨hg23, h⟩ := gd_some h
  refine y_iald C hw km_1 (i' := zm (σ 0 29)) rfl hg23 dX8_evenAt_23 ?_
  refine y_icmp_ge (tgt := 93) C (a' := zm v7) (b' := zm (σ 1 (zm (σ 0 29)))) rfl rfl dX8_evenAt_24 (by decide) (fun hc => ?_) (fun hc => ?_)
  · rw [if_pos hc] at h
    refine y_iload_n C dX8_evenAt_93 (lv_at hl 1 rfl) ?_
    refine y_if_ne (tgt := 101) C (a' := zm v2) rfl dX8_evenAt_94 (by decide) (fun hc => ?_) (fun hc => ?_)
    · rw [if_pos hc] at h
      refine y_lload_n C dX8_evenAt_97 (lv_at hl 2 rfl) ?_
      refine y_goto (tgt := 115) C dX8_evenAt_98 (by decide) ?_
      exact k_X8_evenAt_115 C   hw (lv_sub hl [] rfl) h
    · rw [if_neg hc] at h
      refine y_iload_n C dX8_evenAt_101 (lv_at hl 1 rfl) ?_
      refine y_iconst C dX8_evenAt_102 ?_
      refine y_icmp_ne (tgt := 111) C (a' := zm v2) (b' := 1) rfl (by decide) dX8_evenAt_103 (by decide) (fun hc => ?_) (fun hc => ?_)
      · rw [if_pos hc] at h
        refine y_lload C dX8_evenAt_106 (lv_at hl 3 rfl) ?_
        refine y_goto (tgt := 115) C dX8_evenAt_108 (by decide) ?_
        exact k_X8_evenAt_115 C   hw (lv_sub hl [] rfl) h
      · rw [if_neg hc] at h
        refine y_lload_n C dX8_evenAt_111 (lv_at hl 2 rfl) ?_
        refine y_lload C dX8_evenAt_112 (lv_at hl 3 rfl) ?_
        refine y_lsub C dX8_evenAt_114 ?_
        exact k_X8_evenAt_115 C   hw (lv_sub hl [] rfl) h
  · rw [if_neg hc] at h
    refine y_aload_n C dX8_evenAt_27 (lv_at hl 0 rfl) ?_
    refine y_iload C dX8_evenAt_28 (lv_at hl 4 rfl) ?_
    obtain ⟨x30, hc30, h⟩ := bd_some h
    refine y_cv (rest := []) hw (y_rV C hw km_0 (by decide) rfl rfl (c_X8_liveYear  hc30) mi_X8_liveYear wd_1268 wd_1270 ws_59 rfl ⟨by decide, by decide⟩ hl rfl (Nat.le_of_ble_eq_true rfl) dX8_evenAt_30) (fun H locs hw => ?_)
    refine y_lload_n C dX8_evenAt_33 (lv_at hl 2 rfl) ?_
    refine y_aload_n C dX8_evenAt_34 (lv_at hl 0 rfl) ?_
    refine g8 C hw km_0 40 (by decide) wd_911 rfl dX8_evenAt_35 ?_
    refine y_iload C dX8_evenAt_38 (lv_at hl 4 rfl) ?_
    obtain ⟨hg40, h⟩ := gd_some h
    refine y_iald C hw km_23 (i' := zm v7) rfl hg40 dX8_evenAt_40 ?_
    refine y_i2l C rfl dX8_evenAt_41 ?_
    refine y_aload_n C dX8_evenAt_42 (lv_at hl 0 rfl) ?_
    refine g8 C hw km_0 1 (by decide) wd_872 rfl dX8_evenAt_43 ?_
    refine y_bipush C dX8_evenAt_46 (by decide) ?_
    refine y_aload_n C dX8_evenAt_48 (lv_at hl 0 rfl) ?_
    refine g8 C hw km_0 29 (by decide) wd_900 rfl dX8_evenAt_49 ?_
    refine y_imul C dX8_evenAt_52 ?_
    refine y_iload C dX8_evenAt_53 (lv_at hl 4 rfl) ?_
    refine y_iadd C dX8_evenAt_55 ?_
    obtain ⟨hg56, h⟩ := gd_some h
    refine y_iald C hw km_2 (i' := zm ((10 * (x30.2 0 29)) + v7)) rfl hg56 dX8_evenAt_56 ?_
    refine y_i2l C rfl dX8_evenAt_57 ?_
    refine y_lmul C dX8_evenAt_58 ?_
    refine y_ldc2 C (z := 1000) wd_1183 (by decide) dX8_evenAt_59 ?_
    refine y_ldiv C (b' := 1000) (by decide) (by decide) dX8_evenAt_62 ?_
    refine y_ladd C dX8_evenAt_63 ?_
    obtain ⟨z64, ez64, h⟩ := nz_some h
    rw [← ez64]
    refine y_lstore_n (lv' := [(3, .long (zJ z64)), (0, .ref (ad 0)), (2, .int (zI v2)), (5, .long (zJ v5)), (7, .int (zI v7))]) C dX8_evenAt_64 hl (by decide) rfl (fun ls hl => ?_)
    refine y_lload C dX8_evenAt_65 (lv_at hl 3 rfl) ?_
    refine y_aload_n C dX8_evenAt_67 (lv_at hl 1 rfl) ?_
    refine g8 C hw km_0 40 (by decide) wd_911 rfl dX8_evenAt_68 ?_
    refine y_iload C dX8_evenAt_71 (lv_at hl 4 rfl) ?_
    refine y_iald C hw km_23 (i' := zm v7) rfl hg40 dX8_evenAt_73 ?_
    refine y_i2l C rfl dX8_evenAt_74 ?_
    refine y_aload_n C dX8_evenAt_75 (lv_at hl 1 rfl) ?_
    refine g8 C hw km_0 39 (by decide) wd_910 rfl dX8_evenAt_76 ?_
    refine y_lmul C dX8_evenAt_79 ?_
    refine y_ldc2 C (z := 1000000) wd_1272 (by decide) dX8_evenAt_80 ?_
    refine y_ldiv C (b' := 1000000) (by decide) (by decide) dX8_evenAt_83 ?_
    refine y_ladd C dX8_evenAt_84 ?_
    obtain ⟨z85, ez85, h⟩ := nz_some h
    rw [← ez85]
    refine y_lstore (lv' := [(5, .long (zJ z85)), (3, .long (zJ z64)), (0, .ref (ad 0)), (2, .int (zI v2)), (7, .int (zI v7))]) C dX8_evenAt_85 hl (by decide) rfl (fun ls hl => ?_)
    refine y_iinc (lv' := [(7, .int (zI (v7 + 1))), (5, .long (zJ z85)), (3, .long (zJ z64)), (0, .ref (ad 0)), (2, .int (zI v2))]) C dX8_evenAt_87 hl (k := 4) rfl (by decide) rfl (fun ls hl => ?_)
    refine y_goto (tgt := 13) C dX8_evenAt_90 (by decide) ?_
    exact hK13 _ _ _ _ _ _ _ _  hw (lv_sub hl [3, 4, 2, 1, 0] rfl) h
set_option maxRecDepth 100000 in
theorem k_X8_evenAt_13  (C : Cx cX8_evenAt RX8 8 (some .int) D cA adK adV A p s m args meth c)  : ∀ (n : Nat) (v2 : Int) (v3 : Int) (v5 : Int) (v7 : Int) (σ : St) (H : Heap) (locs : List Loc) (ls : Array Slot) , At D cA ad kM 31 R A s σ H locs → lv_has ls 8 [(0, .ref (ad 0)), (2, .int (zI v2)), (3, .long (zJ v3)), (5, .long (zJ v5)), (7, .int (zI v7))] → p_X8_evenAt_13  n v2 v3 v5 v7 σ = some res → W p l e (rmU 5 136) s m args below meth c H locs 0 0 (MQ below (QI D cA ad kM 31 R A res) args s 0 0 A) (F0 m 13 ls []) := by
  intro n
  induction n with
  | zero =>
    intro v2 v3 v5 v7 σ H locs ls  hw hl h
    have h : none = some res := h
    cases h
  | succ n ih =>
    intro v2 v3 v5 v7 σ H locs ls  hw hl h
    exact k_X8_evenAt_13b C  ih  hw hl h
set_option maxRecDepth 100000 in
set_option maxHeartbeats 4000000 in
theorem k_X8_evenAt_0  {v1 : Int} {v2 : Int} (C : Cx cX8_evenAt RX8 8 (some .int) D cA adK adV A p s m args meth c)  {σ : St} {H : Heap} {locs : List Loc} {ls : Array Slot}  (hw : At D cA ad kM 31 R A s σ H locs) (hl : lv_has ls 8 [(0, .ref (ad 0)), (1, .int (zI v1)), (2, .int (zI v2))]) (h : p_X8_evenAt  v1 v2 σ = some res) : W p l e (rmU 5 136) s m args below meth c H locs 0 0 (MQ below (QI D cA ad kM 31 R A res) args s 0 0 A) (F0 m 0 ls []) := by
  have h := h
  unfold p_X8_evenAt at h
  refine y_aload_n C dX8_evenAt_0 (lv_at hl 0 rfl) ?_
  refine y_iload_n C dX8_evenAt_1 (lv_at hl 1 rfl) ?_
  obtain ⟨x2, hc2, h⟩ := bd_some h
  refine y_cv (rest := []) hw (y_rV C hw km_0 (by decide) rfl rfl (c_X8_stand  hc2) mi_X8_stand wd_1263 wd_1265 ws_58 rfl ⟨by decide, by decide⟩ hl rfl (Nat.le_of_ble_eq_true rfl) dX8_evenAt_2) (fun H locs hw => ?_)
  refine y_lconst C (z' := 0) dX8_evenAt_5 (by decide) ?_
  refine y_lstore_n (lv' := [(3, .long (zJ 0)), (0, .ref (ad 0)), (1, .int (zI v1)), (2, .int (zI v2))]) C dX8_evenAt_6 hl (by decide) rfl (fun ls hl => ?_)
  refine y_lconst C (z' := 0) dX8_evenAt_7 (by decide) ?_
  refine y_lstore (lv' := [(5, .long (zJ 0)), (3, .long (zJ 0)), (0, .ref (ad 0)), (1, .int (zI v1)), (2, .int (zI v2))]) C dX8_evenAt_8 hl (by decide) rfl (fun ls hl => ?_)
  refine y_iconst C dX8_evenAt_10 ?_
  refine y_istore (lv' := [(7, .int (zI 0)), (5, .long (zJ 0)), (3, .long (zJ 0)), (0, .ref (ad 0)), (1, .int (zI v1)), (2, .int (zI v2))]) C dX8_evenAt_11 hl (by decide) rfl (fun ls hl => ?_)
  exact k_X8_evenAt_13 C  FU _ _ _ _ _ _ _ _  hw (lv_sub hl [3, 5, 2, 1, 0] rfl) h
theorem c_X8_evenAt {l : Launch} {D : va_G} {cA : Nat → ClassId} {adK adV : Nat → Nat} {A : Nat → Prop} {ad : Int → Nat} {R : va_W} {σ : St} {res : Int × St} {v1 : Int} {v2 : Int}  (h : p_X8_evenAt v1 v2 σ = some res) : Met l yX8_evenAt (wsU yX8_evenAt cX8_evenAt 8 (some .int)) (rmU 5 136) (va_Pc [.ref (ad 0), .int (zI v1), .int (zI v2)] (Pr D cA adK adV ad kM 31 R A σ)) (QI D cA ad kM 31 R A res) 0 0 A :=
  y_met (own := RX8) (by decide) rfl _ (Nat.le_of_ble_eq_true rfl) (fun p e s m args below meth c ls C hl hw => k_X8_evenAt_0 C  hw hl h)
/-! RungHouseModel.even -/
set_option maxRecDepth 100000 in
set_option maxHeartbeats 4000000 in
theorem k_X8_even_0  {v1 : Int} {v2 : Int} {v3 : Int} {v4 : Int} {v5 : Int} {v6 : Int} (C : Cx cX8_even RX8 7 (some .int) D cA adK adV A p s m args meth c)  {σ : St} {H : Heap} {locs : List Loc} {ls : Array Slot}  (hw : At D cA ad kM 31 R A s σ H locs) (hl : lv_has ls 7 [(0, .ref (ad 0)), (1, .int (zI v1)), (2, .int (zI v2)), (3, .int (zI v3)), (4, .int (zI v4)), (5, .int (zI v5)), (6, .int (zI v6))]) (h : p_X8_even  v1 v2 v3 v4 v5 v6 σ = some res) : W p l e (rmU 6 163) s m args below meth c H locs 0 0 (MQ below (QI D cA ad kM 31 R A res) args s 0 0 A) (F0 m 0 ls []) := by
  have h := h
  unfold p_X8_even at h
  refine y_aload_n C dX8_even_0 (lv_at hl 0 rfl) ?_
  refine y_iload_n C dX8_even_1 (lv_at hl 1 rfl) ?_
  obtain ⟨x2, hc2, h⟩ := bd_some h
  refine y_ci (rest := []) hw (y_rV C hw km_0 (by decide) rfl rfl (c_X8_isSort  hc2) mi_X8_isSort wd_1138 wd_1140 ws_39 rfl ⟨by decide, by decide⟩ hl rfl (Nat.le_of_ble_eq_true rfl) dX8_even_2) (fun H locs hw => ?_)
  refine y_if_eq (tgt := 24) C (a' := zm x2.1) rfl dX8_even_5 (by decide) (fun hc => ?_) (fun hc => ?_)
  · rw [if_pos hc] at h
    refine y_ldc C (z := (-1000000001)) wd_1037 (by decide) dX8_even_24 ?_
    exact y_iret C hw h dX8_even_26
  · rw [if_neg hc] at h
    refine y_aload_n C dX8_even_8 (lv_at hl 0 rfl) ?_
    refine y_iload_n C dX8_even_9 (lv_at hl 2 rfl) ?_
    obtain ⟨x10, hc10, h⟩ := bd_some h
    refine y_ci (rest := []) hw (y_rV C hw km_0 (by decide) rfl rfl (c_X8_isHouse  hc10) mi_X8_isHouse wd_1096 wd_1098 ws_33 rfl ⟨by decide, by decide⟩ hl rfl (Nat.le_of_ble_eq_true rfl) dX8_even_10) (fun H locs hw => ?_)
    refine y_if_eq (tgt := 24) C (a' := zm x10.1) rfl dX8_even_13 (by decide) (fun hc => ?_) (fun hc => ?_)
    · rw [if_pos hc] at h
      refine y_ldc C (z := (-1000000001)) wd_1037 (by decide) dX8_even_24 ?_
      exact y_iret C hw h dX8_even_26
    · rw [if_neg hc] at h
      refine y_aload_n C dX8_even_16 (lv_at hl 0 rfl) ?_
      refine y_iload_n C dX8_even_17 (lv_at hl 3 rfl) ?_
      obtain ⟨x18, hc18, h⟩ := bd_some h
      refine y_ci (rest := []) hw (y_rV C hw km_0 (by decide) rfl rfl (c_X8_isBy  hc18) mi_X8_isBy wd_1259 wd_1261 ws_57 rfl ⟨by decide, by decide⟩ hl rfl (Nat.le_of_ble_eq_true rfl) dX8_even_18) (fun H locs hw => ?_)
      refine y_if_ne (tgt := 27) C (a' := zm x18.1) rfl dX8_even_21 (by decide) (fun hc => ?_) (fun hc => ?_)
      · rw [if_pos hc] at h
        refine y_ldc C (z := (-1000000001)) wd_1037 (by decide) dX8_even_24 ?_
        exact y_iret C hw h dX8_even_26
      · rw [if_neg hc] at h
        refine y_iload C dX8_even_27 (lv_at hl 4 rfl) ?_
        obtain ⟨x29, hc29, h⟩ := bd_some h
        refine y_ci (rest := []) hw (y_rS C hw (c_X8_isTime  hc29) mi_X8_isTime wd_1168 wd_1169 rfl ⟨by decide, by decide⟩ hl rfl (Nat.le_of_ble_eq_true rfl) dX8_even_29) (fun H locs hw => ?_)
        refine y_if_eq (tgt := 61) C (a' := zm x29.1) rfl dX8_even_32 (by decide) (fun hc => ?_) (fun hc => ?_)
        · rw [if_pos hc] at h
          refine y_ldc C (z := (-1000000002)) wd_1030 (by decide) dX8_even_61 ?_
          exact y_iret C hw h dX8_even_63
        · rw [if_neg hc] at h
          refine y_iload C dX8_even_35 (lv_at hl 5 rfl) ?_
          refine y_i2l C rfl dX8_even_37 ?_
          refine y_lconst C (z' := 0) dX8_even_38 (by decide) ?_
          refine y_ldc2 C (z := 30) wd_1171 (by decide) dX8_even_39 ?_
          obtain ⟨x42, hc42, h⟩ := bd_some h
          refine y_ci (rest := []) hw (y_rS C hw (c_X8_within  hc42) mi_X8_within wd_1027 wd_1028 rfl ⟨by decide, by decide⟩ hl rfl (Nat.le_of_ble_eq_true rfl) dX8_even_42) (fun H locs hw => ?_)
          refine y_if_eq (tgt := 61) C (a' := zm x42.1) rfl dX8_even_45 (by decide) (fun hc => ?_) (fun hc => ?_)
          · rw [if_pos hc] at h
            refine y_ldc C (z := (-1000000002)) wd_1030 (by decide) dX8_even_61 ?_
            exact y_iret C hw h dX8_even_63
          · rw [if_neg hc] at h
            refine y_iload C dX8_even_48 (lv_at hl 6 rfl) ?_
            refine y_i2l C rfl dX8_even_50 ?_
            refine y_lconst C (z' := 0) dX8_even_51 (by decide) ?_
            refine y_ldc2 C (z := 2) wd_1281 (by decide) dX8_even_52 ?_
            obtain ⟨x55, hc55, h⟩ := bd_some h
            refine y_ci (rest := []) hw (y_rS C hw (c_X8_within  hc55) mi_X8_within wd_1027 wd_1028 rfl ⟨by decide, by decide⟩ hl rfl (Nat.le_of_ble_eq_true rfl) dX8_even_55) (fun H locs hw => ?_)
            refine y_if_ne (tgt := 64) C (a' := zm x55.1) rfl dX8_even_58 (by decide) (fun hc => ?_) (fun hc => ?_)
            · rw [if_pos hc] at h
              refine y_ldc C (z := (-1000000002)) wd_1030 (by decide) dX8_even_61 ?_
              exact y_iret C hw h dX8_even_63
            · rw [if_neg hc] at h
              refine y_aload_n C dX8_even_64 (lv_at hl 0 rfl) ?_
              refine y_iload_n C dX8_even_65 (lv_at hl 1 rfl) ?_
              refine y_iload_n C dX8_even_66 (lv_at hl 2 rfl) ?_
              refine y_iload_n C dX8_even_67 (lv_at hl 3 rfl) ?_
              refine y_iload C dX8_even_68 (lv_at hl 4 rfl) ?_
              obtain ⟨x70, hc70, h⟩ := bd_some h
              refine y_cv (rest := []) hw (y_rV C hw km_0 (by decide) rfl rfl (c_X8_work  hc70) mi_X8_work wd_1172 wd_1174 ws_44 rfl ⟨by decide, by decide⟩ hl rfl (Nat.le_of_ble_eq_true rfl) dX8_even_70) (fun H locs hw => ?_)
              refine y_aload_n C dX8_even_73 (lv_at hl 0 rfl) ?_
              refine y_iload C dX8_even_74 (lv_at hl 5 rfl) ?_
              refine y_iload C dX8_even_76 (lv_at hl 6 rfl) ?_
              obtain ⟨x78, hc78, h⟩ := bd_some h
              refine y_ci (rest := []) hw (y_rV C hw km_0 (by decide) rfl rfl (c_X8_evenAt  hc78) mi_X8_evenAt wd_1282 wd_1284 ws_60 rfl ⟨by decide, by decide⟩ hl rfl (Nat.le_of_ble_eq_true rfl) dX8_even_78) (fun H locs hw => ?_)
              exact y_iret C hw h dX8_even_81
theorem c_X8_even {l : Launch} {D : va_G} {cA : Nat → ClassId} {adK adV : Nat → Nat} {A : Nat → Prop} {ad : Int → Nat} {R : va_W} {σ : St} {res : Int × St} {v1 : Int} {v2 : Int} {v3 : Int} {v4 : Int} {v5 : Int} {v6 : Int}  (h : p_X8_even v1 v2 v3 v4 v5 v6 σ = some res) : Met l yX8_even (wsU yX8_even cX8_even 7 (some .int)) (rmU 6 163) (va_Pc [.ref (ad 0), .int (zI v1), .int (zI v2), .int (zI v3), .int (zI v4), .int (zI v5), .int (zI v6)] (Pr D cA adK adV ad kM 31 R A σ)) (QI D cA ad kM 31 R A res) 0 0 A :=
  y_met (own := RX8) (by decide) rfl _ (Nat.le_of_ble_eq_true rfl) (fun p e s m args below meth c ls C hl hw => k_X8_even_0 C  hw hl h)
/-! RungHouseModel.year -/
set_option maxRecDepth 100000 in
set_option maxHeartbeats 4000000 in
theorem k_X8_year_0  {v1 : Int} {v2 : Int} (C : Cx cX8_year RX8 3 (some .int) D cA adK adV A p s m args meth c)  {σ : St} {H : Heap} {locs : List Loc} {ls : Array Slot}  (hw : At D cA ad kM 31 R A s σ H locs) (hl : lv_has ls 3 [(0, .ref (ad 0)), (1, .int (zI v1)), (2, .int (zI v2))]) (h : p_X8_year  v1 v2 σ = some res) : W p l e (rmU 1 25) s m args below meth c H locs 0 0 (MQ below (QI D cA ad kM 31 R A res) args s 0 0 A) (F0 m 0 ls []) := by
  have h := h
  unfold p_X8_year at h
  refine y_iload_n C dX8_year_0 (lv_at hl 1 rfl) ?_
  refine y_i2l C rfl dX8_year_1 ?_
  refine y_lconst C (z' := 0) dX8_year_2 (by decide) ?_
  refine y_ldc2 C (z := 9) wd_1290 (by decide) dX8_year_3 ?_
  obtain ⟨x6, hc6, h⟩ := bd_some h
  refine y_ci (rest := []) hw (y_rS C hw (c_X8_within  hc6) mi_X8_within wd_1027 wd_1028 rfl ⟨by decide, by decide⟩ hl rfl (Nat.le_of_ble_eq_true rfl) dX8_year_6) (fun H locs hw => ?_)
  refine y_if_eq (tgt := 24) C (a' := zm x6.1) rfl dX8_year_9 (by decide) (fun hc => ?_) (fun hc => ?_)
  · rw [if_pos hc] at h
    refine y_ldc C (z := (-1000000002)) wd_1030 (by decide) dX8_year_24 ?_
    exact y_iret C hw h dX8_year_26
  · rw [if_neg hc] at h
    refine y_iload_n C dX8_year_12 (lv_at hl 2 rfl) ?_
    refine y_i2l C rfl dX8_year_13 ?_
    refine y_lconst C (z' := 0) dX8_year_14 (by decide) ?_
    refine y_ldc2 C (z := 3) wd_1112 (by decide) dX8_year_15 ?_
    obtain ⟨x18, hc18, h⟩ := bd_some h
    refine y_ci (rest := []) hw (y_rS C hw (c_X8_within  hc18) mi_X8_within wd_1027 wd_1028 rfl ⟨by decide, by decide⟩ hl rfl (Nat.le_of_ble_eq_true rfl) dX8_year_18) (fun H locs hw => ?_)
    refine y_if_ne (tgt := 27) C (a' := zm x18.1) rfl dX8_year_21 (by decide) (fun hc => ?_) (fun hc => ?_)
    · rw [if_pos hc] at h
      refine y_ldc C (z := (-1000000002)) wd_1030 (by decide) dX8_year_24 ?_
      exact y_iret C hw h dX8_year_26
    · rw [if_neg hc] at h
      refine y_aload_n C dX8_year_27 (lv_at hl 0 rfl) ?_
      refine g8 C hw km_0 42 (by decide) wd_913 rfl dX8_year_28 ?_
      refine y_bipush C dX8_year_31 (by decide) ?_
      refine y_icmp_ne (tgt := 39) C (a' := zm (x18.2 0 42)) (b' := 8) rfl (by decide) dX8_year_33 (by decide) (fun hc => ?_) (fun hc => ?_)
      · rw [if_pos hc] at h
        refine y_ldc C (z := (-1000000004)) wd_1031 (by decide) dX8_year_36 ?_
        exact y_iret C hw h dX8_year_38
      · rw [if_neg hc] at h
        refine y_aload_n C dX8_year_39 (lv_at hl 0 rfl) ?_
        refine g8 C hw km_0 43 (by decide) wd_914 rfl dX8_year_40 ?_
        refine y_aload_n C dX8_year_43 (lv_at hl 0 rfl) ?_
        refine g8 C hw km_0 42 (by decide) wd_913 rfl dX8_year_44 ?_
        refine y_iload_n C dX8_year_47 (lv_at hl 1 rfl) ?_
        obtain ⟨hg48, h⟩ := gd_some h
        obtain ⟨σ48, eσ48, h⟩ := nx_some h
        refine y_iast C hw km_25 (i' := zm (x18.2 0 42)) rfl hg48 dX8_year_48 (fun H locs hw => ?_)
        rw [← eσ48] at hw
        refine y_aload_n C dX8_year_49 (lv_at hl 0 rfl) ?_
        refine g8 C hw km_0 44 (by decide) wd_915 rfl dX8_year_50 ?_
        refine y_aload_n C dX8_year_53 (lv_at hl 0 rfl) ?_
        refine g8 C hw km_0 42 (by decide) wd_913 rfl dX8_year_54 ?_
        refine y_iload_n C dX8_year_57 (lv_at hl 2 rfl) ?_
        obtain ⟨hg58, h⟩ := gd_some h
        obtain ⟨σ58, eσ58, h⟩ := nx_some h
        refine y_iast C hw km_26 (i' := zm (σ48 0 42)) rfl hg58 dX8_year_58 (fun H locs hw => ?_)
        rw [← eσ58] at hw
        refine y_aload_n C dX8_year_59 (lv_at hl 0 rfl) ?_
        refine y_dup C dX8_year_60 rfl ?_
        refine g8 C hw km_0 42 (by decide) wd_913 rfl dX8_year_61 ?_
        refine y_iconst C dX8_year_64 ?_
        refine y_iadd C dX8_year_65 ?_
        obtain ⟨σ66, eσ66, h⟩ := nx_some h
        refine q8 C hw km_0 42 (by decide) wd_913 rfl rfl rfl (by decide) ((σ58 0 42) + 1) 42 rfl rfl dX8_year_66 (fun H locs hw => ?_)
        rw [← eσ66] at hw
        refine y_aload_n C dX8_year_69 (lv_at hl 0 rfl) ?_
        refine g8 C hw km_0 42 (by decide) wd_913 rfl dX8_year_70 ?_
        exact y_iret C hw h dX8_year_73
theorem c_X8_year {l : Launch} {D : va_G} {cA : Nat → ClassId} {adK adV : Nat → Nat} {A : Nat → Prop} {ad : Int → Nat} {R : va_W} {σ : St} {res : Int × St} {v1 : Int} {v2 : Int}  (h : p_X8_year v1 v2 σ = some res) : Met l yX8_year (wsU yX8_year cX8_year 3 (some .int)) (rmU 1 25) (va_Pc [.ref (ad 0), .int (zI v1), .int (zI v2)] (Pr D cA adK adV ad kM 31 R A σ)) (QI D cA ad kM 31 R A res) 0 0 A :=
  y_met (own := RX8) (by decide) rfl _ (Nat.le_of_ble_eq_true rfl) (fun p e s m args below meth c ls C hl hw => k_X8_year_0 C  hw hl h)
/-! RungHouseModel.clear -/
set_option maxRecDepth 100000 in
set_option maxHeartbeats 4000000 in
theorem k_X8_clear_0   (C : Cx cX8_clear RX8 2 (some .int) D cA adK adV A p s m args meth c)  {σ : St} {H : Heap} {locs : List Loc} {ls : Array Slot}  (hw : At D cA ad kM 31 R A s σ H locs) (hl : lv_has ls 2 [(0, .ref (ad 0))]) (h : p_X8_clear   σ = some res) : W p l e (rmU 0 0) s m args below meth c H locs 0 0 (MQ below (QI D cA ad kM 31 R A res) args s 0 0 A) (F0 m 0 ls []) := by
  have h := h
  unfold p_X8_clear at h
  refine y_aload_n C dX8_clear_0 (lv_at hl 0 rfl) ?_
  refine g8 C hw km_0 42 (by decide) wd_913 rfl dX8_clear_1 ?_
  refine y_aload_n C dX8_clear_4 (lv_at hl 0 rfl) ?_
  refine g8 C hw km_0 33 (by decide) wd_904 rfl dX8_clear_5 ?_
  refine y_iadd C dX8_clear_8 ?_
  refine y_istore_n (lv' := [(1, .int (zI ((σ 0 42) + (σ 0 33)))), (0, .ref (ad 0))]) C dX8_clear_9 hl (by decide) rfl (fun ls hl => ?_)
  refine y_aload_n C dX8_clear_10 (lv_at hl 1 rfl) ?_
  refine y_iconst C dX8_clear_11 ?_
  obtain ⟨σ12, eσ12, h⟩ := nx_some h
  refine q8 C hw km_0 42 (by decide) wd_913 rfl rfl rfl (by decide) 0 42 rfl rfl dX8_clear_12 (fun H locs hw => ?_)
  rw [← eσ12] at hw
  refine y_aload_n C dX8_clear_15 (lv_at hl 1 rfl) ?_
  refine y_iconst C dX8_clear_16 ?_
  obtain ⟨σ17, eσ17, h⟩ := nx_some h
  refine q8 C hw km_0 33 (by decide) wd_904 rfl rfl rfl (by decide) 0 33 rfl rfl dX8_clear_17 (fun H locs hw => ?_)
  rw [← eσ17] at hw
  refine y_iload_n C dX8_clear_20 (lv_at hl 0 rfl) ?_
  exact y_iret C hw h dX8_clear_21
theorem c_X8_clear {l : Launch} {D : va_G} {cA : Nat → ClassId} {adK adV : Nat → Nat} {A : Nat → Prop} {ad : Int → Nat} {R : va_W} {σ : St} {res : Int × St}   (h : p_X8_clear  σ = some res) : Met l yX8_clear (wsU yX8_clear cX8_clear 2 (some .int)) (rmU 0 0) (va_Pc [.ref (ad 0)] (Pr D cA adK adV ad kM 31 R A σ)) (QI D cA ad kM 31 R A res) 0 0 A :=
  y_met (own := RX8) (by decide) rfl _ (Nat.le_of_ble_eq_true rfl) (fun p e s m args below meth c ls C hl hw => k_X8_clear_0 C  hw hl h)
/-! RungHouseModel.weigh -/
set_option maxRecDepth 100000 in
set_option maxHeartbeats 4000000 in
theorem k_X8_weigh_222 {K88 : Int → St → Option (Int × St)} {v3 : Int} (C : Cx cX8_weigh RX8 7 none D cA adK adV A p s m args meth c) (hK88 : ∀ (v3 : Int) (σ : St) (H : Heap) (locs : List Loc) (ls : Array Slot) , At D cA ad kM 31 R A s σ H locs → lv_has ls 7 [(0, .ref (ad 0)), (3, .int (zI v3))] → K88 v3 σ = some res → W p l e (rmU 5 136) s m args below meth c H locs 0 0 (MQ below (QV D cA ad kM 31 R A res) args s 0 0 A) (F0 m 88 ls [])) {σ : St} {H : Heap} {locs : List Loc} {ls : Array Slot}  (hw : At D cA ad kM 31 R A s σ H locs) (hl : lv_has ls 7 [(0, .ref (ad 0)), (3, .int (zI v3))]) (h : p_X8_weigh_222 K88 v3 σ = some res) : W p l e (rmU 5 136) s m args below meth c H locs 0 0 (MQ below (QV D cA ad kM 31 R A res) args s 0 0 A) (F0 m 222 ls []) := by
  have h := h
  unfold p_X8_weigh_222 at h
  refine y_iinc (lv' := [(3, .int (zI (v3 + 1))), (0, .ref (ad 0))]) C dX8_weigh_222 hl (k := 1) rfl (by decide) rfl (fun ls hl => ?_)
  refine y_goto (tgt := 88) C dX8_weigh_225 (by decide) ?_
  exact hK88 _ _ _ _ _  hw (lv_sub hl [1, 0] rfl) h
set_option maxRecDepth 100000 in
set_option maxHeartbeats 4000000 in
theorem k_X8_weigh_179b {K88 : Int → St → Option (Int × St)} {K179 : Int → Int → Int → St → Option (Int × St)} {v3 : Int} {v4 : Int} {v6 : Int} (C : Cx cX8_weigh RX8 7 none D cA adK adV A p s m args meth c) (hK88 : ∀ (v3 : Int) (σ : St) (H : Heap) (locs : List Loc) (ls : Array Slot) , At D cA ad kM 31 R A s σ H locs → lv_has ls 7 [(0, .ref (ad 0)), (3, .int (zI v3))] → K88 v3 σ = some res → W p l e (rmU 5 136) s m args below meth c H locs 0 0 (MQ below (QV D cA ad kM 31 R A res) args s 0 0 A) (F0 m 88 ls [])) (hK179 : ∀ (v3 : Int) (v4 : Int) (v6 : Int) (σ : St) (H : Heap) (locs : List Loc) (ls : Array Slot) , At D cA ad kM 31 R A s σ H locs → lv_has ls 7 [(0, .ref (ad 0)), (3, .int (zI v3)), (4, .long (zJ v4)), (6, .int (zI v6))] → K179 v3 v4 v6 σ = some res → W p l e (rmU 5 136) s m args below meth c H locs 0 0 (MQ below (QV D cA ad kM 31 R A res) args s 0 0 A) (F0 m 179 ls [])) {σ : St} {H : Heap} {locs : List Loc} {ls : Array Slot}  (hw : At D cA ad kM 31 R A s σ H locs) (hl : lv_has ls 7 [(0, .ref (ad 0)), (3, .int (zI v3)), (4, .long (zJ v4)), (6, .int (zI v6))]) (h : p_X8_weigh_179b K88 K179 v3 v4 v6 σ = some res) : W p l e (rmU 5 136) s m args below meth c H locs 0 0 (MQ below (QV D cA ad kM 31 R A res) args s 0 0 A) (F0 m 179 ls []) := by
  have h := h
  unfold p_X8_weigh_179b at h
  refine y_iload C dX8_weigh_179 (lv_at hl 3 rfl) ?_
  refine y_aload_n C dX8_weigh_181 (lv_at hl 0 rfl) ?_
  refine g8 C hw km_0 7 (by decide) wd_878 rfl dX8_weigh_182 ?_
  refine y_icmp_ge (tgt := 222) C (a' := zm v6) (b' := zm (σ 0 7)) rfl rfl dX8_weigh_185 (by decide) (fun hc => ?_) (fun hc => ?_)
  · rw [if_pos hc] at h
    exact k_X8_weigh_222 C hK88  hw (lv_sub hl [0, 1] rfl) h
  · rw [if_neg hc] at h
    refine y_lload C dX8_weigh_188 (lv_at hl 2 rfl) ?_
    refine y_lconst C (z' := 0) dX8_weigh_190 (by decide) ?_
    refine y_lcmp C dX8_weigh_191 ?_
    refine y_if_le (tgt := 222) C (a' := zm (zcmp v4 0)) rfl dX8_weigh_192 (by decide) (fun hc => ?_) (fun hc => ?_)
    · rw [if_pos hc] at h
      exact k_X8_weigh_222 C hK88  hw (lv_sub hl [0, 1] rfl) h
    · rw [if_neg hc] at h
      refine y_aload_n C dX8_weigh_195 (lv_at hl 0 rfl) ?_
      refine g8 C hw km_0 45 (by decide) wd_916 rfl dX8_weigh_196 ?_
      refine y_iload C dX8_weigh_199 (lv_at hl 3 rfl) ?_
      refine y_aload_n C dX8_weigh_201 (lv_at hl 0 rfl) ?_
      refine g8 C hw km_0 45 (by decide) wd_916 rfl dX8_weigh_202 ?_
      refine y_iload C dX8_weigh_205 (lv_at hl 3 rfl) ?_
      obtain ⟨hg207, h⟩ := gd_some h
      refine y_lald C hw km_27 (i' := zm v6) rfl hg207 dX8_weigh_207 ?_
      refine y_ldc2 C (z := 100000) wd_1303 (by decide) dX8_weigh_208 ?_
      refine y_lmul C dX8_weigh_211 ?_
      refine y_lload C dX8_weigh_212 (lv_at hl 2 rfl) ?_
      obtain ⟨hg214, h⟩ := gd_some h
      refine y_ldiv C (b' := zl v4) rfl hg214 dX8_weigh_214 ?_
      obtain ⟨σ215, eσ215, h⟩ := nx_some h
      refine y_last C hw km_27 (i' := zm v6) rfl hg207 dX8_weigh_215 (fun H locs hw => ?_)
      rw [← eσ215] at hw
      refine y_iinc (lv' := [(6, .int (zI (v6 + 1))), (0, .ref (ad 0)), (3, .int (zI v3)), (4, .long (zJ v4))]) C dX8_weigh_216 hl (k := 3) rfl (by decide) rfl (fun ls hl => ?_)
      refine y_goto (tgt := 179) C dX8_weigh_219 (by decide) ?_
      exact hK179 _ _ _ _ _ _ _  hw (lv_sub hl [1, 2, 3, 0] rfl) h
set_option maxRecDepth 100000 in
theorem k_X8_weigh_179 {K88 : Int → St → Option (Int × St)} (C : Cx cX8_weigh RX8 7 none D cA adK adV A p s m args meth c) (hK88 : ∀ (v3 : Int) (σ : St) (H : Heap) (locs : List Loc) (ls : Array Slot) , At D cA ad kM 31 R A s σ H locs → lv_has ls 7 [(0, .ref (ad 0)), (3, .int (zI v3))] → K88 v3 σ = some res → W p l e (rmU 5 136) s m args below meth c H locs 0 0 (MQ below (QV D cA ad kM 31 R A res) args s 0 0 A) (F0 m 88 ls [])) : ∀ (n : Nat) (v3 : Int) (v4 : Int) (v6 : Int) (σ : St) (H : Heap) (locs : List Loc) (ls : Array Slot) , At D cA ad kM 31 R A s σ H locs → lv_has ls 7 [(0, .ref (ad 0)), (3, .int (zI v3)), (4, .long (zJ v4)), (6, .int (zI v6))] → p_X8_weigh_179 K88 n v3 v4 v6 σ = some res → W p l e (rmU 5 136) s m args below meth c H locs 0 0 (MQ below (QV D cA ad kM 31 R A res) args s 0 0 A) (F0 m 179 ls []) := by
  intro n
  induction n with
  | zero =>
    intro v3 v4 v6 σ H locs ls  hw hl h
    have h : none = some res := h
    cases h
  | succ n ih =>
    intro v3 v4 v6 σ H locs ls  hw hl h
    exact k_X8_weigh_179b C hK88 ih  hw hl h
set_option maxRecDepth 100000 in
set_option maxHeartbeats 4000000 in
theorem k_X8_weigh_168 {K88 : Int → St → Option (Int × St)} {K102 : Int → Int → Int → St → Option (Int × St)} {v3 : Int} {v6 : Int} {vs0 : Int} (C : Cx cX8_weigh RX8 7 none D cA adK adV A p s m args meth c) (hK88 : ∀ (v3 : Int) (σ : St) (H : Heap) (locs : List Loc) (ls : Array Slot) , At D cA ad kM 31 R A s σ H locs → lv_has ls 7 [(0, .ref (ad 0)), (3, .int (zI v3))] → K88 v3 σ = some res → W p l e (rmU 5 136) s m args below meth c H locs 0 0 (MQ below (QV D cA ad kM 31 R A res) args s 0 0 A) (F0 m 88 ls [])) (hK102 : ∀ (v3 : Int) (v4 : Int) (v6 : Int) (σ : St) (H : Heap) (locs : List Loc) (ls : Array Slot) , At D cA ad kM 31 R A s σ H locs → lv_has ls 7 [(0, .ref (ad 0)), (3, .int (zI v3)), (4, .long (zJ v4)), (6, .int (zI v6))] → K102 v3 v4 v6 σ = some res → W p l e (rmU 5 136) s m args below meth c H locs 0 0 (MQ below (QV D cA ad kM 31 R A res) args s 0 0 A) (F0 m 102 ls [])) {σ : St} {H : Heap} {locs : List Loc} {ls : Array Slot}  (hw : At D cA ad kM 31 R A s σ H locs) (hl : lv_has ls 7 [(0, .ref (ad 0)), (3, .int (zI v3)), (6, .int (zI v6))]) (h : p_X8_weigh_168 K88 K102 v3 v6 vs0 σ = some res) : W p l e (rmU 5 136) s m args below meth c H locs 0 0 (MQ below (QV D cA ad kM 31 R A res) args s 0 0 A) (F0 m 168 ls [.long (zJ vs0)]) := by
  have h := h
  unfold p_X8_weigh_168 at h
  refine y_lstore (lv' := [(4, .long (zJ vs0)), (0, .ref (ad 0)), (3, .int (zI v3)), (6, .int (zI v6))]) C dX8_weigh_168 hl (by decide) rfl (fun ls hl => ?_)
  refine y_iinc (lv' := [(6, .int (zI (v6 + 1))), (4, .long (zJ vs0)), (0, .ref (ad 0)), (3, .int (zI v3))]) C dX8_weigh_170 hl (k := 3) rfl (by decide) rfl (fun ls hl => ?_)
  refine y_goto (tgt := 102) C dX8_weigh_173 (by decide) ?_
  exact hK102 _ _ _ _ _ _ _  hw (lv_sub hl [2, 3, 1, 0] rfl) h
set_option maxRecDepth 100000 in
set_option maxHeartbeats 4000000 in
theorem k_X8_weigh_102b {K88 : Int → St → Option (Int × St)} {K102 : Int → Int → Int → St → Option (Int × St)} {v3 : Int} {v4 : Int} {v6 : Int} (C : Cx cX8_weigh RX8 7 none D cA adK adV A p s m args meth c) (hK88 : ∀ (v3 : Int) (σ : St) (H : Heap) (locs : List Loc) (ls : Array Slot) , At D cA ad kM 31 R A s σ H locs → lv_has ls 7 [(0, .ref (ad 0)), (3, .int (zI v3))] → K88 v3 σ = some res → W p l e (rmU 5 136) s m args below meth c H locs 0 0 (MQ below (QV D cA ad kM 31 R A res) args s 0 0 A) (F0 m 88 ls [])) (hK102 : ∀ (v3 : Int) (v4 : Int) (v6 : Int) (σ : St) (H : Heap) (locs : List Loc) (ls : Array Slot) , At D cA ad kM 31 R A s σ H locs → lv_has ls 7 [(0, .ref (ad 0)), (3, .int (zI v3)), (4, .long (zJ v4)), (6, .int (zI v6))] → K102 v3 v4 v6 σ = some res → W p l e (rmU 5 136) s m args below meth c H locs 0 0 (MQ below (QV D cA ad kM 31 R A res) args s 0 0 A) (F0 m 102 ls [])) {σ : St} {H : Heap} {locs : List Loc} {ls : Array Slot}  (hw : At D cA ad kM 31 R A s σ H locs) (hl : lv_has ls 7 [(0, .ref (ad 0)), (3, .int (zI v3)), (4, .long (zJ v4)), (6, .int (zI v6))]) (h : p_X8_weigh_102b K88 K102 v3 v4 v6 σ = some res) : W p l e (rmU 5 136) s m args below meth c H locs 0 0 (MQ below (QV D cA ad kM 31 R A res) args s 0 0 A) (F0 m 102 ls []) := by
  have h := h
  unfold p_X8_weigh_102b at h
  refine y_iload C dX8_weigh_102 (lv_at hl 3 rfl) ?_
  refine y_aload_n C dX8_weigh_104 (lv_at hl 0 rfl) ?_
  refine g8 C hw km_0 7 (by decide) wd_878 rfl dX8_weigh_105 ?_
  refine y_icmp_ge (tgt := 176) C (a' := zm v6) (b' := zm (σ 0 7)) rfl rfl dX8_weigh_108 (by decide) (fun hc => ?_) (fun hc => ?_)
  · rw [if_pos hc] at h
    refine y_iconst C dX8_weigh_176 ?_
    refine y_istore (lv' := [(6, .int (zI 0)), (0, .ref (ad 0)), (3, .int (zI v3)), (4, .long (zJ v4))]) C dX8_weigh_177 hl (by decide) rfl (fun ls hl => ?_)
    exact k_X8_weigh_179 C hK88 FU _ _ _ _ _ _ _  hw (lv_sub hl [1, 2, 3, 0] rfl) h
  · rw [if_neg hc] at h
    refine y_aload_n C dX8_weigh_111 (lv_at hl 0 rfl) ?_
    refine g8 C hw km_0 45 (by decide) wd_916 rfl dX8_weigh_112 ?_
    refine y_iload C dX8_weigh_115 (lv_at hl 3 rfl) ?_
    refine y_aload_n C dX8_weigh_117 (lv_at hl 0 rfl) ?_
    refine g8 C hw km_0 45 (by decide) wd_916 rfl dX8_weigh_118 ?_
    refine y_iload C dX8_weigh_121 (lv_at hl 3 rfl) ?_
    obtain ⟨hg123, h⟩ := gd_some h
    refine y_lald C hw km_27 (i' := zm v6) rfl hg123 dX8_weigh_123 ?_
    refine y_aload_n C dX8_weigh_124 (lv_at hl 0 rfl) ?_
    refine g8 C hw km_0 46 (by decide) wd_917 rfl dX8_weigh_125 ?_
    refine y_bipush C dX8_weigh_128 (by decide) ?_
    refine y_iload C dX8_weigh_130 (lv_at hl 3 rfl) ?_
    refine y_imul C dX8_weigh_132 ?_
    refine y_iload_n C dX8_weigh_133 (lv_at hl 1 rfl) ?_
    refine y_iadd C dX8_weigh_134 ?_
    obtain ⟨hg135, h⟩ := gd_some h
    refine y_iald C hw km_28 (i' := zm ((8 * v6) + v3)) rfl hg135 dX8_weigh_135 ?_
    refine y_i2l C rfl dX8_weigh_136 ?_
    refine y_lmul C dX8_weigh_137 ?_
    refine y_ldc2 C (z := 1000000) wd_1272 (by decide) dX8_weigh_138 ?_
    refine y_ldiv C (b' := 1000000) (by decide) (by decide) dX8_weigh_141 ?_
    obtain ⟨σ142, eσ142, h⟩ := nx_some h
    refine y_last C hw km_27 (i' := zm v6) rfl hg123 dX8_weigh_142 (fun H locs hw => ?_)
    rw [← eσ142] at hw
    refine y_aload_n C dX8_weigh_143 (lv_at hl 0 rfl) ?_
    refine g8 C hw km_0 45 (by decide) wd_916 rfl dX8_weigh_144 ?_
    refine y_iload C dX8_weigh_147 (lv_at hl 3 rfl) ?_
    refine y_lald C hw km_27 (i' := zm v6) rfl hg123 dX8_weigh_149 ?_
    refine y_lload C dX8_weigh_150 (lv_at hl 2 rfl) ?_
    refine y_lcmp C dX8_weigh_152 ?_
    refine y_if_le (tgt := 166) C (a' := zm (zcmp (σ142 27 (zm v6)) v4)) rfl dX8_weigh_153 (by decide) (fun hc => ?_) (fun hc => ?_)
    · rw [if_pos hc] at h
      refine y_lload C dX8_weigh_166 (lv_at hl 2 rfl) ?_
      exact k_X8_weigh_168 C hK88 hK102  hw (lv_sub hl [0, 1, 3] rfl) h
    · rw [if_neg hc] at h
      refine y_aload_n C dX8_weigh_156 (lv_at hl 0 rfl) ?_
      refine g8 C hw km_0 45 (by decide) wd_916 rfl dX8_weigh_157 ?_
      refine y_iload C dX8_weigh_160 (lv_at hl 3 rfl) ?_
      refine y_lald C hw km_27 (i' := zm v6) rfl hg123 dX8_weigh_162 ?_
      refine y_goto (tgt := 168) C dX8_weigh_163 (by decide) ?_
      exact k_X8_weigh_168 C hK88 hK102  hw (lv_sub hl [0, 1, 3] rfl) h
set_option maxRecDepth 100000 in
theorem k_X8_weigh_102 {K88 : Int → St → Option (Int × St)} (C : Cx cX8_weigh RX8 7 none D cA adK adV A p s m args meth c) (hK88 : ∀ (v3 : Int) (σ : St) (H : Heap) (locs : List Loc) (ls : Array Slot) , At D cA ad kM 31 R A s σ H locs → lv_has ls 7 [(0, .ref (ad 0)), (3, .int (zI v3))] → K88 v3 σ = some res → W p l e (rmU 5 136) s m args below meth c H locs 0 0 (MQ below (QV D cA ad kM 31 R A res) args s 0 0 A) (F0 m 88 ls [])) : ∀ (n : Nat) (v3 : Int) (v4 : Int) (v6 : Int) (σ : St) (H : Heap) (locs : List Loc) (ls : Array Slot) , At D cA ad kM 31 R A s σ H locs → lv_has ls 7 [(0, .ref (ad 0)), (3, .int (zI v3)), (4, .long (zJ v4)), (6, .int (zI v6))] → p_X8_weigh_102 K88 n v3 v4 v6 σ = some res → W p l e (rmU 5 136) s m args below meth c H locs 0 0 (MQ below (QV D cA ad kM 31 R A res) args s 0 0 A) (F0 m 102 ls []) := by
  intro n
  induction n with
  | zero =>
    intro v3 v4 v6 σ H locs ls  hw hl h
    have h : none = some res := h
    cases h
  | succ n ih =>
    intro v3 v4 v6 σ H locs ls  hw hl h
    exact k_X8_weigh_102b C hK88 ih  hw hl h
set_option maxRecDepth 100000 in
set_option maxHeartbeats 4000000 in
theorem k_X8_weigh_88b {K88 : Int → St → Option (Int × St)} {v3 : Int} (C : Cx cX8_weigh RX8 7 none D cA adK adV A p s m args meth c)  (hK88 : ∀ (v3 : Int) (σ : St) (H : Heap) (locs : List Loc) (ls : Array Slot) , At D cA ad kM 31 R A s σ H locs → lv_has ls 7 [(0, .ref (ad 0)), (3, .int (zI v3))] → K88 v3 σ = some res → W p l e (rmU 5 136) s m args below meth c H locs 0 0 (MQ below (QV D cA ad kM 31 R A res) args s 0 0 A) (F0 m 88 ls [])) {σ : St} {H : Heap} {locs : List Loc} {ls : Array Slot}  (hw : At D cA ad kM 31 R A s σ H locs) (hl : lv_has ls 7 [(0, .ref (ad 0)), (3, .int (zI v3))]) (h : p_X8_weigh_88b K88 v3 σ = some res) : W p l e (rmU 5 136) s m args below meth c H locs 0 0 (MQ below (QV D cA ad kM 31 R A res) args s 0 0 A) (F0 m 88 ls []) := by
  have h := h
  unfold p_X8_weigh_88b at h
  refine y_iload_n C dX8_weigh_88 (lv_at hl 1 rfl) ?_
  refine y_aload_n C dX8_weigh_89 (lv_at hl 0 rfl) ?_
  refine g8 C hw km_0 42 (by decide) wd_913 rfl dX8_weigh_90 ?_
  refine y_icmp_ge (tgt := 228) C (a' := zm v3) (b' := zm (σ 0 42)) rfl rfl dX8_weigh_93 (by decide) (fun hc => ?_) (fun hc => ?_)
  · rw [if_pos hc] at h
    exact y_vret C hw h dX8_weigh_228
  · rw [if_neg hc] at h
    refine y_lconst C (z' := 0) dX8_weigh_96 (by decide) ?_
    refine y_lstore (lv' := [(4, .long (zJ 0)), (0, .ref (ad 0)), (3, .int (zI v3))]) C dX8_weigh_97 hl (by decide) rfl (fun ls hl => ?_)
    refine y_iconst C dX8_weigh_99 ?_
    refine y_istore (lv' := [(6, .int (zI 0)), (4, .long (zJ 0)), (0, .ref (ad 0)), (3, .int (zI v3))]) C dX8_weigh_100 hl (by decide) rfl (fun ls hl => ?_)
    exact k_X8_weigh_102 C hK88 FU _ _ _ _ _ _ _  hw (lv_sub hl [2, 3, 1, 0] rfl) h
set_option maxRecDepth 100000 in
theorem k_X8_weigh_88  (C : Cx cX8_weigh RX8 7 none D cA adK adV A p s m args meth c)  : ∀ (n : Nat) (v3 : Int) (σ : St) (H : Heap) (locs : List Loc) (ls : Array Slot) , At D cA ad kM 31 R A s σ H locs → lv_has ls 7 [(0, .ref (ad 0)), (3, .int (zI v3))] → p_X8_weigh_88  n v3 σ = some res → W p l e (rmU 5 136) s m args below meth c H locs 0 0 (MQ below (QV D cA ad kM 31 R A res) args s 0 0 A) (F0 m 88 ls []) := by
  intro n
  induction n with
  | zero =>
    intro v3 σ H locs ls  hw hl h
    have h : none = some res := h
    cases h
  | succ n ih =>
    intro v3 σ H locs ls  hw hl h
    exact k_X8_weigh_88b C  ih  hw hl h
set_option maxRecDepth 100000 in
set_option maxHeartbeats 4000000 in
theorem k_X8_weigh_30b {K2 : Int → Int → Int → St → Option (Int × St)} {K30 : Int → Int → Int → Int → St → Option (Int × St)} {v1 : Int} {v2 : Int} {v3 : Int} {v4 : Int} (C : Cx cX8_weigh RX8 7 none D cA adK adV A p s m args meth c) (hK2 : ∀ (v1 : Int) (v2 : Int) (v3 : Int) (σ : St) (H : Heap) (locs : List Loc) (ls : Array Slot) , At D cA ad kM 31 R A s σ H locs → lv_has ls 7 [(0, .ref (ad 0)), (1, .int (zI v1)), (2, .int (zI v2)), (3, .int (zI v3))] → K2 v1 v2 v3 σ = some res → W p l e (rmU 5 136) s m args below meth c H locs 0 0 (MQ below (QV D cA ad kM 31 R A res) args s 0 0 A) (F0 m 2 ls [])) (hK30 : ∀ (v1 : Int) (v2 : Int) (v3 : Int) (v4 : Int) (σ : St) (H : Heap) (locs : List Loc) (ls : Array Slot) , At D cA ad kM 31 R A s σ H locs → lv_has ls 7 [(0, .ref (ad 0)), (1, .int (zI v1)), (2, .int (zI v2)), (3, .int (zI v3)), (4, .int (zI v4))] → K30 v1 v2 v3 v4 σ = some res → W p l e (rmU 5 136) s m args below meth c H locs 0 0 (MQ below (QV D cA ad kM 31 R A res) args s 0 0 A) (F0 m 30 ls [])) {σ : St} {H : Heap} {locs : List Loc} {ls : Array Slot}  (hw : At D cA ad kM 31 R A s σ H locs) (hl : lv_has ls 7 [(0, .ref (ad 0)), (1, .int (zI v1)), (2, .int (zI v2)), (3, .int (zI v3)), (4, .int (zI v4))]) (h : p_X8_weigh_30b K2 K30 v1 v2 v3 v4 σ = some res) : W p l e (rmU 5 136) s m args below meth c H locs 0 0 (MQ below (QV D cA ad kM 31 R A res) args s 0 0 A) (F0 m 30 ls []) := by
  have h := h
  unfold p_X8_weigh_30b at h
  refine y_iload C dX8_weigh_30 (lv_at hl 4 rfl) ?_
  refine y_aload_n C dX8_weigh_32 (lv_at hl 0 rfl) ?_
  refine g8 C hw km_0 42 (by decide) wd_913 rfl dX8_weigh_33 ?_
  refine y_icmp_ge (tgt := 80) C (a' := zm v4) (b' := zm (σ 0 42)) rfl rfl dX8_weigh_36 (by decide) (fun hc => ?_) (fun hc => ?_)
  · rw [if_pos hc] at h
    refine y_iinc (lv' := [(3, .int (zI (v3 + 1))), (0, .ref (ad 0)), (1, .int (zI v1)), (2, .int (zI v2)), (4, .int (zI v4))]) C dX8_weigh_80 hl (k := 3) rfl (by decide) rfl (fun ls hl => ?_)
    refine y_goto (tgt := 2) C dX8_weigh_83 (by decide) ?_
    exact hK2 _ _ _ _ _ _ _  hw (lv_sub hl [1, 2, 3, 0] rfl) h
  · rw [if_neg hc] at h
    refine y_aload_n C dX8_weigh_39 (lv_at hl 0 rfl) ?_
    refine y_aload_n C dX8_weigh_40 (lv_at hl 0 rfl) ?_
    refine g8 C hw km_0 43 (by decide) wd_914 rfl dX8_weigh_41 ?_
    refine y_iload C dX8_weigh_44 (lv_at hl 4 rfl) ?_
    obtain ⟨hg46, h⟩ := gd_some h
    refine y_iald C hw km_25 (i' := zm v4) rfl hg46 dX8_weigh_46 ?_
    obtain ⟨x47, hc47, h⟩ := bd_some h
    refine y_cv (rest := []) hw (y_rV C hw km_0 (by decide) rfl rfl (c_X8_liveYear  hc47) mi_X8_liveYear wd_1268 wd_1270 ws_59 rfl ⟨by decide, by decide⟩ hl rfl (Nat.le_of_ble_eq_true rfl) dX8_weigh_47) (fun H locs hw => ?_)
    refine y_aload_n C dX8_weigh_50 (lv_at hl 0 rfl) ?_
    refine g8 C hw km_0 46 (by decide) wd_917 rfl dX8_weigh_51 ?_
    refine y_bipush C dX8_weigh_54 (by decide) ?_
    refine y_iload_n C dX8_weigh_56 (lv_at hl 3 rfl) ?_
    refine y_imul C dX8_weigh_57 ?_
    refine y_iload C dX8_weigh_58 (lv_at hl 4 rfl) ?_
    refine y_iadd C dX8_weigh_60 ?_
    refine y_aload_n C dX8_weigh_61 (lv_at hl 0 rfl) ?_
    refine g8 C hw km_0 37 (by decide) wd_908 rfl dX8_weigh_62 ?_
    refine y_aload_n C dX8_weigh_65 (lv_at hl 0 rfl) ?_
    refine g8 C hw km_0 44 (by decide) wd_915 rfl dX8_weigh_66 ?_
    refine y_iload C dX8_weigh_69 (lv_at hl 4 rfl) ?_
    refine y_iald C hw km_26 (i' := zm v4) rfl hg46 dX8_weigh_71 ?_
    obtain ⟨hg72, h⟩ := gd_some h
    refine y_iald C hw km_21 (i' := zm (x47.2 26 (zm v4))) rfl hg72 dX8_weigh_72 ?_
    obtain ⟨hg73, h⟩ := gd_some h
    obtain ⟨σ73, eσ73, h⟩ := nx_some h
    refine y_iast C hw km_28 (i' := zm ((8 * v3) + v4)) rfl hg73 dX8_weigh_73 (fun H locs hw => ?_)
    rw [← eσ73] at hw
    refine y_iinc (lv' := [(4, .int (zI (v4 + 1))), (0, .ref (ad 0)), (1, .int (zI v1)), (2, .int (zI v2)), (3, .int (zI v3))]) C dX8_weigh_74 hl (k := 4) rfl (by decide) rfl (fun ls hl => ?_)
    refine y_goto (tgt := 30) C dX8_weigh_77 (by decide) ?_
    exact hK30 _ _ _ _ _ _ _ _  hw (lv_sub hl [1, 2, 3, 4, 0] rfl) h
set_option maxRecDepth 100000 in
theorem k_X8_weigh_30 {K2 : Int → Int → Int → St → Option (Int × St)} (C : Cx cX8_weigh RX8 7 none D cA adK adV A p s m args meth c) (hK2 : ∀ (v1 : Int) (v2 : Int) (v3 : Int) (σ : St) (H : Heap) (locs : List Loc) (ls : Array Slot) , At D cA ad kM 31 R A s σ H locs → lv_has ls 7 [(0, .ref (ad 0)), (1, .int (zI v1)), (2, .int (zI v2)), (3, .int (zI v3))] → K2 v1 v2 v3 σ = some res → W p l e (rmU 5 136) s m args below meth c H locs 0 0 (MQ below (QV D cA ad kM 31 R A res) args s 0 0 A) (F0 m 2 ls [])) : ∀ (n : Nat) (v1 : Int) (v2 : Int) (v3 : Int) (v4 : Int) (σ : St) (H : Heap) (locs : List Loc) (ls : Array Slot) , At D cA ad kM 31 R A s σ H locs → lv_has ls 7 [(0, .ref (ad 0)), (1, .int (zI v1)), (2, .int (zI v2)), (3, .int (zI v3)), (4, .int (zI v4))] → p_X8_weigh_30 K2 n v1 v2 v3 v4 σ = some res → W p l e (rmU 5 136) s m args below meth c H locs 0 0 (MQ below (QV D cA ad kM 31 R A res) args s 0 0 A) (F0 m 30 ls []) := by
  intro n
  induction n with
  | zero =>
    intro v1 v2 v3 v4 σ H locs ls  hw hl h
    have h : none = some res := h
    cases h
  | succ n ih =>
    intro v1 v2 v3 v4 σ H locs ls  hw hl h
    exact k_X8_weigh_30b C hK2 ih  hw hl h
set_option maxRecDepth 100000 in
set_option maxHeartbeats 4000000 in
theorem k_X8_weigh_2b {K2 : Int → Int → Int → St → Option (Int × St)} {v1 : Int} {v2 : Int} {v3 : Int} (C : Cx cX8_weigh RX8 7 none D cA adK adV A p s m args meth c)  (hK2 : ∀ (v1 : Int) (v2 : Int) (v3 : Int) (σ : St) (H : Heap) (locs : List Loc) (ls : Array Slot) , At D cA ad kM 31 R A s σ H locs → lv_has ls 7 [(0, .ref (ad 0)), (1, .int (zI v1)), (2, .int (zI v2)), (3, .int (zI v3))] → K2 v1 v2 v3 σ = some res → W p l e (rmU 5 136) s m args below meth c H locs 0 0 (MQ below (QV D cA ad kM 31 R A res) args s 0 0 A) (F0 m 2 ls [])) {σ : St} {H : Heap} {locs : List Loc} {ls : Array Slot}  (hw : At D cA ad kM 31 R A s σ H locs) (hl : lv_has ls 7 [(0, .ref (ad 0)), (1, .int (zI v1)), (2, .int (zI v2)), (3, .int (zI v3))]) (h : p_X8_weigh_2b K2 v1 v2 v3 σ = some res) : W p l e (rmU 5 136) s m args below meth c H locs 0 0 (MQ below (QV D cA ad kM 31 R A res) args s 0 0 A) (F0 m 2 ls []) := by
  have h := h
  unfold p_X8_weigh_2b at h
  refine y_iload_n C dX8_weigh_2 (lv_at hl 3 rfl) ?_
  refine y_aload_n C dX8_weigh_3 (lv_at hl 0 rfl) ?_
  refine g8 C hw km_0 7 (by decide) wd_878 rfl dX8_weigh_4 ?_
  refine y_icmp_ge (tgt := 86) C (a' := zm v3) (b' := zm (σ 0 7)) rfl rfl dX8_weigh_7 (by decide) (fun hc => ?_) (fun hc => ?_)
  · rw [if_pos hc] at h
    refine y_iconst C dX8_weigh_86 ?_
    refine y_istore_n (lv' := [(3, .int (zI 0)), (0, .ref (ad 0)), (1, .int (zI v1)), (2, .int (zI v2))]) C dX8_weigh_87 hl (by decide) rfl (fun ls hl => ?_)
    exact k_X8_weigh_88 C  FU _ _ _ _ _  hw (lv_sub hl [1, 0] rfl) h
  · rw [if_neg hc] at h
    refine y_aload_n C dX8_weigh_10 (lv_at hl 0 rfl) ?_
    refine g8 C hw km_0 45 (by decide) wd_916 rfl dX8_weigh_11 ?_
    refine y_iload_n C dX8_weigh_14 (lv_at hl 3 rfl) ?_
    refine y_ldc2 C (z := 100000) wd_1303 (by decide) dX8_weigh_15 ?_
    obtain ⟨hg18, h⟩ := gd_some h
    obtain ⟨σ18, eσ18, h⟩ := nx_some h
    refine y_last C hw km_27 (i' := zm v3) rfl hg18 dX8_weigh_18 (fun H locs hw => ?_)
    rw [← eσ18] at hw
    refine y_aload_n C dX8_weigh_19 (lv_at hl 0 rfl) ?_
    refine y_iload_n C dX8_weigh_20 (lv_at hl 3 rfl) ?_
    refine y_iload_n C dX8_weigh_21 (lv_at hl 1 rfl) ?_
    refine y_iconst C dX8_weigh_22 ?_
    refine y_iload_n C dX8_weigh_23 (lv_at hl 2 rfl) ?_
    obtain ⟨x24, hc24, h⟩ := bd_some h
    refine y_cv (rest := []) hw (y_rV C hw km_0 (by decide) rfl rfl (c_X8_work  hc24) mi_X8_work wd_1172 wd_1174 ws_44 rfl ⟨by decide, by decide⟩ hl rfl (Nat.le_of_ble_eq_true rfl) dX8_weigh_24) (fun H locs hw => ?_)
    refine y_iconst C dX8_weigh_27 ?_
    refine y_istore (lv' := [(4, .int (zI 0)), (0, .ref (ad 0)), (1, .int (zI v1)), (2, .int (zI v2)), (3, .int (zI v3))]) C dX8_weigh_28 hl (by decide) rfl (fun ls hl => ?_)
    exact k_X8_weigh_30 C hK2 FU _ _ _ _ _ _ _ _  hw (lv_sub hl [1, 2, 3, 4, 0] rfl) h
set_option maxRecDepth 100000 in
theorem k_X8_weigh_2  (C : Cx cX8_weigh RX8 7 none D cA adK adV A p s m args meth c)  : ∀ (n : Nat) (v1 : Int) (v2 : Int) (v3 : Int) (σ : St) (H : Heap) (locs : List Loc) (ls : Array Slot) , At D cA ad kM 31 R A s σ H locs → lv_has ls 7 [(0, .ref (ad 0)), (1, .int (zI v1)), (2, .int (zI v2)), (3, .int (zI v3))] → p_X8_weigh_2  n v1 v2 v3 σ = some res → W p l e (rmU 5 136) s m args below meth c H locs 0 0 (MQ below (QV D cA ad kM 31 R A res) args s 0 0 A) (F0 m 2 ls []) := by
  intro n
  induction n with
  | zero =>
    intro v1 v2 v3 σ H locs ls  hw hl h
    have h : none = some res := h
    cases h
  | succ n ih =>
    intro v1 v2 v3 σ H locs ls  hw hl h
    exact k_X8_weigh_2b C  ih  hw hl h
set_option maxRecDepth 100000 in
set_option maxHeartbeats 4000000 in
theorem k_X8_weigh_0  {v1 : Int} {v2 : Int} (C : Cx cX8_weigh RX8 7 none D cA adK adV A p s m args meth c)  {σ : St} {H : Heap} {locs : List Loc} {ls : Array Slot}  (hw : At D cA ad kM 31 R A s σ H locs) (hl : lv_has ls 7 [(0, .ref (ad 0)), (1, .int (zI v1)), (2, .int (zI v2))]) (h : p_X8_weigh  v1 v2 σ = some res) : W p l e (rmU 5 136) s m args below meth c H locs 0 0 (MQ below (QV D cA ad kM 31 R A res) args s 0 0 A) (F0 m 0 ls []) := by
  have h := h
  unfold p_X8_weigh at h
  refine y_iconst C dX8_weigh_0 ?_
  refine y_istore_n (lv' := [(3, .int (zI 0)), (0, .ref (ad 0)), (1, .int (zI v1)), (2, .int (zI v2))]) C dX8_weigh_1 hl (by decide) rfl (fun ls hl => ?_)
  exact k_X8_weigh_2 C  FU _ _ _ _ _ _ _  hw (lv_sub hl [1, 2, 3, 0] rfl) h
theorem c_X8_weigh {l : Launch} {D : va_G} {cA : Nat → ClassId} {adK adV : Nat → Nat} {A : Nat → Prop} {ad : Int → Nat} {R : va_W} {σ : St} {res : Int × St} {v1 : Int} {v2 : Int}  (h : p_X8_weigh v1 v2 σ = some res) : Met l yX8_weigh (wsU yX8_weigh cX8_weigh 7 none) (rmU 5 136) (va_Pc [.ref (ad 0), .int (zI v1), .int (zI v2)] (Pr D cA adK adV ad kM 31 R A σ)) (QV D cA ad kM 31 R A res) 0 0 A :=
  y_met (own := RX8) (by decide) rfl _ (Nat.le_of_ble_eq_true rfl) (fun p e s m args below meth c ls C hl hw => k_X8_weigh_0 C  hw hl h)
/-! RungHouseModel.think -/
set_option maxRecDepth 100000 in
set_option maxHeartbeats 4000000 in
theorem k_X8_think_78b {K78 : Int → Int → Int → St → Option (Int × St)} {v1 : Int} {v4 : Int} {v6 : Int} (C : Cx cX8_think RX8 7 (some .int) D cA adK adV A p s m args meth c)  (hK78 : ∀ (v1 : Int) (v4 : Int) (v6 : Int) (σ : St) (H : Heap) (locs : List Loc) (ls : Array Slot) , At D cA ad kM 31 R A s σ H locs → lv_has ls 7 [(0, .ref (ad 0)), (1, .int (zI v1)), (4, .long (zJ v4)), (6, .int (zI v6))] → K78 v1 v4 v6 σ = some res → W p l e (rmU 6 162) s m args below meth c H locs 0 0 (MQ below (QI D cA ad kM 31 R A res) args s 0 0 A) (F0 m 78 ls [])) {σ : St} {H : Heap} {locs : List Loc} {ls : Array Slot}  (hw : At D cA ad kM 31 R A s σ H locs) (hl : lv_has ls 7 [(0, .ref (ad 0)), (1, .int (zI v1)), (4, .long (zJ v4)), (6, .int (zI v6))]) (h : p_X8_think_78b K78 v1 v4 v6 σ = some res) : W p l e (rmU 6 162) s m args below meth c H locs 0 0 (MQ below (QI D cA ad kM 31 R A res) args s 0 0 A) (F0 m 78 ls []) := by
  have h := h
  unfold p_X8_think_78b at h
  refine y_iload C dX8_think_78 (lv_at hl 3 rfl) ?_
  refine y_aload_n C dX8_think_80 (lv_at hl 0 rfl) ?_
  refine g8 C hw km_0 7 (by decide) wd_878 rfl dX8_think_81 ?_
  refine y_icmp_ge (tgt := 105) C (a' := zm v6) (b' := zm (σ 0 7)) rfl rfl dX8_think_84 (by decide) (fun hc => ?_) (fun hc => ?_)
  · rw [if_pos hc] at h
    refine y_lload C dX8_think_105 (lv_at hl 2 rfl) ?_
    refine y_lconst C (z' := 0) dX8_think_107 (by decide) ?_
    refine y_lcmp C dX8_think_108 ?_
    refine y_if_ne (tgt := 116) C (a' := zm (zcmp v4 0)) rfl dX8_think_109 (by decide) (fun hc => ?_) (fun hc => ?_)
    · rw [if_pos hc] at h
      refine y_iconst C dX8_think_112 ?_
      refine y_goto (tgt := 130) C dX8_think_113 (by decide) ?_
      exact y_iret C hw h dX8_think_130
    · rw [if_neg hc] at h
      refine y_ldc2 C (z := 100) wd_1304 (by decide) dX8_think_116 ?_
      refine y_aload_n C dX8_think_119 (lv_at hl 0 rfl) ?_
      refine g8 C hw km_0 45 (by decide) wd_916 rfl dX8_think_120 ?_
      refine y_iload_n C dX8_think_123 (lv_at hl 1 rfl) ?_
      obtain ⟨hg124, h⟩ := gd_some h
      refine y_lald C hw km_27 (i' := zm v1) rfl hg124 dX8_think_124 ?_
      refine y_lmul C dX8_think_125 ?_
      refine y_lload C dX8_think_126 (lv_at hl 2 rfl) ?_
      obtain ⟨hg128, h⟩ := gd_some h
      refine y_ldiv C (b' := zl v4) rfl hg128 dX8_think_128 ?_
      refine y_l2i C dX8_think_129 ?_
      exact y_iret C hw h dX8_think_130
  · rw [if_neg hc] at h
    refine y_lload C dX8_think_87 (lv_at hl 2 rfl) ?_
    refine y_aload_n C dX8_think_89 (lv_at hl 0 rfl) ?_
    refine g8 C hw km_0 45 (by decide) wd_916 rfl dX8_think_90 ?_
    refine y_iload C dX8_think_93 (lv_at hl 3 rfl) ?_
    obtain ⟨hg95, h⟩ := gd_some h
    refine y_lald C hw km_27 (i' := zm v6) rfl hg95 dX8_think_95 ?_
    refine y_ladd C dX8_think_96 ?_
    refine y_lstore (lv' := [(4, .long (zJ (v4 + (σ 27 (zm v6))))), (0, .ref (ad 0)), (1, .int (zI v1)), (6, .int (zI v6))]) C dX8_think_97 hl (by decide) rfl (fun ls hl => ?_)
    refine y_iinc (lv' := [(6, .int (zI (v6 + 1))), (4, .long (zJ (v4 + (σ 27 (zm v6))))), (0, .ref (ad 0)), (1, .int (zI v1))]) C dX8_think_99 hl (k := 3) rfl (by decide) rfl (fun ls hl => ?_)
    refine y_goto (tgt := 78) C dX8_think_102 (by decide) ?_
    exact hK78 _ _ _ _ _ _ _  hw (lv_sub hl [2, 3, 1, 0] rfl) h
set_option maxRecDepth 100000 in
theorem k_X8_think_78  (C : Cx cX8_think RX8 7 (some .int) D cA adK adV A p s m args meth c)  : ∀ (n : Nat) (v1 : Int) (v4 : Int) (v6 : Int) (σ : St) (H : Heap) (locs : List Loc) (ls : Array Slot) , At D cA ad kM 31 R A s σ H locs → lv_has ls 7 [(0, .ref (ad 0)), (1, .int (zI v1)), (4, .long (zJ v4)), (6, .int (zI v6))] → p_X8_think_78  n v1 v4 v6 σ = some res → W p l e (rmU 6 162) s m args below meth c H locs 0 0 (MQ below (QI D cA ad kM 31 R A res) args s 0 0 A) (F0 m 78 ls []) := by
  intro n
  induction n with
  | zero =>
    intro v1 v4 v6 σ H locs ls  hw hl h
    have h : none = some res := h
    cases h
  | succ n ih =>
    intro v1 v4 v6 σ H locs ls  hw hl h
    exact k_X8_think_78b C  ih  hw hl h
set_option maxRecDepth 100000 in
set_option maxHeartbeats 4000000 in
theorem k_X8_think_32b {K32 : Int → Int → Int → Int → St → Option (Int × St)} {v1 : Int} {v2 : Int} {v3 : Int} {v4 : Int} (C : Cx cX8_think RX8 7 (some .int) D cA adK adV A p s m args meth c)  (hK32 : ∀ (v1 : Int) (v2 : Int) (v3 : Int) (v4 : Int) (σ : St) (H : Heap) (locs : List Loc) (ls : Array Slot) , At D cA ad kM 31 R A s σ H locs → lv_has ls 7 [(0, .ref (ad 0)), (1, .int (zI v1)), (2, .int (zI v2)), (3, .int (zI v3)), (4, .int (zI v4))] → K32 v1 v2 v3 v4 σ = some res → W p l e (rmU 6 162) s m args below meth c H locs 0 0 (MQ below (QI D cA ad kM 31 R A res) args s 0 0 A) (F0 m 32 ls [])) {σ : St} {H : Heap} {locs : List Loc} {ls : Array Slot}  (hw : At D cA ad kM 31 R A s σ H locs) (hl : lv_has ls 7 [(0, .ref (ad 0)), (1, .int (zI v1)), (2, .int (zI v2)), (3, .int (zI v3)), (4, .int (zI v4))]) (h : p_X8_think_32b K32 v1 v2 v3 v4 σ = some res) : W p l e (rmU 6 162) s m args below meth c H locs 0 0 (MQ below (QI D cA ad kM 31 R A res) args s 0 0 A) (F0 m 32 ls []) := by
  have h := h
  unfold p_X8_think_32b at h
  refine y_iload C dX8_think_32 (lv_at hl 4 rfl) ?_
  refine y_aload_n C dX8_think_34 (lv_at hl 0 rfl) ?_
  refine g8 C hw km_0 42 (by decide) wd_913 rfl dX8_think_35 ?_
  refine y_icmp_ge (tgt := 66) C (a' := zm v4) (b' := zm (σ 0 42)) rfl rfl dX8_think_38 (by decide) (fun hc => ?_) (fun hc => ?_)
  · rw [if_pos hc] at h
    refine y_aload_n C dX8_think_66 (lv_at hl 0 rfl) ?_
    refine y_iload_n C dX8_think_67 (lv_at hl 2 rfl) ?_
    refine y_iload_n C dX8_think_68 (lv_at hl 3 rfl) ?_
    obtain ⟨x69, hc69, h⟩ := bd_some h
    refine y_cv (rest := []) hw (y_rV C hw km_0 (by decide) rfl rfl (c_X8_weigh  hc69) mi_X8_weigh wd_1299 wd_1301 ws_61 rfl ⟨by decide, by decide⟩ hl rfl (Nat.le_of_ble_eq_true rfl) dX8_think_69) (fun H locs hw => ?_)
    refine y_lconst C (z' := 0) dX8_think_72 (by decide) ?_
    refine y_lstore (lv' := [(4, .long (zJ 0)), (0, .ref (ad 0)), (1, .int (zI v1)), (2, .int (zI v2)), (3, .int (zI v3))]) C dX8_think_73 hl (by decide) rfl (fun ls hl => ?_)
    refine y_iconst C dX8_think_75 ?_
    refine y_istore (lv' := [(6, .int (zI 0)), (4, .long (zJ 0)), (0, .ref (ad 0)), (1, .int (zI v1)), (2, .int (zI v2)), (3, .int (zI v3))]) C dX8_think_76 hl (by decide) rfl (fun ls hl => ?_)
    exact k_X8_think_78 C  FU _ _ _ _ _ _ _  hw (lv_sub hl [2, 3, 1, 0] rfl) h
  · rw [if_neg hc] at h
    refine y_aload_n C dX8_think_41 (lv_at hl 0 rfl) ?_
    refine g8 C hw km_0 43 (by decide) wd_914 rfl dX8_think_42 ?_
    refine y_iload C dX8_think_45 (lv_at hl 4 rfl) ?_
    obtain ⟨hg47, h⟩ := gd_some h
    refine y_iald C hw km_25 (i' := zm v4) rfl hg47 dX8_think_47 ?_
    refine y_aload_n C dX8_think_48 (lv_at hl 0 rfl) ?_
    refine g8 C hw km_0 0 (by decide) wd_871 rfl dX8_think_49 ?_
    refine y_iload_n C dX8_think_52 (lv_at hl 2 rfl) ?_
    obtain ⟨hg53, h⟩ := gd_some h
    refine y_iald C hw km_1 (i' := zm v2) rfl hg53 dX8_think_53 ?_
    refine y_icmp_lt (tgt := 60) C (a' := zm (σ 25 (zm v4))) (b' := zm (σ 1 (zm v2))) rfl rfl dX8_think_54 (by decide) (fun hc => ?_) (fun hc => ?_)
    · rw [if_pos hc] at h
      refine y_iinc (lv' := [(4, .int (zI (v4 + 1))), (0, .ref (ad 0)), (1, .int (zI v1)), (2, .int (zI v2)), (3, .int (zI v3))]) C dX8_think_60 hl (k := 4) rfl (by decide) rfl (fun ls hl => ?_)
      refine y_goto (tgt := 32) C dX8_think_63 (by decide) ?_
      exact hK32 _ _ _ _ _ _ _ _  hw (lv_sub hl [1, 2, 3, 4, 0] rfl) h
    · rw [if_neg hc] at h
      refine y_ldc C (z := (-1000000003)) wd_1121 (by decide) dX8_think_57 ?_
      exact y_iret C hw h dX8_think_59
set_option maxRecDepth 100000 in
theorem k_X8_think_32  (C : Cx cX8_think RX8 7 (some .int) D cA adK adV A p s m args meth c)  : ∀ (n : Nat) (v1 : Int) (v2 : Int) (v3 : Int) (v4 : Int) (σ : St) (H : Heap) (locs : List Loc) (ls : Array Slot) , At D cA ad kM 31 R A s σ H locs → lv_has ls 7 [(0, .ref (ad 0)), (1, .int (zI v1)), (2, .int (zI v2)), (3, .int (zI v3)), (4, .int (zI v4))] → p_X8_think_32  n v1 v2 v3 v4 σ = some res → W p l e (rmU 6 162) s m args below meth c H locs 0 0 (MQ below (QI D cA ad kM 31 R A res) args s 0 0 A) (F0 m 32 ls []) := by
  intro n
  induction n with
  | zero =>
    intro v1 v2 v3 v4 σ H locs ls  hw hl h
    have h : none = some res := h
    cases h
  | succ n ih =>
    intro v1 v2 v3 v4 σ H locs ls  hw hl h
    exact k_X8_think_32b C  ih  hw hl h
set_option maxRecDepth 100000 in
set_option maxHeartbeats 4000000 in
theorem k_X8_think_0  {v1 : Int} {v2 : Int} {v3 : Int} (C : Cx cX8_think RX8 7 (some .int) D cA adK adV A p s m args meth c)  {σ : St} {H : Heap} {locs : List Loc} {ls : Array Slot}  (hw : At D cA ad kM 31 R A s σ H locs) (hl : lv_has ls 7 [(0, .ref (ad 0)), (1, .int (zI v1)), (2, .int (zI v2)), (3, .int (zI v3))]) (h : p_X8_think  v1 v2 v3 σ = some res) : W p l e (rmU 6 162) s m args below meth c H locs 0 0 (MQ below (QI D cA ad kM 31 R A res) args s 0 0 A) (F0 m 0 ls []) := by
  have h := h
  unfold p_X8_think at h
  refine y_aload_n C dX8_think_0 (lv_at hl 0 rfl) ?_
  refine y_iload_n C dX8_think_1 (lv_at hl 1 rfl) ?_
  obtain ⟨x2, hc2, h⟩ := bd_some h
  refine y_ci (rest := []) hw (y_rV C hw km_0 (by decide) rfl rfl (c_X8_isSort  hc2) mi_X8_isSort wd_1138 wd_1140 ws_39 rfl ⟨by decide, by decide⟩ hl rfl (Nat.le_of_ble_eq_true rfl) dX8_think_2) (fun H locs hw => ?_)
  refine y_if_eq (tgt := 16) C (a' := zm x2.1) rfl dX8_think_5 (by decide) (fun hc => ?_) (fun hc => ?_)
  · rw [if_pos hc] at h
    refine y_ldc C (z := (-1000000001)) wd_1037 (by decide) dX8_think_16 ?_
    exact y_iret C hw h dX8_think_18
  · rw [if_neg hc] at h
    refine y_aload_n C dX8_think_8 (lv_at hl 0 rfl) ?_
    refine y_iload_n C dX8_think_9 (lv_at hl 2 rfl) ?_
    obtain ⟨x10, hc10, h⟩ := bd_some h
    refine y_ci (rest := []) hw (y_rV C hw km_0 (by decide) rfl rfl (c_X8_isHouse  hc10) mi_X8_isHouse wd_1096 wd_1098 ws_33 rfl ⟨by decide, by decide⟩ hl rfl (Nat.le_of_ble_eq_true rfl) dX8_think_10) (fun H locs hw => ?_)
    refine y_if_ne (tgt := 19) C (a' := zm x10.1) rfl dX8_think_13 (by decide) (fun hc => ?_) (fun hc => ?_)
    · rw [if_pos hc] at h
      refine y_ldc C (z := (-1000000001)) wd_1037 (by decide) dX8_think_16 ?_
      exact y_iret C hw h dX8_think_18
    · rw [if_neg hc] at h
      refine y_iload_n C dX8_think_19 (lv_at hl 3 rfl) ?_
      obtain ⟨x20, hc20, h⟩ := bd_some h
      refine y_ci (rest := []) hw (y_rS C hw (c_X8_isTime  hc20) mi_X8_isTime wd_1168 wd_1169 rfl ⟨by decide, by decide⟩ hl rfl (Nat.le_of_ble_eq_true rfl) dX8_think_20) (fun H locs hw => ?_)
      refine y_if_ne (tgt := 29) C (a' := zm x20.1) rfl dX8_think_23 (by decide) (fun hc => ?_) (fun hc => ?_)
      · rw [if_pos hc] at h
        refine y_ldc C (z := (-1000000002)) wd_1030 (by decide) dX8_think_26 ?_
        exact y_iret C hw h dX8_think_28
      · rw [if_neg hc] at h
        refine y_iconst C dX8_think_29 ?_
        refine y_istore (lv' := [(4, .int (zI 0)), (0, .ref (ad 0)), (1, .int (zI v1)), (2, .int (zI v2)), (3, .int (zI v3))]) C dX8_think_30 hl (by decide) rfl (fun ls hl => ?_)
        exact k_X8_think_32 C  FU _ _ _ _ _ _ _ _  hw (lv_sub hl [1, 2, 3, 4, 0] rfl) h
theorem c_X8_think {l : Launch} {D : va_G} {cA : Nat → ClassId} {adK adV : Nat → Nat} {A : Nat → Prop} {ad : Int → Nat} {R : va_W} {σ : St} {res : Int × St} {v1 : Int} {v2 : Int} {v3 : Int}  (h : p_X8_think v1 v2 v3 σ = some res) : Met l yX8_think (wsU yX8_think cX8_think 7 (some .int)) (rmU 6 162) (va_Pc [.ref (ad 0), .int (zI v1), .int (zI v2), .int (zI v3)] (Pr D cA adK adV ad kM 31 R A σ)) (QI D cA ad kM 31 R A res) 0 0 A :=
  y_met (own := RX8) (by decide) rfl _ (Nat.le_of_ble_eq_true rfl) (fun p e s m args below meth c ls C hl hw => k_X8_think_0 C  hw hl h)
/-! RungHouseModel.buy -/
set_option maxRecDepth 100000 in
set_option maxHeartbeats 4000000 in
theorem k_X8_buy_0  {v1 : Int} {v2 : Int} {v3 : Int} {v4 : Int} {v5 : Int} {v6 : Int} (C : Cx cX8_buy RX8 7 (some .int) D cA adK adV A p s m args meth c)  {σ : St} {H : Heap} {locs : List Loc} {ls : Array Slot}  (hw : At D cA ad kM 31 R A s σ H locs) (hl : lv_has ls 7 [(0, .ref (ad 0)), (1, .int (zI v1)), (2, .int (zI v2)), (3, .int (zI v3)), (4, .int (zI v4)), (5, .int (zI v5)), (6, .int (zI v6))]) (h : p_X8_buy  v1 v2 v3 v4 v5 v6 σ = some res) : W p l e (rmU 5 136) s m args below meth c H locs 0 0 (MQ below (QI D cA ad kM 31 R A res) args s 0 0 A) (F0 m 0 ls []) := by
  have h := h
  unfold p_X8_buy at h
  refine y_aload_n C dX8_buy_0 (lv_at hl 0 rfl) ?_
  refine y_iload_n C dX8_buy_1 (lv_at hl 1 rfl) ?_
  obtain ⟨x2, hc2, h⟩ := bd_some h
  refine y_ci (rest := []) hw (y_rV C hw km_0 (by decide) rfl rfl (c_X8_isSort  hc2) mi_X8_isSort wd_1138 wd_1140 ws_39 rfl ⟨by decide, by decide⟩ hl rfl (Nat.le_of_ble_eq_true rfl) dX8_buy_2) (fun H locs hw => ?_)
  refine y_if_eq (tgt := 18) C (a' := zm x2.1) rfl dX8_buy_5 (by decide) (fun hc => ?_) (fun hc => ?_)
  · rw [if_pos hc] at h
    refine y_ldc C (z := (-1000000001)) wd_1037 (by decide) dX8_buy_18 ?_
    exact y_iret C hw h dX8_buy_20
  · rw [if_neg hc] at h
    refine y_aload_n C dX8_buy_8 (lv_at hl 0 rfl) ?_
    refine y_iload_n C dX8_buy_9 (lv_at hl 2 rfl) ?_
    refine y_iload C dX8_buy_10 (lv_at hl 5 rfl) ?_
    obtain ⟨x12, hc12, h⟩ := bd_some h
    refine y_ci (rest := []) hw (y_rV C hw km_0 (by decide) rfl rfl (c_X8_isRung  hc12) mi_X8_isRung wd_1104 wd_1106 ws_34 rfl ⟨by decide, by decide⟩ hl rfl (Nat.le_of_ble_eq_true rfl) dX8_buy_12) (fun H locs hw => ?_)
    refine y_if_ne (tgt := 21) C (a' := zm x12.1) rfl dX8_buy_15 (by decide) (fun hc => ?_) (fun hc => ?_)
    · rw [if_pos hc] at h
      refine y_ldc C (z := (-1000000001)) wd_1037 (by decide) dX8_buy_18 ?_
      exact y_iret C hw h dX8_buy_20
    · rw [if_neg hc] at h
      refine y_aload_n C dX8_buy_21 (lv_at hl 0 rfl) ?_
      refine y_iload_n C dX8_buy_22 (lv_at hl 3 rfl) ?_
      refine y_iload C dX8_buy_23 (lv_at hl 4 rfl) ?_
      obtain ⟨x25, hc25, h⟩ := bd_some h
      refine y_ci (rest := []) hw (y_rV C hw km_0 (by decide) rfl rfl (c_X8_isWhen  hc25) mi_X8_isWhen wd_1220 wd_1222 ws_54 rfl ⟨by decide, by decide⟩ hl rfl (Nat.le_of_ble_eq_true rfl) dX8_buy_25) (fun H locs hw => ?_)
      refine y_if_eq (tgt := 44) C (a' := zm x25.1) rfl dX8_buy_28 (by decide) (fun hc => ?_) (fun hc => ?_)
      · rw [if_pos hc] at h
        refine y_ldc C (z := (-1000000002)) wd_1030 (by decide) dX8_buy_44 ?_
        exact y_iret C hw h dX8_buy_46
      · rw [if_neg hc] at h
        refine y_iload C dX8_buy_31 (lv_at hl 6 rfl) ?_
        refine y_i2l C rfl dX8_buy_33 ?_
        refine y_lconst C (z' := 1) dX8_buy_34 (by decide) ?_
        refine y_ldc2 C (z := 3) wd_1112 (by decide) dX8_buy_35 ?_
        obtain ⟨x38, hc38, h⟩ := bd_some h
        refine y_ci (rest := []) hw (y_rS C hw (c_X8_within  hc38) mi_X8_within wd_1027 wd_1028 rfl ⟨by decide, by decide⟩ hl rfl (Nat.le_of_ble_eq_true rfl) dX8_buy_38) (fun H locs hw => ?_)
        refine y_if_ne (tgt := 47) C (a' := zm x38.1) rfl dX8_buy_41 (by decide) (fun hc => ?_) (fun hc => ?_)
        · rw [if_pos hc] at h
          refine y_ldc C (z := (-1000000002)) wd_1030 (by decide) dX8_buy_44 ?_
          exact y_iret C hw h dX8_buy_46
        · rw [if_neg hc] at h
          refine y_aload_n C dX8_buy_47 (lv_at hl 0 rfl) ?_
          refine y_iload_n C dX8_buy_48 (lv_at hl 1 rfl) ?_
          refine y_iload_n C dX8_buy_49 (lv_at hl 2 rfl) ?_
          refine y_iconst C dX8_buy_50 ?_
          refine y_iload_n C dX8_buy_51 (lv_at hl 3 rfl) ?_
          obtain ⟨x52, hc52, h⟩ := bd_some h
          refine y_cv (rest := []) hw (y_rV C hw km_0 (by decide) rfl rfl (c_X8_work  hc52) mi_X8_work wd_1172 wd_1174 ws_44 rfl ⟨by decide, by decide⟩ hl rfl (Nat.le_of_ble_eq_true rfl) dX8_buy_52) (fun H locs hw => ?_)
          refine y_aload_n C dX8_buy_55 (lv_at hl 0 rfl) ?_
          refine g8 C hw km_0 26 (by decide) wd_897 rfl dX8_buy_56 ?_
          refine y_bipush C dX8_buy_59 (by decide) ?_
          refine y_iload C dX8_buy_61 (lv_at hl 4 rfl) ?_
          refine y_iconst C dX8_buy_63 ?_
          refine y_iadd C dX8_buy_64 ?_
          refine y_imul C dX8_buy_65 ?_
          refine y_aload_n C dX8_buy_66 (lv_at hl 0 rfl) ?_
          refine y_iload_n C dX8_buy_67 (lv_at hl 2 rfl) ?_
          refine y_iload C dX8_buy_68 (lv_at hl 5 rfl) ?_
          refine y_iload C dX8_buy_70 (lv_at hl 6 rfl) ?_
          obtain ⟨x72, hc72, h⟩ := bd_some h
          refine y_ci (rest := [.int (zI (10 * (v4 + 1))), .ref (ad 16)]) hw (y_rV C hw km_0 (by decide) rfl rfl (c_X8_nextOf  hc72) mi_X8_nextOf wd_1113 wd_1115 ws_35 rfl ⟨by decide, by decide⟩ hl rfl (Nat.le_of_ble_eq_true rfl) dX8_buy_72) (fun H locs hw => ?_)
          refine y_iadd C dX8_buy_75 ?_
          obtain ⟨hg76, h⟩ := gd_some h
          refine y_iald C hw km_16 (i' := zm ((10 * (v4 + 1)) + x72.1)) rfl hg76 dX8_buy_76 ?_
          refine y_aload_n C dX8_buy_77 (lv_at hl 0 rfl) ?_
          refine g8 C hw km_0 26 (by decide) wd_897 rfl dX8_buy_78 ?_
          refine y_bipush C dX8_buy_81 (by decide) ?_
          refine y_iload C dX8_buy_83 (lv_at hl 4 rfl) ?_
          refine y_iconst C dX8_buy_85 ?_
          refine y_iadd C dX8_buy_86 ?_
          refine y_imul C dX8_buy_87 ?_
          refine y_aload_n C dX8_buy_88 (lv_at hl 0 rfl) ?_
          refine y_iload_n C dX8_buy_89 (lv_at hl 2 rfl) ?_
          refine y_iload C dX8_buy_90 (lv_at hl 5 rfl) ?_
          refine y_iload C dX8_buy_92 (lv_at hl 6 rfl) ?_
          refine y_iconst C dX8_buy_94 ?_
          refine y_isub C dX8_buy_95 ?_
          obtain ⟨x96, hc96, h⟩ := bd_some h
          refine y_ci (rest := [.int (zI (10 * (v4 + 1))), .ref (ad 16), .int (zI (x72.2 16 (zm ((10 * (v4 + 1)) + x72.1))))]) hw (y_rV C hw km_0 (by decide) rfl rfl (c_X8_nextOf  hc96) mi_X8_nextOf wd_1113 wd_1115 ws_35 rfl ⟨by decide, by decide⟩ hl rfl (Nat.le_of_ble_eq_true rfl) dX8_buy_96) (fun H locs hw => ?_)
          refine y_iadd C dX8_buy_99 ?_
          obtain ⟨hg100, h⟩ := gd_some h
          refine y_iald C hw km_16 (i' := zm ((10 * (v4 + 1)) + x96.1)) rfl hg100 dX8_buy_100 ?_
          refine y_isub C dX8_buy_101 ?_
          exact y_iret C hw h dX8_buy_102
theorem c_X8_buy {l : Launch} {D : va_G} {cA : Nat → ClassId} {adK adV : Nat → Nat} {A : Nat → Prop} {ad : Int → Nat} {R : va_W} {σ : St} {res : Int × St} {v1 : Int} {v2 : Int} {v3 : Int} {v4 : Int} {v5 : Int} {v6 : Int}  (h : p_X8_buy v1 v2 v3 v4 v5 v6 σ = some res) : Met l yX8_buy (wsU yX8_buy cX8_buy 7 (some .int)) (rmU 5 136) (va_Pc [.ref (ad 0), .int (zI v1), .int (zI v2), .int (zI v3), .int (zI v4), .int (zI v5), .int (zI v6)] (Pr D cA adK adV ad kM 31 R A σ)) (QI D cA ad kM 31 R A res) 0 0 A :=
  y_met (own := RX8) (by decide) rfl _ (Nat.le_of_ble_eq_true rfl) (fun p e s m args below meth c ls C hl hw => k_X8_buy_0 C  hw hl h)
/-! RungHouseModel.keepRung -/
set_option maxRecDepth 100000 in
set_option maxHeartbeats 4000000 in
theorem k_X8_keepRung_0  {v1 : Int} {v2 : Int} {v3 : Int} {v4 : Int} (C : Cx cX8_keepRung RX8 6 (some .int) D cA adK adV A p s m args meth c)  {σ : St} {H : Heap} {locs : List Loc} {ls : Array Slot}  (hw : At D cA ad kM 31 R A s σ H locs) (hl : lv_has ls 6 [(0, .ref (ad 0)), (1, .int (zI v1)), (2, .int (zI v2)), (3, .int (zI v3)), (4, .int (zI v4))]) (h : p_X8_keepRung  v1 v2 v3 v4 σ = some res) : W p l e (rmU 5 136) s m args below meth c H locs 0 0 (MQ below (QI D cA ad kM 31 R A res) args s 0 0 A) (F0 m 0 ls []) := by
  have h := h
  unfold p_X8_keepRung at h
  refine y_aload_n C dX8_keepRung_0 (lv_at hl 0 rfl) ?_
  refine y_iload_n C dX8_keepRung_1 (lv_at hl 1 rfl) ?_
  obtain ⟨x2, hc2, h⟩ := bd_some h
  refine y_ci (rest := []) hw (y_rV C hw km_0 (by decide) rfl rfl (c_X8_isSort  hc2) mi_X8_isSort wd_1138 wd_1140 ws_39 rfl ⟨by decide, by decide⟩ hl rfl (Nat.le_of_ble_eq_true rfl) dX8_keepRung_2) (fun H locs hw => ?_)
  refine y_if_eq (tgt := 18) C (a' := zm x2.1) rfl dX8_keepRung_5 (by decide) (fun hc => ?_) (fun hc => ?_)
  · rw [if_pos hc] at h
    refine y_ldc C (z := (-1000000001)) wd_1037 (by decide) dX8_keepRung_18 ?_
    exact y_iret C hw h dX8_keepRung_20
  · rw [if_neg hc] at h
    refine y_aload_n C dX8_keepRung_8 (lv_at hl 0 rfl) ?_
    refine y_iload_n C dX8_keepRung_9 (lv_at hl 2 rfl) ?_
    refine y_iload C dX8_keepRung_10 (lv_at hl 4 rfl) ?_
    obtain ⟨x12, hc12, h⟩ := bd_some h
    refine y_ci (rest := []) hw (y_rV C hw km_0 (by decide) rfl rfl (c_X8_isRung  hc12) mi_X8_isRung wd_1104 wd_1106 ws_34 rfl ⟨by decide, by decide⟩ hl rfl (Nat.le_of_ble_eq_true rfl) dX8_keepRung_12) (fun H locs hw => ?_)
    refine y_if_ne (tgt := 21) C (a' := zm x12.1) rfl dX8_keepRung_15 (by decide) (fun hc => ?_) (fun hc => ?_)
    · rw [if_pos hc] at h
      refine y_ldc C (z := (-1000000001)) wd_1037 (by decide) dX8_keepRung_18 ?_
      exact y_iret C hw h dX8_keepRung_20
    · rw [if_neg hc] at h
      refine y_iload_n C dX8_keepRung_21 (lv_at hl 3 rfl) ?_
      obtain ⟨x22, hc22, h⟩ := bd_some h
      refine y_ci (rest := []) hw (y_rS C hw (c_X8_isTime  hc22) mi_X8_isTime wd_1168 wd_1169 rfl ⟨by decide, by decide⟩ hl rfl (Nat.le_of_ble_eq_true rfl) dX8_keepRung_22) (fun H locs hw => ?_)
      refine y_if_ne (tgt := 31) C (a' := zm x22.1) rfl dX8_keepRung_25 (by decide) (fun hc => ?_) (fun hc => ?_)
      · rw [if_pos hc] at h
        refine y_ldc C (z := (-1000000002)) wd_1030 (by decide) dX8_keepRung_28 ?_
        exact y_iret C hw h dX8_keepRung_30
      · rw [if_neg hc] at h
        refine y_aload_n C dX8_keepRung_31 (lv_at hl 0 rfl) ?_
        refine y_iload_n C dX8_keepRung_32 (lv_at hl 1 rfl) ?_
        refine y_iload_n C dX8_keepRung_33 (lv_at hl 2 rfl) ?_
        refine y_iconst C dX8_keepRung_34 ?_
        refine y_iload_n C dX8_keepRung_35 (lv_at hl 3 rfl) ?_
        obtain ⟨x36, hc36, h⟩ := bd_some h
        refine y_cv (rest := []) hw (y_rV C hw km_0 (by decide) rfl rfl (c_X8_work  hc36) mi_X8_work wd_1172 wd_1174 ws_44 rfl ⟨by decide, by decide⟩ hl rfl (Nat.le_of_ble_eq_true rfl) dX8_keepRung_36) (fun H locs hw => ?_)
        refine y_aload_n C dX8_keepRung_39 (lv_at hl 0 rfl) ?_
        refine g8 C hw km_0 26 (by decide) wd_897 rfl dX8_keepRung_40 ?_
        refine y_iload C dX8_keepRung_43 (lv_at hl 4 rfl) ?_
        obtain ⟨hg45, h⟩ := gd_some h
        refine y_iald C hw km_16 (i' := zm v4) rfl hg45 dX8_keepRung_45 ?_
        refine y_istore (lv' := [(5, .int (zI (x36.2 16 (zm v4)))), (0, .ref (ad 0)), (1, .int (zI v1)), (2, .int (zI v2)), (3, .int (zI v3)), (4, .int (zI v4))]) C dX8_keepRung_46 hl (by decide) rfl (fun ls hl => ?_)
        refine y_aload_n C dX8_keepRung_48 (lv_at hl 1 rfl) ?_
        refine y_iload_n C dX8_keepRung_49 (lv_at hl 3 rfl) ?_
        refine y_iconst C dX8_keepRung_50 ?_
        obtain ⟨x51, hc51, h⟩ := bd_some h
        refine y_cv (rest := []) hw (y_rV C hw km_0 (by decide) rfl rfl (c_X8_copyHouse  hc51) mi_X8_copyHouse wd_1084 wd_1086 ws_32 rfl ⟨by decide, by decide⟩ hl rfl (Nat.le_of_ble_eq_true rfl) dX8_keepRung_51) (fun H locs hw => ?_)
        refine y_aload_n C dX8_keepRung_54 (lv_at hl 1 rfl) ?_
        refine g8 C hw km_0 2 (by decide) wd_873 rfl dX8_keepRung_55 ?_
        refine y_iconst C dX8_keepRung_58 ?_
        refine y_dup2 C dX8_keepRung_59 rfl rfl ?_
        refine y_iald C hw km_3 (i' := 2) (by decide) (by decide) dX8_keepRung_60 ?_
        refine y_iconst C dX8_keepRung_61 ?_
        refine y_iload C dX8_keepRung_62 (lv_at hl 5 rfl) ?_
        refine y_ishl C dX8_keepRung_64 ?_
        refine y_ior C dX8_keepRung_65 ?_
        obtain ⟨σ66, eσ66, h⟩ := nx_some h
        refine y_iast C hw km_3 (i' := 2) (by decide) (by decide) dX8_keepRung_66 (fun H locs hw => ?_)
        rw [← eσ66] at hw
        refine y_aload_n C dX8_keepRung_67 (lv_at hl 1 rfl) ?_
        refine y_iload_n C dX8_keepRung_68 (lv_at hl 2 rfl) ?_
        refine y_iconst C dX8_keepRung_69 ?_
        refine y_iconst C dX8_keepRung_70 ?_
        refine y_iload_n C dX8_keepRung_71 (lv_at hl 4 rfl) ?_
        obtain ⟨x72, hc72, h⟩ := bd_some h
        refine y_cv (rest := []) hw (y_rV C hw km_0 (by decide) rfl rfl (c_X8_work  hc72) mi_X8_work wd_1172 wd_1174 ws_44 rfl ⟨by decide, by decide⟩ hl rfl (Nat.le_of_ble_eq_true rfl) dX8_keepRung_72) (fun H locs hw => ?_)
        refine y_iload C dX8_keepRung_75 (lv_at hl 0 rfl) ?_
        refine y_aload_n C dX8_keepRung_77 (lv_at hl 1 rfl) ?_
        refine g8 C hw km_0 26 (by decide) wd_897 rfl dX8_keepRung_78 ?_
        refine y_iload C dX8_keepRung_81 (lv_at hl 5 rfl) ?_
        refine y_iald C hw km_16 (i' := zm v4) rfl hg45 dX8_keepRung_83 ?_
        refine y_isub C dX8_keepRung_84 ?_
        exact y_iret C hw h dX8_keepRung_85
theorem c_X8_keepRung {l : Launch} {D : va_G} {cA : Nat → ClassId} {adK adV : Nat → Nat} {A : Nat → Prop} {ad : Int → Nat} {R : va_W} {σ : St} {res : Int × St} {v1 : Int} {v2 : Int} {v3 : Int} {v4 : Int}  (h : p_X8_keepRung v1 v2 v3 v4 σ = some res) : Met l yX8_keepRung (wsU yX8_keepRung cX8_keepRung 6 (some .int)) (rmU 5 136) (va_Pc [.ref (ad 0), .int (zI v1), .int (zI v2), .int (zI v3), .int (zI v4)] (Pr D cA adK adV ad kM 31 R A σ)) (QI D cA ad kM 31 R A res) 0 0 A :=
  y_met (own := RX8) (by decide) rfl _ (Nat.le_of_ble_eq_true rfl) (fun p e s m args below meth c ls C hl hw => k_X8_keepRung_0 C  hw hl h)
/-! RungHouseModel.leave -/
set_option maxRecDepth 100000 in
set_option maxHeartbeats 4000000 in
theorem k_X8_leave_98  {v5 : Int} {os0 : Int} {vs1 : Int} (C : Cx cX8_leave RX8 6 (some .int) D cA adK adV A p s m args meth c)  {σ : St} {H : Heap} {locs : List Loc} {ls : Array Slot} (hos0 : kM os0 = (20, 310)) (hw : At D cA ad kM 31 R A s σ H locs) (hl : lv_has ls 6 [(5, .int (zI v5))]) (h : p_X8_leave_98  v5 os0 vs1 σ = some res) : W p l e (rmU 5 136) s m args below meth c H locs 0 0 (MQ below (QI D cA ad kM 31 R A res) args s 0 0 A) (F0 m 98 ls [.int (zI vs1), .ref (ad os0)]) := by
  have h := h
  unfold p_X8_leave_98 at h
  obtain ⟨hg98, h⟩ := gd_some h
  refine y_iald C hw hos0 (i' := zm vs1) rfl hg98 dX8_leave_98 ?_
  refine y_iload C dX8_leave_99 (lv_at hl 0 rfl) ?_
  refine y_icmp_ge (tgt := 108) C (a' := zm (σ os0 (zm vs1))) (b' := zm v5) rfl rfl dX8_leave_101 (by decide) (fun hc => ?_) (fun hc => ?_)
  · rw [if_pos hc] at h
    refine y_iconst C dX8_leave_108 ?_
    exact y_iret C hw h dX8_leave_109
  · rw [if_neg hc] at h
    refine y_iconst C dX8_leave_104 ?_
    refine y_goto (tgt := 109) C dX8_leave_105 (by decide) ?_
    exact y_iret C hw h dX8_leave_109
set_option maxRecDepth 100000 in
set_option maxHeartbeats 4000000 in
theorem k_X8_leave_0  {v1 : Int} {v2 : Int} {v3 : Int} {v4 : Int} (C : Cx cX8_leave RX8 6 (some .int) D cA adK adV A p s m args meth c)  {σ : St} {H : Heap} {locs : List Loc} {ls : Array Slot}  (hw : At D cA ad kM 31 R A s σ H locs) (hl : lv_has ls 6 [(0, .ref (ad 0)), (1, .int (zI v1)), (2, .int (zI v2)), (3, .int (zI v3)), (4, .int (zI v4))]) (h : p_X8_leave  v1 v2 v3 v4 σ = some res) : W p l e (rmU 5 136) s m args below meth c H locs 0 0 (MQ below (QI D cA ad kM 31 R A res) args s 0 0 A) (F0 m 0 ls []) := by
  have h := h
  unfold p_X8_leave at h
  refine y_aload_n C dX8_leave_0 (lv_at hl 0 rfl) ?_
  refine y_iload_n C dX8_leave_1 (lv_at hl 1 rfl) ?_
  obtain ⟨x2, hc2, h⟩ := bd_some h
  refine y_ci (rest := []) hw (y_rV C hw km_0 (by decide) rfl rfl (c_X8_isSort  hc2) mi_X8_isSort wd_1138 wd_1140 ws_39 rfl ⟨by decide, by decide⟩ hl rfl (Nat.le_of_ble_eq_true rfl) dX8_leave_2) (fun H locs hw => ?_)
  refine y_if_eq (tgt := 28) C (a' := zm x2.1) rfl dX8_leave_5 (by decide) (fun hc => ?_) (fun hc => ?_)
  · rw [if_pos hc] at h
    refine y_ldc C (z := (-1000000001)) wd_1037 (by decide) dX8_leave_28 ?_
    exact y_iret C hw h dX8_leave_30
  · rw [if_neg hc] at h
    refine y_aload_n C dX8_leave_8 (lv_at hl 0 rfl) ?_
    refine y_iload_n C dX8_leave_9 (lv_at hl 2 rfl) ?_
    refine y_iload C dX8_leave_10 (lv_at hl 4 rfl) ?_
    obtain ⟨x12, hc12, h⟩ := bd_some h
    refine y_ci (rest := []) hw (y_rV C hw km_0 (by decide) rfl rfl (c_X8_isRung  hc12) mi_X8_isRung wd_1104 wd_1106 ws_34 rfl ⟨by decide, by decide⟩ hl rfl (Nat.le_of_ble_eq_true rfl) dX8_leave_12) (fun H locs hw => ?_)
    refine y_if_eq (tgt := 28) C (a' := zm x12.1) rfl dX8_leave_15 (by decide) (fun hc => ?_) (fun hc => ?_)
    · rw [if_pos hc] at h
      refine y_ldc C (z := (-1000000001)) wd_1037 (by decide) dX8_leave_28 ?_
      exact y_iret C hw h dX8_leave_30
    · rw [if_neg hc] at h
      refine y_aload_n C dX8_leave_18 (lv_at hl 0 rfl) ?_
      refine y_iconst C dX8_leave_19 ?_
      refine y_iload_n C dX8_leave_20 (lv_at hl 2 rfl) ?_
      refine y_isub C dX8_leave_21 ?_
      obtain ⟨x22, hc22, h⟩ := bd_some h
      refine y_ci (rest := []) hw (y_rV C hw km_0 (by decide) rfl rfl (c_X8_isHouse  hc22) mi_X8_isHouse wd_1096 wd_1098 ws_33 rfl ⟨by decide, by decide⟩ hl rfl (Nat.le_of_ble_eq_true rfl) dX8_leave_22) (fun H locs hw => ?_)
      refine y_if_ne (tgt := 31) C (a' := zm x22.1) rfl dX8_leave_25 (by decide) (fun hc => ?_) (fun hc => ?_)
      · rw [if_pos hc] at h
        refine y_ldc C (z := (-1000000001)) wd_1037 (by decide) dX8_leave_28 ?_
        exact y_iret C hw h dX8_leave_30
      · rw [if_neg hc] at h
        refine y_iload_n C dX8_leave_31 (lv_at hl 3 rfl) ?_
        obtain ⟨x32, hc32, h⟩ := bd_some h
        refine y_ci (rest := []) hw (y_rS C hw (c_X8_isTime  hc32) mi_X8_isTime wd_1168 wd_1169 rfl ⟨by decide, by decide⟩ hl rfl (Nat.le_of_ble_eq_true rfl) dX8_leave_32) (fun H locs hw => ?_)
        refine y_if_ne (tgt := 41) C (a' := zm x32.1) rfl dX8_leave_35 (by decide) (fun hc => ?_) (fun hc => ?_)
        · rw [if_pos hc] at h
          refine y_ldc C (z := (-1000000002)) wd_1030 (by decide) dX8_leave_38 ?_
          exact y_iret C hw h dX8_leave_40
        · rw [if_neg hc] at h
          refine y_aload_n C dX8_leave_41 (lv_at hl 0 rfl) ?_
          refine y_iload_n C dX8_leave_42 (lv_at hl 1 rfl) ?_
          refine y_iload_n C dX8_leave_43 (lv_at hl 2 rfl) ?_
          refine y_iconst C dX8_leave_44 ?_
          refine y_iload_n C dX8_leave_45 (lv_at hl 3 rfl) ?_
          obtain ⟨x46, hc46, h⟩ := bd_some h
          refine y_cv (rest := []) hw (y_rV C hw km_0 (by decide) rfl rfl (c_X8_work  hc46) mi_X8_work wd_1172 wd_1174 ws_44 rfl ⟨by decide, by decide⟩ hl rfl (Nat.le_of_ble_eq_true rfl) dX8_leave_46) (fun H locs hw => ?_)
          refine y_aload_n C dX8_leave_49 (lv_at hl 0 rfl) ?_
          refine g8 C hw km_0 26 (by decide) wd_897 rfl dX8_leave_50 ?_
          refine y_iload C dX8_leave_53 (lv_at hl 4 rfl) ?_
          obtain ⟨hg55, h⟩ := gd_some h
          refine y_iald C hw km_16 (i' := zm v4) rfl hg55 dX8_leave_55 ?_
          refine y_istore (lv' := [(5, .int (zI (x46.2 16 (zm v4)))), (0, .ref (ad 0)), (1, .int (zI v1)), (2, .int (zI v2)), (3, .int (zI v3)), (4, .int (zI v4))]) C dX8_leave_56 hl (by decide) rfl (fun ls hl => ?_)
          refine y_aload_n C dX8_leave_58 (lv_at hl 1 rfl) ?_
          refine y_iload_n C dX8_leave_59 (lv_at hl 2 rfl) ?_
          refine y_iconst C dX8_leave_60 ?_
          refine y_iload_n C dX8_leave_61 (lv_at hl 3 rfl) ?_
          refine y_isub C dX8_leave_62 ?_
          refine y_iconst C dX8_leave_63 ?_
          refine y_iload_n C dX8_leave_64 (lv_at hl 4 rfl) ?_
          obtain ⟨x65, hc65, h⟩ := bd_some h
          refine y_cv (rest := []) hw (y_rV C hw km_0 (by decide) rfl rfl (c_X8_work  hc65) mi_X8_work wd_1172 wd_1174 ws_44 rfl ⟨by decide, by decide⟩ hl rfl (Nat.le_of_ble_eq_true rfl) dX8_leave_65) (fun H locs hw => ?_)
          refine y_aload_n C dX8_leave_68 (lv_at hl 1 rfl) ?_
          refine g8 C hw km_0 26 (by decide) wd_897 rfl dX8_leave_69 ?_
          refine y_iload C dX8_leave_72 (lv_at hl 5 rfl) ?_
          refine y_aload_n C dX8_leave_74 (lv_at hl 1 rfl) ?_
          refine g8 C hw km_0 6 (by decide) wd_877 rfl dX8_leave_75 ?_
          refine y_iconst C dX8_leave_78 ?_
          refine y_iload_n C dX8_leave_79 (lv_at hl 3 rfl) ?_
          refine y_isub C dX8_leave_80 ?_
          obtain ⟨hg81, h⟩ := gd_some h
          refine y_iald C hw km_7 (i' := zm (1 - v2)) rfl hg81 dX8_leave_81 ?_
          refine y_icmp_ge (tgt := 90) C (a' := zm v4) (b' := zm (x65.2 7 (zm (1 - v2)))) rfl rfl dX8_leave_82 (by decide) (fun hc => ?_) (fun hc => ?_)
          · rw [if_pos hc] at h
            refine y_aload_n C dX8_leave_90 (lv_at hl 1 rfl) ?_
            refine g8 C hw km_0 6 (by decide) wd_877 rfl dX8_leave_91 ?_
            refine y_iconst C dX8_leave_94 ?_
            refine y_iload_n C dX8_leave_95 (lv_at hl 3 rfl) ?_
            refine y_isub C dX8_leave_96 ?_
            refine y_iald C hw km_7 (i' := zm (1 - v2)) rfl hg81 dX8_leave_97 ?_
            exact k_X8_leave_98 C  km_16 hw (lv_sub hl [0] rfl) h
          · rw [if_neg hc] at h
            refine y_iload C dX8_leave_85 (lv_at hl 5 rfl) ?_
            refine y_goto (tgt := 98) C dX8_leave_87 (by decide) ?_
            exact k_X8_leave_98 C  km_16 hw (lv_sub hl [0] rfl) h
theorem c_X8_leave {l : Launch} {D : va_G} {cA : Nat → ClassId} {adK adV : Nat → Nat} {A : Nat → Prop} {ad : Int → Nat} {R : va_W} {σ : St} {res : Int × St} {v1 : Int} {v2 : Int} {v3 : Int} {v4 : Int}  (h : p_X8_leave v1 v2 v3 v4 σ = some res) : Met l yX8_leave (wsU yX8_leave cX8_leave 6 (some .int)) (rmU 5 136) (va_Pc [.ref (ad 0), .int (zI v1), .int (zI v2), .int (zI v3), .int (zI v4)] (Pr D cA adK adV ad kM 31 R A σ)) (QI D cA ad kM 31 R A res) 0 0 A :=
  y_met (own := RX8) (by decide) rfl _ (Nat.le_of_ble_eq_true rfl) (fun p e s m args below meth c ls C hl hw => k_X8_leave_0 C  hw hl h)
/-! RungHouseModel.pad -/
set_option maxRecDepth 100000 in
set_option maxHeartbeats 4000000 in
theorem k_X8_pad_0  {v1 : Int} {v2 : Int} {v3 : Int} {v4 : Int} {v5 : Int} {v6 : Int} {v7 : Int} {v8 : Int} {v9 : Int} (C : Cx cX8_pad RX8 14 (some .int) D cA adK adV A p s m args meth c)  {σ : St} {H : Heap} {locs : List Loc} {ls : Array Slot}  (hw : At D cA ad kM 31 R A s σ H locs) (hl : lv_has ls 14 [(0, .ref (ad 0)), (1, .int (zI v1)), (2, .int (zI v2)), (3, .int (zI v3)), (4, .int (zI v4)), (5, .int (zI v5)), (6, .int (zI v6)), (7, .int (zI v7)), (8, .int (zI v8)), (9, .int (zI v9))]) (h : p_X8_pad  v1 v2 v3 v4 v5 v6 v7 v8 v9 σ = some res) : W p l e (rmU 5 136) s m args below meth c H locs 0 0 (MQ below (QI D cA ad kM 31 R A res) args s 0 0 A) (F0 m 0 ls []) := by
  have h := h
  unfold p_X8_pad at h
  refine y_aload_n C dX8_pad_0 (lv_at hl 0 rfl) ?_
  refine y_iload_n C dX8_pad_1 (lv_at hl 1 rfl) ?_
  obtain ⟨x2, hc2, h⟩ := bd_some h
  refine y_ci (rest := []) hw (y_rV C hw km_0 (by decide) rfl rfl (c_X8_isSort  hc2) mi_X8_isSort wd_1138 wd_1140 ws_39 rfl ⟨by decide, by decide⟩ hl rfl (Nat.le_of_ble_eq_true rfl) dX8_pad_2) (fun H locs hw => ?_)
  refine y_if_eq (tgt := 18) C (a' := zm x2.1) rfl dX8_pad_5 (by decide) (fun hc => ?_) (fun hc => ?_)
  · rw [if_pos hc] at h
    refine y_ldc C (z := (-1000000001)) wd_1037 (by decide) dX8_pad_18 ?_
    exact y_iret C hw h dX8_pad_20
  · rw [if_neg hc] at h
    refine y_aload_n C dX8_pad_8 (lv_at hl 0 rfl) ?_
    refine y_iload_n C dX8_pad_9 (lv_at hl 2 rfl) ?_
    refine y_iload C dX8_pad_10 (lv_at hl 4 rfl) ?_
    obtain ⟨x12, hc12, h⟩ := bd_some h
    refine y_ci (rest := []) hw (y_rV C hw km_0 (by decide) rfl rfl (c_X8_isRung  hc12) mi_X8_isRung wd_1104 wd_1106 ws_34 rfl ⟨by decide, by decide⟩ hl rfl (Nat.le_of_ble_eq_true rfl) dX8_pad_12) (fun H locs hw => ?_)
    refine y_if_ne (tgt := 21) C (a' := zm x12.1) rfl dX8_pad_15 (by decide) (fun hc => ?_) (fun hc => ?_)
    · rw [if_pos hc] at h
      refine y_ldc C (z := (-1000000001)) wd_1037 (by decide) dX8_pad_18 ?_
      exact y_iret C hw h dX8_pad_20
    · rw [if_neg hc] at h
      refine y_iload_n C dX8_pad_21 (lv_at hl 3 rfl) ?_
      obtain ⟨x22, hc22, h⟩ := bd_some h
      refine y_ci (rest := []) hw (y_rS C hw (c_X8_isTime  hc22) mi_X8_isTime wd_1168 wd_1169 rfl ⟨by decide, by decide⟩ hl rfl (Nat.le_of_ble_eq_true rfl) dX8_pad_22) (fun H locs hw => ?_)
      refine y_if_eq (tgt := 93) C (a' := zm x22.1) rfl dX8_pad_25 (by decide) (fun hc => ?_) (fun hc => ?_)
      · rw [if_pos hc] at h
        refine y_ldc C (z := (-1000000002)) wd_1030 (by decide) dX8_pad_93 ?_
        exact y_iret C hw h dX8_pad_95
      · rw [if_neg hc] at h
        refine y_iload C dX8_pad_28 (lv_at hl 5 rfl) ?_
        refine y_i2l C rfl dX8_pad_30 ?_
        refine y_lconst C (z' := 0) dX8_pad_31 (by decide) ?_
        refine y_ldc2 C (z := 11) wd_1237 (by decide) dX8_pad_32 ?_
        obtain ⟨x35, hc35, h⟩ := bd_some h
        refine y_ci (rest := []) hw (y_rS C hw (c_X8_within  hc35) mi_X8_within wd_1027 wd_1028 rfl ⟨by decide, by decide⟩ hl rfl (Nat.le_of_ble_eq_true rfl) dX8_pad_35) (fun H locs hw => ?_)
        refine y_if_eq (tgt := 93) C (a' := zm x35.1) rfl dX8_pad_38 (by decide) (fun hc => ?_) (fun hc => ?_)
        · rw [if_pos hc] at h
          refine y_ldc C (z := (-1000000002)) wd_1030 (by decide) dX8_pad_93 ?_
          exact y_iret C hw h dX8_pad_95
        · rw [if_neg hc] at h
          refine y_iload C dX8_pad_41 (lv_at hl 6 rfl) ?_
          refine y_i2l C rfl dX8_pad_43 ?_
          refine y_lconst C (z' := 0) dX8_pad_44 (by decide) ?_
          refine y_ldc2 C (z := 3) wd_1112 (by decide) dX8_pad_45 ?_
          obtain ⟨x48, hc48, h⟩ := bd_some h
          refine y_ci (rest := []) hw (y_rS C hw (c_X8_within  hc48) mi_X8_within wd_1027 wd_1028 rfl ⟨by decide, by decide⟩ hl rfl (Nat.le_of_ble_eq_true rfl) dX8_pad_48) (fun H locs hw => ?_)
          refine y_if_eq (tgt := 93) C (a' := zm x48.1) rfl dX8_pad_51 (by decide) (fun hc => ?_) (fun hc => ?_)
          · rw [if_pos hc] at h
            refine y_ldc C (z := (-1000000002)) wd_1030 (by decide) dX8_pad_93 ?_
            exact y_iret C hw h dX8_pad_95
          · rw [if_neg hc] at h
            refine y_iload C dX8_pad_54 (lv_at hl 7 rfl) ?_
            refine y_i2l C rfl dX8_pad_56 ?_
            refine y_lconst C (z' := 1) dX8_pad_57 (by decide) ?_
            refine y_ldc2 C (z := 999) wd_1250 (by decide) dX8_pad_58 ?_
            obtain ⟨x61, hc61, h⟩ := bd_some h
            refine y_ci (rest := []) hw (y_rS C hw (c_X8_within  hc61) mi_X8_within wd_1027 wd_1028 rfl ⟨by decide, by decide⟩ hl rfl (Nat.le_of_ble_eq_true rfl) dX8_pad_61) (fun H locs hw => ?_)
            refine y_if_eq (tgt := 93) C (a' := zm x61.1) rfl dX8_pad_64 (by decide) (fun hc => ?_) (fun hc => ?_)
            · rw [if_pos hc] at h
              refine y_ldc C (z := (-1000000002)) wd_1030 (by decide) dX8_pad_93 ?_
              exact y_iret C hw h dX8_pad_95
            · rw [if_neg hc] at h
              refine y_iload C dX8_pad_67 (lv_at hl 8 rfl) ?_
              refine y_i2l C rfl dX8_pad_69 ?_
              refine y_lconst C (z' := 0) dX8_pad_70 (by decide) ?_
              refine y_ldc2 C (z := 999) wd_1250 (by decide) dX8_pad_71 ?_
              obtain ⟨x74, hc74, h⟩ := bd_some h
              refine y_ci (rest := []) hw (y_rS C hw (c_X8_within  hc74) mi_X8_within wd_1027 wd_1028 rfl ⟨by decide, by decide⟩ hl rfl (Nat.le_of_ble_eq_true rfl) dX8_pad_74) (fun H locs hw => ?_)
              refine y_if_eq (tgt := 93) C (a' := zm x74.1) rfl dX8_pad_77 (by decide) (fun hc => ?_) (fun hc => ?_)
              · rw [if_pos hc] at h
                refine y_ldc C (z := (-1000000002)) wd_1030 (by decide) dX8_pad_93 ?_
                exact y_iret C hw h dX8_pad_95
              · rw [if_neg hc] at h
                refine y_iload C dX8_pad_80 (lv_at hl 9 rfl) ?_
                refine y_i2l C rfl dX8_pad_82 ?_
                refine y_lconst C (z' := 0) dX8_pad_83 (by decide) ?_
                refine y_ldc2 C (z := 100) wd_1304 (by decide) dX8_pad_84 ?_
                obtain ⟨x87, hc87, h⟩ := bd_some h
                refine y_ci (rest := []) hw (y_rS C hw (c_X8_within  hc87) mi_X8_within wd_1027 wd_1028 rfl ⟨by decide, by decide⟩ hl rfl (Nat.le_of_ble_eq_true rfl) dX8_pad_87) (fun H locs hw => ?_)
                refine y_if_ne (tgt := 96) C (a' := zm x87.1) rfl dX8_pad_90 (by decide) (fun hc => ?_) (fun hc => ?_)
                · rw [if_pos hc] at h
                  refine y_ldc C (z := (-1000000002)) wd_1030 (by decide) dX8_pad_93 ?_
                  exact y_iret C hw h dX8_pad_95
                · rw [if_neg hc] at h
                  refine y_aload_n C dX8_pad_96 (lv_at hl 0 rfl) ?_
                  refine y_iload_n C dX8_pad_97 (lv_at hl 1 rfl) ?_
                  refine y_iload_n C dX8_pad_98 (lv_at hl 2 rfl) ?_
                  refine y_iconst C dX8_pad_99 ?_
                  refine y_iload_n C dX8_pad_100 (lv_at hl 3 rfl) ?_
                  obtain ⟨x101, hc101, h⟩ := bd_some h
                  refine y_cv (rest := []) hw (y_rV C hw km_0 (by decide) rfl rfl (c_X8_work  hc101) mi_X8_work wd_1172 wd_1174 ws_44 rfl ⟨by decide, by decide⟩ hl rfl (Nat.le_of_ble_eq_true rfl) dX8_pad_101) (fun H locs hw => ?_)
                  refine y_ldc2 C (z := 1000) wd_1183 (by decide) dX8_pad_104 ?_
                  refine y_aload_n C dX8_pad_107 (lv_at hl 0 rfl) ?_
                  refine y_iload C dX8_pad_108 (lv_at hl 7 rfl) ?_
                  obtain ⟨x110, hc110, h⟩ := bd_some h
                  refine y_ci (rest := [.long (zJ 1000)]) hw (y_rV C hw km_0 (by decide) rfl rfl (c_X8_bears  hc110) mi_X8_bears wd_1192 wd_1194 ws_48 rfl ⟨by decide, by decide⟩ hl rfl (Nat.le_of_ble_eq_true rfl) dX8_pad_110) (fun H locs hw => ?_)
                  refine y_i2l C rfl dX8_pad_113 ?_
                  refine y_lmul C dX8_pad_114 ?_
                  refine y_aload_n C dX8_pad_115 (lv_at hl 0 rfl) ?_
                  refine g8 C hw km_0 27 (by decide) wd_898 rfl dX8_pad_116 ?_
                  refine y_iconst C dX8_pad_119 ?_
                  refine y_iconst C dX8_pad_120 ?_
                  refine y_iload C dX8_pad_121 (lv_at hl 4 rfl) ?_
                  refine y_iload C dX8_pad_123 (lv_at hl 5 rfl) ?_
                  refine y_iconst C dX8_pad_125 ?_
                  refine y_iadd C dX8_pad_126 ?_
                  refine y_aload_n C dX8_pad_127 (lv_at hl 0 rfl) ?_
                  refine y_iload C dX8_pad_128 (lv_at hl 6 rfl) ?_
                  obtain ⟨x130, hc130, h⟩ := bd_some h
                  refine y_ci (rest := [.int (zI (v5 + 1)), .int (zI v4), .int (zI 0), .int (zI 0), .ref (ad 17), .long (zJ (1000 * (zm x110.1)))]) hw (y_rV C hw km_0 (by decide) rfl rfl (c_X8_more  hc130) mi_X8_more wd_1196 wd_1198 ws_49 rfl ⟨by decide, by decide⟩ hl rfl (Nat.le_of_ble_eq_true rfl) dX8_pad_130) (fun H locs hw => ?_)
                  obtain ⟨x133, hc133, h⟩ := bd_some h
                  refine y_ci (rest := [.ref (ad 17), .long (zJ (1000 * (zm x110.1)))]) hw (y_rS C hw (c_X8_place  hc133) mi_X8_place wd_1180 wd_1181 rfl ⟨by decide, by decide⟩ hl rfl (Nat.le_of_ble_eq_true rfl) dX8_pad_133) (fun H locs hw => ?_)
                  obtain ⟨hg136, h⟩ := gd_some h
                  refine y_iald C hw km_17 (i' := zm x133.1) rfl hg136 dX8_pad_136 ?_
                  refine y_i2l C rfl dX8_pad_137 ?_
                  refine y_ladd C dX8_pad_138 ?_
                  obtain ⟨z139, ez139, h⟩ := nz_some h
                  rw [← ez139]
                  refine y_lstore (lv' := [(10, .long (zJ z139)), (0, .ref (ad 0)), (1, .int (zI v1)), (2, .int (zI v2)), (3, .int (zI v3)), (4, .int (zI v4)), (5, .int (zI v5)), (6, .int (zI v6)), (7, .int (zI v7)), (8, .int (zI v8)), (9, .int (zI v9))]) C dX8_pad_139 hl (by decide) rfl (fun ls hl => ?_)
                  refine y_ldc2 C (z := 1000) wd_1183 (by decide) dX8_pad_141 ?_
                  refine y_iload C dX8_pad_144 (lv_at hl 8 rfl) ?_
                  refine y_i2l C rfl dX8_pad_146 ?_
                  refine y_lmul C dX8_pad_147 ?_
                  refine y_aload_n C dX8_pad_148 (lv_at hl 1 rfl) ?_
                  refine g8 C hw km_0 27 (by decide) wd_898 rfl dX8_pad_149 ?_
                  refine y_iconst C dX8_pad_152 ?_
                  refine y_iconst C dX8_pad_153 ?_
                  refine y_iload C dX8_pad_154 (lv_at hl 5 rfl) ?_
                  refine y_iload C dX8_pad_156 (lv_at hl 6 rfl) ?_
                  refine y_iconst C dX8_pad_158 ?_
                  refine y_iadd C dX8_pad_159 ?_
                  refine y_iconst C dX8_pad_160 ?_
                  obtain ⟨x161, hc161, h⟩ := bd_some h
                  refine y_ci (rest := [.ref (ad 17), .long (zJ (1000 * (zm v7)))]) hw (y_rS C hw (c_X8_place  hc161) mi_X8_place wd_1180 wd_1181 rfl ⟨by decide, by decide⟩ hl rfl (Nat.le_of_ble_eq_true rfl) dX8_pad_161) (fun H locs hw => ?_)
                  obtain ⟨hg164, h⟩ := gd_some h
                  refine y_iald C hw km_17 (i' := zm x161.1) rfl hg164 dX8_pad_164 ?_
                  refine y_i2l C rfl dX8_pad_165 ?_
                  refine y_ladd C dX8_pad_166 ?_
                  obtain ⟨z167, ez167, h⟩ := nz_some h
                  rw [← ez167]
                  refine y_lstore (lv' := [(12, .long (zJ z167)), (10, .long (zJ z139)), (0, .ref (ad 0)), (1, .int (zI v1)), (2, .int (zI v2)), (3, .int (zI v3)), (4, .int (zI v4)), (5, .int (zI v5)), (6, .int (zI v6)), (7, .int (zI v7)), (8, .int (zI v8)), (9, .int (zI v9))]) C dX8_pad_167 hl (by decide) rfl (fun ls hl => ?_)
                  refine y_ldc2 C (z := 100) wd_1304 (by decide) dX8_pad_169 ?_
                  refine y_iload C dX8_pad_172 (lv_at hl 11 rfl) ?_
                  refine y_i2l C rfl dX8_pad_174 ?_
                  refine y_lsub C dX8_pad_175 ?_
                  refine y_ldc2 C (z := 1000) wd_1183 (by decide) dX8_pad_176 ?_
                  refine y_iload C dX8_pad_179 (lv_at hl 10 rfl) ?_
                  refine y_i2l C rfl dX8_pad_181 ?_
                  refine y_lmul C dX8_pad_182 ?_
                  refine y_lmul C dX8_pad_183 ?_
                  refine y_iload C dX8_pad_184 (lv_at hl 11 rfl) ?_
                  refine y_i2l C rfl dX8_pad_186 ?_
                  refine y_lload C dX8_pad_187 (lv_at hl 0 rfl) ?_
                  refine y_lload C dX8_pad_189 (lv_at hl 1 rfl) ?_
                  refine y_lsub C dX8_pad_191 ?_
                  refine y_lmul C dX8_pad_192 ?_
                  refine y_lsub C dX8_pad_193 ?_
                  refine y_ldc2 C (z := 100) wd_1304 (by decide) dX8_pad_194 ?_
                  refine y_ldiv C (b' := 100) (by decide) (by decide) dX8_pad_197 ?_
                  refine y_l2i C dX8_pad_198 ?_
                  exact y_iret C hw h dX8_pad_199
theorem c_X8_pad {l : Launch} {D : va_G} {cA : Nat → ClassId} {adK adV : Nat → Nat} {A : Nat → Prop} {ad : Int → Nat} {R : va_W} {σ : St} {res : Int × St} {v1 : Int} {v2 : Int} {v3 : Int} {v4 : Int} {v5 : Int} {v6 : Int} {v7 : Int} {v8 : Int} {v9 : Int}  (h : p_X8_pad v1 v2 v3 v4 v5 v6 v7 v8 v9 σ = some res) : Met l yX8_pad (wsU yX8_pad cX8_pad 14 (some .int)) (rmU 5 136) (va_Pc [.ref (ad 0), .int (zI v1), .int (zI v2), .int (zI v3), .int (zI v4), .int (zI v5), .int (zI v6), .int (zI v7), .int (zI v8), .int (zI v9)] (Pr D cA adK adV ad kM 31 R A σ)) (QI D cA ad kM 31 R A res) 0 0 A :=
  y_met (own := RX8) (by decide) rfl _ (Nat.le_of_ble_eq_true rfl) (fun p e s m args below meth c ls C hl hw => k_X8_pad_0 C  hw hl h)
/-! RungHouseModel.isEven -/
set_option maxRecDepth 100000 in
set_option maxHeartbeats 4000000 in
theorem k_X8_isEven_0  {v1 : Int} {v2 : Int} {v3 : Int} (C : Cx cX8_isEven RX8 4 (some .boolean) D cA adK adV A p s m args meth c)  {σ : St} {H : Heap} {locs : List Loc} {ls : Array Slot}  (hw : At D cA ad kM 31 R A s σ H locs) (hl : lv_has ls 4 [(0, .ref (ad 0)), (1, .int (zI v1)), (2, .int (zI v2)), (3, .int (zI v3))]) (h : p_X8_isEven  v1 v2 v3 σ = some res) : W p l e (rmU 6 163) s m args below meth c H locs 0 0 (MQ below (QI D cA ad kM 31 R A res) args s 0 0 A) (F0 m 0 ls []) := by
  have h := h
  unfold p_X8_isEven at h
  refine y_aload_n C dX8_isEven_0 (lv_at hl 0 rfl) ?_
  refine y_iload_n C dX8_isEven_1 (lv_at hl 1 rfl) ?_
  refine y_iconst C dX8_isEven_2 ?_
  refine y_iconst C dX8_isEven_3 ?_
  refine y_iload_n C dX8_isEven_4 (lv_at hl 2 rfl) ?_
  obtain ⟨x5, hc5, h⟩ := bd_some h
  refine y_cv (rest := []) hw (y_rV C hw km_0 (by decide) rfl rfl (c_X8_work  hc5) mi_X8_work wd_1172 wd_1174 ws_44 rfl ⟨by decide, by decide⟩ hl rfl (Nat.le_of_ble_eq_true rfl) dX8_isEven_5) (fun H locs hw => ?_)
  refine y_aload_n C dX8_isEven_8 (lv_at hl 0 rfl) ?_
  refine y_bipush C dX8_isEven_9 (by decide) ?_
  refine y_iconst C dX8_isEven_11 ?_
  obtain ⟨x12, hc12, h⟩ := bd_some h
  refine y_ci (rest := []) hw (y_rV C hw km_0 (by decide) rfl rfl (c_X8_evenAt  hc12) mi_X8_evenAt wd_1282 wd_1284 ws_60 rfl ⟨by decide, by decide⟩ hl rfl (Nat.le_of_ble_eq_true rfl) dX8_isEven_12) (fun H locs hw => ?_)
  refine y_iload_n C dX8_isEven_15 (lv_at hl 3 rfl) ?_
  refine y_icmp_lt (tgt := 23) C (a' := zm x12.1) (b' := zm v3) rfl rfl dX8_isEven_16 (by decide) (fun hc => ?_) (fun hc => ?_)
  · rw [if_pos hc] at h
    refine y_iconst C dX8_isEven_23 ?_
    exact y_zret C hw (by decide) h dX8_isEven_24
  · rw [if_neg hc] at h
    refine y_iconst C dX8_isEven_19 ?_
    refine y_goto (tgt := 24) C dX8_isEven_20 (by decide) ?_
    exact y_zret C hw (by decide) h dX8_isEven_24
theorem c_X8_isEven {l : Launch} {D : va_G} {cA : Nat → ClassId} {adK adV : Nat → Nat} {A : Nat → Prop} {ad : Int → Nat} {R : va_W} {σ : St} {res : Int × St} {v1 : Int} {v2 : Int} {v3 : Int}  (h : p_X8_isEven v1 v2 v3 σ = some res) : Met l yX8_isEven (wsU yX8_isEven cX8_isEven 4 (some .boolean)) (rmU 6 163) (va_Pc [.ref (ad 0), .int (zI v1), .int (zI v2), .int (zI v3)] (Pr D cA adK adV ad kM 31 R A σ)) (QI D cA ad kM 31 R A res) 0 0 A :=
  y_met (own := RX8) (by decide) rfl _ (Nat.le_of_ble_eq_true rfl) (fun p e s m args below meth c ls C hl hw => k_X8_isEven_0 C  hw hl h)
/-! RungHouseModel.pained -/
set_option maxRecDepth 100000 in
set_option maxHeartbeats 4000000 in
theorem k_X8_pained_29 {K4 : Int → Int → Int → St → Option (Int × St)} {v1 : Int} {v3 : Int} {vs0 : Int} {vs1 : Int} (C : Cx cX8_pained RX8 4 (some .int) D cA adK adV A p s m args meth c) (hK4 : ∀ (v1 : Int) (v2 : Int) (v3 : Int) (σ : St) (H : Heap) (locs : List Loc) (ls : Array Slot) , At D cA ad kM 31 R A s σ H locs → lv_has ls 4 [(0, .ref (ad 0)), (1, .int (zI v1)), (2, .int (zI v2)), (3, .int (zI v3))] → K4 v1 v2 v3 σ = some res → W p l e (rmU 3 68) s m args below meth c H locs 0 0 (MQ below (QI D cA ad kM 31 R A res) args s 0 0 A) (F0 m 4 ls [])) {σ : St} {H : Heap} {locs : List Loc} {ls : Array Slot}  (hw : At D cA ad kM 31 R A s σ H locs) (hl : lv_has ls 4 [(0, .ref (ad 0)), (1, .int (zI v1)), (3, .int (zI v3))]) (h : p_X8_pained_29 K4 v1 v3 vs0 vs1 σ = some res) : W p l e (rmU 3 68) s m args below meth c H locs 0 0 (MQ below (QI D cA ad kM 31 R A res) args s 0 0 A) (F0 m 29 ls [.int (zI vs1), .int (zI vs0)]) := by
  have h := h
  unfold p_X8_pained_29 at h
  refine y_iadd C dX8_pained_29 ?_
  refine y_istore_n (lv' := [(2, .int (zI (vs0 + vs1))), (0, .ref (ad 0)), (1, .int (zI v1)), (3, .int (zI v3))]) C dX8_pained_30 hl (by decide) rfl (fun ls hl => ?_)
  refine y_iinc (lv' := [(3, .int (zI (v3 + 1))), (2, .int (zI (vs0 + vs1))), (0, .ref (ad 0)), (1, .int (zI v1))]) C dX8_pained_31 hl (k := 3) rfl (by decide) rfl (fun ls hl => ?_)
  refine y_goto (tgt := 4) C dX8_pained_34 (by decide) ?_
  exact hK4 _ _ _ _ _ _ _  hw (lv_sub hl [2, 3, 1, 0] rfl) h
set_option maxRecDepth 100000 in
set_option maxHeartbeats 4000000 in
theorem k_X8_pained_4b {K4 : Int → Int → Int → St → Option (Int × St)} {v1 : Int} {v2 : Int} {v3 : Int} (C : Cx cX8_pained RX8 4 (some .int) D cA adK adV A p s m args meth c)  (hK4 : ∀ (v1 : Int) (v2 : Int) (v3 : Int) (σ : St) (H : Heap) (locs : List Loc) (ls : Array Slot) , At D cA ad kM 31 R A s σ H locs → lv_has ls 4 [(0, .ref (ad 0)), (1, .int (zI v1)), (2, .int (zI v2)), (3, .int (zI v3))] → K4 v1 v2 v3 σ = some res → W p l e (rmU 3 68) s m args below meth c H locs 0 0 (MQ below (QI D cA ad kM 31 R A res) args s 0 0 A) (F0 m 4 ls [])) {σ : St} {H : Heap} {locs : List Loc} {ls : Array Slot}  (hw : At D cA ad kM 31 R A s σ H locs) (hl : lv_has ls 4 [(0, .ref (ad 0)), (1, .int (zI v1)), (2, .int (zI v2)), (3, .int (zI v3))]) (h : p_X8_pained_4b K4 v1 v2 v3 σ = some res) : W p l e (rmU 3 68) s m args below meth c H locs 0 0 (MQ below (QI D cA ad kM 31 R A res) args s 0 0 A) (F0 m 4 ls []) := by
  have h := h
  unfold p_X8_pained_4b at h
  refine y_iload_n C dX8_pained_4 (lv_at hl 3 rfl) ?_
  refine y_aload_n C dX8_pained_5 (lv_at hl 0 rfl) ?_
  refine g8 C hw km_0 0 (by decide) wd_871 rfl dX8_pained_6 ?_
  refine y_iconst C dX8_pained_9 ?_
  refine y_iald C hw km_1 (i' := 2) (by decide) (by decide) dX8_pained_10 ?_
  refine y_icmp_ge (tgt := 37) C (a' := zm v3) (b' := zm (σ 1 2)) rfl rfl dX8_pained_11 (by decide) (fun hc => ?_) (fun hc => ?_)
  · rw [if_pos hc] at h
    refine y_iload_n C dX8_pained_37 (lv_at hl 1 rfl) ?_
    refine y_if_ge (tgt := 45) C (a' := zm v1) rfl dX8_pained_38 (by decide) (fun hc => ?_) (fun hc => ?_)
    · rw [if_pos hc] at h
      refine y_iload_n C dX8_pained_45 (lv_at hl 2 rfl) ?_
      exact y_iret C hw h dX8_pained_46
    · rw [if_neg hc] at h
      refine y_iconst C dX8_pained_41 ?_
      refine y_goto (tgt := 46) C dX8_pained_42 (by decide) ?_
      exact y_iret C hw h dX8_pained_46
  · rw [if_neg hc] at h
    refine y_iload_n C dX8_pained_14 (lv_at hl 2 rfl) ?_
    refine y_aload_n C dX8_pained_15 (lv_at hl 0 rfl) ?_
    refine y_iconst C dX8_pained_16 ?_
    refine y_iload_n C dX8_pained_17 (lv_at hl 3 rfl) ?_
    obtain ⟨x18, hc18, h⟩ := bd_some h
    refine y_ci (rest := [.int (zI v2)]) hw (y_rV C hw km_0 (by decide) rfl rfl (c_X8_isPained  hc18) mi_X8_isPained wd_1204 wd_1206 ws_51 rfl ⟨by decide, by decide⟩ hl rfl (Nat.le_of_ble_eq_true rfl) dX8_pained_18) (fun H locs hw => ?_)
    refine y_if_eq (tgt := 28) C (a' := zm x18.1) rfl dX8_pained_21 (by decide) (fun hc => ?_) (fun hc => ?_)
    · rw [if_pos hc] at h
      refine y_iconst C dX8_pained_28 ?_
      exact k_X8_pained_29 C hK4  hw (lv_sub hl [0, 1, 3] rfl) h
    · rw [if_neg hc] at h
      refine y_iconst C dX8_pained_24 ?_
      refine y_goto (tgt := 29) C dX8_pained_25 (by decide) ?_
      exact k_X8_pained_29 C hK4  hw (lv_sub hl [0, 1, 3] rfl) h
set_option maxRecDepth 100000 in
theorem k_X8_pained_4  (C : Cx cX8_pained RX8 4 (some .int) D cA adK adV A p s m args meth c)  : ∀ (n : Nat) (v1 : Int) (v2 : Int) (v3 : Int) (σ : St) (H : Heap) (locs : List Loc) (ls : Array Slot) , At D cA ad kM 31 R A s σ H locs → lv_has ls 4 [(0, .ref (ad 0)), (1, .int (zI v1)), (2, .int (zI v2)), (3, .int (zI v3))] → p_X8_pained_4  n v1 v2 v3 σ = some res → W p l e (rmU 3 68) s m args below meth c H locs 0 0 (MQ below (QI D cA ad kM 31 R A res) args s 0 0 A) (F0 m 4 ls []) := by
  intro n
  induction n with
  | zero =>
    intro v1 v2 v3 σ H locs ls  hw hl h
    have h : none = some res := h
    cases h
  | succ n ih =>
    intro v1 v2 v3 σ H locs ls  hw hl h
    exact k_X8_pained_4b C  ih  hw hl h
set_option maxRecDepth 100000 in
set_option maxHeartbeats 4000000 in
theorem k_X8_pained_0  {v1 : Int} (C : Cx cX8_pained RX8 4 (some .int) D cA adK adV A p s m args meth c)  {σ : St} {H : Heap} {locs : List Loc} {ls : Array Slot}  (hw : At D cA ad kM 31 R A s σ H locs) (hl : lv_has ls 4 [(0, .ref (ad 0)), (1, .int (zI v1))]) (h : p_X8_pained  v1 σ = some res) : W p l e (rmU 3 68) s m args below meth c H locs 0 0 (MQ below (QI D cA ad kM 31 R A res) args s 0 0 A) (F0 m 0 ls []) := by
  have h := h
  unfold p_X8_pained at h
  refine y_iconst C dX8_pained_0 ?_
  refine y_istore_n (lv' := [(2, .int (zI 0)), (0, .ref (ad 0)), (1, .int (zI v1))]) C dX8_pained_1 hl (by decide) rfl (fun ls hl => ?_)
  refine y_iconst C dX8_pained_2 ?_
  refine y_istore_n (lv' := [(3, .int (zI 0)), (2, .int (zI 0)), (0, .ref (ad 0)), (1, .int (zI v1))]) C dX8_pained_3 hl (by decide) rfl (fun ls hl => ?_)
  exact k_X8_pained_4 C  FU _ _ _ _ _ _ _  hw (lv_sub hl [2, 3, 1, 0] rfl) h
theorem c_X8_pained {l : Launch} {D : va_G} {cA : Nat → ClassId} {adK adV : Nat → Nat} {A : Nat → Prop} {ad : Int → Nat} {R : va_W} {σ : St} {res : Int × St} {v1 : Int}  (h : p_X8_pained v1 σ = some res) : Met l yX8_pained (wsU yX8_pained cX8_pained 4 (some .int)) (rmU 3 68) (va_Pc [.ref (ad 0), .int (zI v1)] (Pr D cA adK adV ad kM 31 R A σ)) (QI D cA ad kM 31 R A res) 0 0 A :=
  y_met (own := RX8) (by decide) rfl _ (Nat.le_of_ble_eq_true rfl) (fun p e s m args below meth c ls C hl hw => k_X8_pained_0 C  hw hl h)
/-! RungHouseModel.setting -/
set_option maxRecDepth 100000 in
set_option maxHeartbeats 4000000 in
theorem k_X8_setting_199 {K55 : Int → Int → Int → Int → Int → St → Option (Int × St)} {v2 : Int} {v3 : Int} {v4 : Int} {v5 : Int} {v6 : Int} (C : Cx cX8_setting RX8 10 (some .int) D cA adK adV A p s m args meth c) (hK55 : ∀ (v2 : Int) (v3 : Int) (v4 : Int) (v5 : Int) (v6 : Int) (σ : St) (H : Heap) (locs : List Loc) (ls : Array Slot) , At D cA ad kM 31 R A s σ H locs → lv_has ls 10 [(0, .ref (ad 0)), (2, .int (zI v2)), (3, .int (zI v3)), (4, .int (zI v4)), (5, .int (zI v5)), (6, .int (zI v6))] → K55 v2 v3 v4 v5 v6 σ = some res → W p l e (rmU 7 186) s m args below meth c H locs 0 0 (MQ below (QI D cA ad kM 31 R A res) args s 0 0 A) (F0 m 55 ls [])) {σ : St} {H : Heap} {locs : List Loc} {ls : Array Slot}  (hw : At D cA ad kM 31 R A s σ H locs) (hl : lv_has ls 10 [(0, .ref (ad 0)), (2, .int (zI v2)), (3, .int (zI v3)), (4, .int (zI v4)), (5, .int (zI v5)), (6, .int (zI v6))]) (h : p_X8_setting_199 K55 v2 v3 v4 v5 v6 σ = some res) : W p l e (rmU 7 186) s m args below meth c H locs 0 0 (MQ below (QI D cA ad kM 31 R A res) args s 0 0 A) (F0 m 199 ls []) := by
  have h := h
  unfold p_X8_setting_199 at h
  refine y_iinc (lv' := [(6, .int (zI (v6 + 1))), (0, .ref (ad 0)), (2, .int (zI v2)), (3, .int (zI v3)), (4, .int (zI v4)), (5, .int (zI v5))]) C dX8_setting_199 hl (k := 5) rfl (by decide) rfl (fun ls hl => ?_)
  refine y_goto (tgt := 55) C dX8_setting_202 (by decide) ?_
  exact hK55 _ _ _ _ _ _ _ _ _  hw (lv_sub hl [1, 2, 3, 4, 5, 0] rfl) h
set_option maxRecDepth 100000 in
set_option maxHeartbeats 4000000 in
theorem k_X8_setting_169 {K55 : Int → Int → Int → Int → Int → St → Option (Int × St)} {v2 : Int} {v3 : Int} {v6 : Int} {v8 : Int} (C : Cx cX8_setting RX8 10 (some .int) D cA adK adV A p s m args meth c) (hK55 : ∀ (v2 : Int) (v3 : Int) (v4 : Int) (v5 : Int) (v6 : Int) (σ : St) (H : Heap) (locs : List Loc) (ls : Array Slot) , At D cA ad kM 31 R A s σ H locs → lv_has ls 10 [(0, .ref (ad 0)), (2, .int (zI v2)), (3, .int (zI v3)), (4, .int (zI v4)), (5, .int (zI v5)), (6, .int (zI v6))] → K55 v2 v3 v4 v5 v6 σ = some res → W p l e (rmU 7 186) s m args below meth c H locs 0 0 (MQ below (QI D cA ad kM 31 R A res) args s 0 0 A) (F0 m 55 ls [])) {σ : St} {H : Heap} {locs : List Loc} {ls : Array Slot}  (hw : At D cA ad kM 31 R A s σ H locs) (hl : lv_has ls 10 [(0, .ref (ad 0)), (2, .int (zI v2)), (3, .int (zI v3)), (6, .int (zI v6)), (8, .int (zI v8))]) (h : p_X8_setting_169 K55 v2 v3 v6 v8 σ = some res) : W p l e (rmU 7 186) s m args below meth c H locs 0 0 (MQ below (QI D cA ad kM 31 R A res) args s 0 0 A) (F0 m 169 ls []) := by
  have h := h
  unfold p_X8_setting_169 at h
  refine y_bipush C dX8_setting_169 (by decide) ?_
  refine y_aload_n C dX8_setting_171 (lv_at hl 0 rfl) ?_
  refine g8 C hw km_0 4 (by decide) wd_875 rfl dX8_setting_172 ?_
  refine y_iconst C dX8_setting_175 ?_
  refine y_iald C hw km_5 (i' := 2) (by decide) (by decide) dX8_setting_176 ?_
  refine y_imul C dX8_setting_177 ?_
  refine y_bipush C dX8_setting_178 (by decide) ?_
  refine y_aload_n C dX8_setting_180 (lv_at hl 0 rfl) ?_
  refine g8 C hw km_0 3 (by decide) wd_874 rfl dX8_setting_181 ?_
  refine y_iconst C dX8_setting_184 ?_
  refine y_iald C hw km_4 (i' := 2) (by decide) (by decide) dX8_setting_185 ?_
  refine y_imul C dX8_setting_186 ?_
  refine y_iadd C dX8_setting_187 ?_
  refine y_iload C dX8_setting_188 (lv_at hl 3 rfl) ?_
  refine y_iconst C dX8_setting_190 ?_
  refine y_irem C (b' := 3) (by decide) (by decide) dX8_setting_191 ?_
  refine y_iadd C dX8_setting_192 ?_
  obtain ⟨z193, ez193, h⟩ := nz_some h
  rw [← ez193]
  refine y_istore (lv' := [(4, .int (zI z193)), (0, .ref (ad 0)), (2, .int (zI v2)), (3, .int (zI v3)), (6, .int (zI v6)), (8, .int (zI v8))]) C dX8_setting_193 hl (by decide) rfl (fun ls hl => ?_)
  refine y_iload C dX8_setting_195 (lv_at hl 5 rfl) ?_
  refine y_istore (lv' := [(5, .int (zI v8)), (4, .int (zI z193)), (0, .ref (ad 0)), (2, .int (zI v2)), (3, .int (zI v3)), (6, .int (zI v6)), (8, .int (zI v8))]) C dX8_setting_197 hl (by decide) rfl (fun ls hl => ?_)
  exact k_X8_setting_199 C hK55  hw (lv_sub hl [2, 3, 4, 1, 0, 5] rfl) h
set_option maxRecDepth 100000 in
set_option maxHeartbeats 4000000 in
theorem k_X8_setting_152 {K55 : Int → Int → Int → Int → Int → St → Option (Int × St)} {v2 : Int} {v3 : Int} {v4 : Int} {v5 : Int} {v6 : Int} {v7 : Int} {v8 : Int} (C : Cx cX8_setting RX8 10 (some .int) D cA adK adV A p s m args meth c) (hK55 : ∀ (v2 : Int) (v3 : Int) (v4 : Int) (v5 : Int) (v6 : Int) (σ : St) (H : Heap) (locs : List Loc) (ls : Array Slot) , At D cA ad kM 31 R A s σ H locs → lv_has ls 10 [(0, .ref (ad 0)), (2, .int (zI v2)), (3, .int (zI v3)), (4, .int (zI v4)), (5, .int (zI v5)), (6, .int (zI v6))] → K55 v2 v3 v4 v5 v6 σ = some res → W p l e (rmU 7 186) s m args below meth c H locs 0 0 (MQ below (QI D cA ad kM 31 R A res) args s 0 0 A) (F0 m 55 ls [])) {σ : St} {H : Heap} {locs : List Loc} {ls : Array Slot}  (hw : At D cA ad kM 31 R A s σ H locs) (hl : lv_has ls 10 [(0, .ref (ad 0)), (2, .int (zI v2)), (3, .int (zI v3)), (4, .int (zI v4)), (5, .int (zI v5)), (6, .int (zI v6)), (7, .int (zI v7)), (8, .int (zI v8))]) (h : p_X8_setting_152 K55 v2 v3 v4 v5 v6 v7 v8 σ = some res) : W p l e (rmU 7 186) s m args below meth c H locs 0 0 (MQ below (QI D cA ad kM 31 R A res) args s 0 0 A) (F0 m 152 ls []) := by
  have h := h
  unfold p_X8_setting_152 at h
  refine y_iload C dX8_setting_152 (lv_at hl 6 rfl) ?_
  refine y_if_eq (tgt := 199) C (a' := zm v7) rfl dX8_setting_154 (by decide) (fun hc => ?_) (fun hc => ?_)
  · rw [if_pos hc] at h
    exact k_X8_setting_199 C hK55  hw (lv_sub hl [0, 1, 2, 3, 4, 5] rfl) h
  · rw [if_neg hc] at h
    refine y_iload C dX8_setting_157 (lv_at hl 3 rfl) ?_
    refine y_if_lt (tgt := 169) C (a' := zm v4) rfl dX8_setting_159 (by decide) (fun hc => ?_) (fun hc => ?_)
    · rw [if_pos hc] at h
      exact k_X8_setting_169 C hK55  hw (lv_sub hl [0, 1, 2, 5, 7] rfl) h
    · rw [if_neg hc] at h
      refine y_iload C dX8_setting_162 (lv_at hl 7 rfl) ?_
      refine y_iload C dX8_setting_164 (lv_at hl 4 rfl) ?_
      refine y_icmp_le (tgt := 199) C (a' := zm v8) (b' := zm v5) rfl rfl dX8_setting_166 (by decide) (fun hc => ?_) (fun hc => ?_)
      · rw [if_pos hc] at h
        exact k_X8_setting_199 C hK55  hw (lv_sub hl [0, 1, 2, 3, 4, 5] rfl) h
      · rw [if_neg hc] at h
        exact k_X8_setting_169 C hK55  hw (lv_sub hl [0, 1, 2, 5, 7] rfl) h
set_option maxRecDepth 100000 in
set_option maxHeartbeats 4000000 in
theorem k_X8_setting_111b {K55 : Int → Int → Int → Int → Int → St → Option (Int × St)} {K111 : Int → Int → Int → Int → Int → Int → Int → Int → St → Option (Int × St)} {v2 : Int} {v3 : Int} {v4 : Int} {v5 : Int} {v6 : Int} {v7 : Int} {v8 : Int} {v9 : Int} (C : Cx cX8_setting RX8 10 (some .int) D cA adK adV A p s m args meth c) (hK55 : ∀ (v2 : Int) (v3 : Int) (v4 : Int) (v5 : Int) (v6 : Int) (σ : St) (H : Heap) (locs : List Loc) (ls : Array Slot) , At D cA ad kM 31 R A s σ H locs → lv_has ls 10 [(0, .ref (ad 0)), (2, .int (zI v2)), (3, .int (zI v3)), (4, .int (zI v4)), (5, .int (zI v5)), (6, .int (zI v6))] → K55 v2 v3 v4 v5 v6 σ = some res → W p l e (rmU 7 186) s m args below meth c H locs 0 0 (MQ below (QI D cA ad kM 31 R A res) args s 0 0 A) (F0 m 55 ls [])) (hK111 : ∀ (v2 : Int) (v3 : Int) (v4 : Int) (v5 : Int) (v6 : Int) (v7 : Int) (v8 : Int) (v9 : Int) (σ : St) (H : Heap) (locs : List Loc) (ls : Array Slot) , At D cA ad kM 31 R A s σ H locs → lv_has ls 10 [(0, .ref (ad 0)), (2, .int (zI v2)), (3, .int (zI v3)), (4, .int (zI v4)), (5, .int (zI v5)), (6, .int (zI v6)), (7, .int (zI v7)), (8, .int (zI v8)), (9, .int (zI v9))] → K111 v2 v3 v4 v5 v6 v7 v8 v9 σ = some res → W p l e (rmU 7 186) s m args below meth c H locs 0 0 (MQ below (QI D cA ad kM 31 R A res) args s 0 0 A) (F0 m 111 ls [])) {σ : St} {H : Heap} {locs : List Loc} {ls : Array Slot}  (hw : At D cA ad kM 31 R A s σ H locs) (hl : lv_has ls 10 [(0, .ref (ad 0)), (2, .int (zI v2)), (3, .int (zI v3)), (4, .int (zI v4)), (5, .int (zI v5)), (6, .int (zI v6)), (7, .int (zI v7)), (8, .int (zI v8)), (9, .int (zI v9))]) (h : p_X8_setting_111b K55 K111 v2 v3 v4 v5 v6 v7 v8 v9 σ = some res) : W p l e (rmU 7 186) s m args below meth c H locs 0 0 (MQ below (QI D cA ad kM 31 R A res) args s 0 0 A) (F0 m 111 ls []) := by
  have h := h
  unfold p_X8_setting_111b at h
  refine y_iload C dX8_setting_111 (lv_at hl 8 rfl) ?_
  refine y_aload_n C dX8_setting_113 (lv_at hl 0 rfl) ?_
  refine g8 C hw km_0 7 (by decide) wd_878 rfl dX8_setting_114 ?_
  refine y_icmp_ge (tgt := 152) C (a' := zm v9) (b' := zm (σ 0 7)) rfl rfl dX8_setting_117 (by decide) (fun hc => ?_) (fun hc => ?_)
  · rw [if_pos hc] at h
    exact k_X8_setting_152 C hK55  hw (lv_sub hl [0, 1, 2, 3, 4, 5, 6, 7] rfl) h
  · rw [if_neg hc] at h
    refine y_iload C dX8_setting_120 (lv_at hl 6 rfl) ?_
    refine y_if_eq (tgt := 152) C (a' := zm v7) rfl dX8_setting_122 (by decide) (fun hc => ?_) (fun hc => ?_)
    · rw [if_pos hc] at h
      exact k_X8_setting_152 C hK55  hw (lv_sub hl [0, 1, 2, 3, 4, 5, 6, 7] rfl) h
    · rw [if_neg hc] at h
      refine y_aload_n C dX8_setting_125 (lv_at hl 0 rfl) ?_
      refine y_iload C dX8_setting_126 (lv_at hl 8 rfl) ?_
      refine y_iload_n C dX8_setting_128 (lv_at hl 1 rfl) ?_
      refine y_iload_n C dX8_setting_129 (lv_at hl 2 rfl) ?_
      obtain ⟨x130, hc130, h⟩ := bd_some h
      refine y_ci (rest := []) hw (y_rV C hw km_0 (by decide) rfl rfl (c_X8_isEven  hc130) mi_X8_isEven wd_1327 wd_1329 ws_62 rfl ⟨by decide, by decide⟩ hl rfl (Nat.le_of_ble_eq_true rfl) dX8_setting_130) (fun H locs hw => ?_)
      refine y_istore (lv' := [(7, .int (zI x130.1)), (0, .ref (ad 0)), (2, .int (zI v2)), (3, .int (zI v3)), (4, .int (zI v4)), (5, .int (zI v5)), (6, .int (zI v6)), (8, .int (zI v8)), (9, .int (zI v9))]) C dX8_setting_133 hl (by decide) rfl (fun ls hl => ?_)
      refine y_iload C dX8_setting_135 (lv_at hl 7 rfl) ?_
      refine y_aload_n C dX8_setting_137 (lv_at hl 1 rfl) ?_
      refine y_iload C dX8_setting_138 (lv_at hl 8 rfl) ?_
      obtain ⟨x140, hc140, h⟩ := bd_some h
      refine y_ci (rest := [.int (zI v8)]) hw (y_rV C hw km_0 (by decide) rfl rfl (c_X8_pained  hc140) mi_X8_pained wd_1331 wd_1333 ws_63 rfl ⟨by decide, by decide⟩ hl rfl (Nat.le_of_ble_eq_true rfl) dX8_setting_140) (fun H locs hw => ?_)
      refine y_iadd C dX8_setting_143 ?_
      refine y_istore (lv' := [(8, .int (zI (v8 + x140.1))), (7, .int (zI x130.1)), (0, .ref (ad 0)), (2, .int (zI v2)), (3, .int (zI v3)), (4, .int (zI v4)), (5, .int (zI v5)), (6, .int (zI v6)), (9, .int (zI v9))]) C dX8_setting_144 hl (by decide) rfl (fun ls hl => ?_)
      refine y_iinc (lv' := [(9, .int (zI (v9 + 1))), (8, .int (zI (v8 + x140.1))), (7, .int (zI x130.1)), (0, .ref (ad 0)), (2, .int (zI v2)), (3, .int (zI v3)), (4, .int (zI v4)), (5, .int (zI v5)), (6, .int (zI v6))]) C dX8_setting_146 hl (k := 8) rfl (by decide) rfl (fun ls hl => ?_)
      refine y_goto (tgt := 111) C dX8_setting_149 (by decide) ?_
      exact hK111 _ _ _ _ _ _ _ _ _ _ _ _  hw (lv_sub hl [3, 4, 5, 6, 7, 8, 2, 1, 0] rfl) h
set_option maxRecDepth 100000 in
theorem k_X8_setting_111 {K55 : Int → Int → Int → Int → Int → St → Option (Int × St)} (C : Cx cX8_setting RX8 10 (some .int) D cA adK adV A p s m args meth c) (hK55 : ∀ (v2 : Int) (v3 : Int) (v4 : Int) (v5 : Int) (v6 : Int) (σ : St) (H : Heap) (locs : List Loc) (ls : Array Slot) , At D cA ad kM 31 R A s σ H locs → lv_has ls 10 [(0, .ref (ad 0)), (2, .int (zI v2)), (3, .int (zI v3)), (4, .int (zI v4)), (5, .int (zI v5)), (6, .int (zI v6))] → K55 v2 v3 v4 v5 v6 σ = some res → W p l e (rmU 7 186) s m args below meth c H locs 0 0 (MQ below (QI D cA ad kM 31 R A res) args s 0 0 A) (F0 m 55 ls [])) : ∀ (n : Nat) (v2 : Int) (v3 : Int) (v4 : Int) (v5 : Int) (v6 : Int) (v7 : Int) (v8 : Int) (v9 : Int) (σ : St) (H : Heap) (locs : List Loc) (ls : Array Slot) , At D cA ad kM 31 R A s σ H locs → lv_has ls 10 [(0, .ref (ad 0)), (2, .int (zI v2)), (3, .int (zI v3)), (4, .int (zI v4)), (5, .int (zI v5)), (6, .int (zI v6)), (7, .int (zI v7)), (8, .int (zI v8)), (9, .int (zI v9))] → p_X8_setting_111 K55 n v2 v3 v4 v5 v6 v7 v8 v9 σ = some res → W p l e (rmU 7 186) s m args below meth c H locs 0 0 (MQ below (QI D cA ad kM 31 R A res) args s 0 0 A) (F0 m 111 ls []) := by
  intro n
  induction n with
  | zero =>
    intro v2 v3 v4 v5 v6 v7 v8 v9 σ H locs ls  hw hl h
    have h : none = some res := h
    cases h
  | succ n ih =>
    intro v2 v3 v4 v5 v6 v7 v8 v9 σ H locs ls  hw hl h
    exact k_X8_setting_111b C hK55 ih  hw hl h
set_option maxRecDepth 100000 in
set_option maxHeartbeats 4000000 in
theorem k_X8_setting_55b {K55 : Int → Int → Int → Int → Int → St → Option (Int × St)} {v2 : Int} {v3 : Int} {v4 : Int} {v5 : Int} {v6 : Int} (C : Cx cX8_setting RX8 10 (some .int) D cA adK adV A p s m args meth c)  (hK55 : ∀ (v2 : Int) (v3 : Int) (v4 : Int) (v5 : Int) (v6 : Int) (σ : St) (H : Heap) (locs : List Loc) (ls : Array Slot) , At D cA ad kM 31 R A s σ H locs → lv_has ls 10 [(0, .ref (ad 0)), (2, .int (zI v2)), (3, .int (zI v3)), (4, .int (zI v4)), (5, .int (zI v5)), (6, .int (zI v6))] → K55 v2 v3 v4 v5 v6 σ = some res → W p l e (rmU 7 186) s m args below meth c H locs 0 0 (MQ below (QI D cA ad kM 31 R A res) args s 0 0 A) (F0 m 55 ls [])) {σ : St} {H : Heap} {locs : List Loc} {ls : Array Slot}  (hw : At D cA ad kM 31 R A s σ H locs) (hl : lv_has ls 10 [(0, .ref (ad 0)), (2, .int (zI v2)), (3, .int (zI v3)), (4, .int (zI v4)), (5, .int (zI v5)), (6, .int (zI v6))]) (h : p_X8_setting_55b K55 v2 v3 v4 v5 v6 σ = some res) : W p l e (rmU 7 186) s m args below meth c H locs 0 0 (MQ below (QI D cA ad kM 31 R A res) args s 0 0 A) (F0 m 55 ls []) := by
  have h := h
  unfold p_X8_setting_55b at h
  refine y_iload C dX8_setting_55 (lv_at hl 5 rfl) ?_
  refine y_bipush C dX8_setting_57 (by decide) ?_
  refine y_icmp_ge (tgt := 205) C (a' := zm v6) (b' := 36) rfl (by decide) dX8_setting_59 (by decide) (fun hc => ?_) (fun hc => ?_)
  · rw [if_pos hc] at h
    refine y_iload C dX8_setting_205 (lv_at hl 3 rfl) ?_
    exact y_iret C hw h dX8_setting_207
  · rw [if_neg hc] at h
    refine y_aload_n C dX8_setting_62 (lv_at hl 0 rfl) ?_
    refine g8 C hw km_0 4 (by decide) wd_875 rfl dX8_setting_63 ?_
    refine y_iconst C dX8_setting_66 ?_
    refine y_iconst C dX8_setting_67 ?_
    refine y_iload C dX8_setting_68 (lv_at hl 5 rfl) ?_
    refine y_bipush C dX8_setting_70 (by decide) ?_
    refine y_idiv C (b' := 12) (by decide) (by decide) dX8_setting_72 ?_
    refine y_iadd C dX8_setting_73 ?_
    obtain ⟨σ74, eσ74, h⟩ := nx_some h
    refine y_iast C hw km_5 (i' := 2) (by decide) (by decide) dX8_setting_74 (fun H locs hw => ?_)
    rw [← eσ74] at hw
    refine y_aload_n C dX8_setting_75 (lv_at hl 0 rfl) ?_
    refine g8 C hw km_0 3 (by decide) wd_874 rfl dX8_setting_76 ?_
    refine y_iconst C dX8_setting_79 ?_
    refine y_iconst C dX8_setting_80 ?_
    refine y_iload C dX8_setting_81 (lv_at hl 5 rfl) ?_
    refine y_iconst C dX8_setting_83 ?_
    refine y_idiv C (b' := 3) (by decide) (by decide) dX8_setting_84 ?_
    refine y_iconst C dX8_setting_85 ?_
    refine y_irem C (b' := 4) (by decide) (by decide) dX8_setting_86 ?_
    refine y_iadd C dX8_setting_87 ?_
    obtain ⟨σ88, eσ88, h⟩ := nx_some h
    refine y_iast C hw km_4 (i' := 2) (by decide) (by decide) dX8_setting_88 (fun H locs hw => ?_)
    rw [← eσ88] at hw
    refine y_aload_n C dX8_setting_89 (lv_at hl 0 rfl) ?_
    refine g8 C hw km_0 5 (by decide) wd_876 rfl dX8_setting_90 ?_
    refine y_iconst C dX8_setting_93 ?_
    refine y_bipush C dX8_setting_94 (by decide) ?_
    refine y_iload C dX8_setting_96 (lv_at hl 5 rfl) ?_
    refine y_iconst C dX8_setting_98 ?_
    refine y_irem C (b' := 3) (by decide) (by decide) dX8_setting_99 ?_
    refine y_imul C dX8_setting_100 ?_
    obtain ⟨σ101, eσ101, h⟩ := nx_some h
    refine y_iast C hw km_6 (i' := 2) (by decide) (by decide) dX8_setting_101 (fun H locs hw => ?_)
    rw [← eσ101] at hw
    refine y_iconst C dX8_setting_102 ?_
    refine y_istore (lv' := [(7, .int (zI 1)), (0, .ref (ad 0)), (2, .int (zI v2)), (3, .int (zI v3)), (4, .int (zI v4)), (5, .int (zI v5)), (6, .int (zI v6))]) C dX8_setting_103 hl (by decide) rfl (fun ls hl => ?_)
    refine y_iconst C dX8_setting_105 ?_
    refine y_istore (lv' := [(8, .int (zI 0)), (7, .int (zI 1)), (0, .ref (ad 0)), (2, .int (zI v2)), (3, .int (zI v3)), (4, .int (zI v4)), (5, .int (zI v5)), (6, .int (zI v6))]) C dX8_setting_106 hl (by decide) rfl (fun ls hl => ?_)
    refine y_iconst C dX8_setting_108 ?_
    refine y_istore (lv' := [(9, .int (zI 0)), (8, .int (zI 0)), (7, .int (zI 1)), (0, .ref (ad 0)), (2, .int (zI v2)), (3, .int (zI v3)), (4, .int (zI v4)), (5, .int (zI v5)), (6, .int (zI v6))]) C dX8_setting_109 hl (by decide) rfl (fun ls hl => ?_)
    exact k_X8_setting_111 C hK55 FU _ _ _ _ _ _ _ _ _ _ _ _  hw (lv_sub hl [3, 4, 5, 6, 7, 8, 2, 1, 0] rfl) h
set_option maxRecDepth 100000 in
theorem k_X8_setting_55  (C : Cx cX8_setting RX8 10 (some .int) D cA adK adV A p s m args meth c)  : ∀ (n : Nat) (v2 : Int) (v3 : Int) (v4 : Int) (v5 : Int) (v6 : Int) (σ : St) (H : Heap) (locs : List Loc) (ls : Array Slot) , At D cA ad kM 31 R A s σ H locs → lv_has ls 10 [(0, .ref (ad 0)), (2, .int (zI v2)), (3, .int (zI v3)), (4, .int (zI v4)), (5, .int (zI v5)), (6, .int (zI v6))] → p_X8_setting_55  n v2 v3 v4 v5 v6 σ = some res → W p l e (rmU 7 186) s m args below meth c H locs 0 0 (MQ below (QI D cA ad kM 31 R A res) args s 0 0 A) (F0 m 55 ls []) := by
  intro n
  induction n with
  | zero =>
    intro v2 v3 v4 v5 v6 σ H locs ls  hw hl h
    have h : none = some res := h
    cases h
  | succ n ih =>
    intro v2 v3 v4 v5 v6 σ H locs ls  hw hl h
    exact k_X8_setting_55b C  ih  hw hl h
set_option maxRecDepth 100000 in
set_option maxHeartbeats 4000000 in
theorem k_X8_setting_0  {v1 : Int} {v2 : Int} {v3 : Int} (C : Cx cX8_setting RX8 10 (some .int) D cA adK adV A p s m args meth c)  {σ : St} {H : Heap} {locs : List Loc} {ls : Array Slot}  (hw : At D cA ad kM 31 R A s σ H locs) (hl : lv_has ls 10 [(0, .ref (ad 0)), (1, .int (zI v1)), (2, .int (zI v2)), (3, .int (zI v3))]) (h : p_X8_setting  v1 v2 v3 σ = some res) : W p l e (rmU 7 186) s m args below meth c H locs 0 0 (MQ below (QI D cA ad kM 31 R A res) args s 0 0 A) (F0 m 0 ls []) := by
  have h := h
  unfold p_X8_setting at h
  refine y_aload_n C dX8_setting_0 (lv_at hl 0 rfl) ?_
  refine y_iload_n C dX8_setting_1 (lv_at hl 1 rfl) ?_
  obtain ⟨x2, hc2, h⟩ := bd_some h
  refine y_ci (rest := []) hw (y_rV C hw km_0 (by decide) rfl rfl (c_X8_isHouse  hc2) mi_X8_isHouse wd_1096 wd_1098 ws_33 rfl ⟨by decide, by decide⟩ hl rfl (Nat.le_of_ble_eq_true rfl) dX8_setting_2) (fun H locs hw => ?_)
  refine y_if_ne (tgt := 11) C (a' := zm x2.1) rfl dX8_setting_5 (by decide) (fun hc => ?_) (fun hc => ?_)
  · rw [if_pos hc] at h
    refine y_ldc C (z := (-1000000001)) wd_1037 (by decide) dX8_setting_8 ?_
    exact y_iret C hw h dX8_setting_10
  · rw [if_neg hc] at h
    refine y_iload_n C dX8_setting_11 (lv_at hl 2 rfl) ?_
    refine y_i2l C rfl dX8_setting_12 ?_
    refine y_lconst C (z' := 1) dX8_setting_13 (by decide) ?_
    refine y_ldc2 C (z := 12) wd_1224 (by decide) dX8_setting_14 ?_
    obtain ⟨x17, hc17, h⟩ := bd_some h
    refine y_ci (rest := []) hw (y_rS C hw (c_X8_within  hc17) mi_X8_within wd_1027 wd_1028 rfl ⟨by decide, by decide⟩ hl rfl (Nat.le_of_ble_eq_true rfl) dX8_setting_17) (fun H locs hw => ?_)
    refine y_if_eq (tgt := 37) C (a' := zm x17.1) rfl dX8_setting_20 (by decide) (fun hc => ?_) (fun hc => ?_)
    · rw [if_pos hc] at h
      refine y_ldc C (z := (-1000000002)) wd_1030 (by decide) dX8_setting_37 ?_
      exact y_iret C hw h dX8_setting_39
    · rw [if_neg hc] at h
      refine y_iload_n C dX8_setting_23 (lv_at hl 3 rfl) ?_
      refine y_i2l C rfl dX8_setting_24 ?_
      refine y_ldc2 C (z := (-9999999)) wd_1325 (by decide) dX8_setting_25 ?_
      refine y_ldc2 C (z := 9999999) wd_1326 (by decide) dX8_setting_28 ?_
      obtain ⟨x31, hc31, h⟩ := bd_some h
      refine y_ci (rest := []) hw (y_rS C hw (c_X8_within  hc31) mi_X8_within wd_1027 wd_1028 rfl ⟨by decide, by decide⟩ hl rfl (Nat.le_of_ble_eq_true rfl) dX8_setting_31) (fun H locs hw => ?_)
      refine y_if_ne (tgt := 40) C (a' := zm x31.1) rfl dX8_setting_34 (by decide) (fun hc => ?_) (fun hc => ?_)
      · rw [if_pos hc] at h
        refine y_ldc C (z := (-1000000002)) wd_1030 (by decide) dX8_setting_37 ?_
        exact y_iret C hw h dX8_setting_39
      · rw [if_neg hc] at h
        refine y_aload_n C dX8_setting_40 (lv_at hl 0 rfl) ?_
        refine y_iload_n C dX8_setting_41 (lv_at hl 1 rfl) ?_
        refine y_iconst C dX8_setting_42 ?_
        obtain ⟨x43, hc43, h⟩ := bd_some h
        refine y_cv (rest := []) hw (y_rV C hw km_0 (by decide) rfl rfl (c_X8_copyHouse  hc43) mi_X8_copyHouse wd_1084 wd_1086 ws_32 rfl ⟨by decide, by decide⟩ hl rfl (Nat.le_of_ble_eq_true rfl) dX8_setting_43) (fun H locs hw => ?_)
        refine y_iconst C dX8_setting_46 ?_
        refine y_istore (lv' := [(4, .int (zI (-1))), (0, .ref (ad 0)), (1, .int (zI v1)), (2, .int (zI v2)), (3, .int (zI v3))]) C dX8_setting_47 hl (by decide) rfl (fun ls hl => ?_)
        refine y_iconst C dX8_setting_49 ?_
        refine y_istore (lv' := [(5, .int (zI 0)), (4, .int (zI (-1))), (0, .ref (ad 0)), (1, .int (zI v1)), (2, .int (zI v2)), (3, .int (zI v3))]) C dX8_setting_50 hl (by decide) rfl (fun ls hl => ?_)
        refine y_iconst C dX8_setting_52 ?_
        refine y_istore (lv' := [(6, .int (zI 0)), (5, .int (zI 0)), (4, .int (zI (-1))), (0, .ref (ad 0)), (1, .int (zI v1)), (2, .int (zI v2)), (3, .int (zI v3))]) C dX8_setting_53 hl (by decide) rfl (fun ls hl => ?_)
        exact k_X8_setting_55 C  FU _ _ _ _ _ _ _ _ _  hw (lv_sub hl [3, 5, 6, 2, 1, 0] rfl) h
theorem c_X8_setting {l : Launch} {D : va_G} {cA : Nat → ClassId} {adK adV : Nat → Nat} {A : Nat → Prop} {ad : Int → Nat} {R : va_W} {σ : St} {res : Int × St} {v1 : Int} {v2 : Int} {v3 : Int}  (h : p_X8_setting v1 v2 v3 σ = some res) : Met l yX8_setting (wsU yX8_setting cX8_setting 10 (some .int)) (rmU 7 186) (va_Pc [.ref (ad 0), .int (zI v1), .int (zI v2), .int (zI v3)] (Pr D cA adK adV ad kM 31 R A σ)) (QI D cA ad kM 31 R A res) 0 0 A :=
  y_met (own := RX8) (by decide) rfl _ (Nat.le_of_ble_eq_true rfl) (fun p e s m args below meth c ls C hl hw => k_X8_setting_0 C  hw hl h)
/-! RungHouseModel.seed -/
set_option maxRecDepth 100000 in
set_option maxHeartbeats 4000000 in
theorem k_X8_seed_0  {v1 : Int} (C : Cx cX8_seed RX8 3 (some .int) D cA adK adV A p s m args meth c)  {σ : St} {H : Heap} {locs : List Loc} {ls : Array Slot}  (hw : At D cA ad kM 31 R A s σ H locs) (hl : lv_has ls 3 [(0, .ref (ad 0)), (1, .int (zI v1))]) (h : p_X8_seed  v1 σ = some res) : W p l e (rmU 0 0) s m args below meth c H locs 0 0 (MQ below (QI D cA ad kM 31 R A res) args s 0 0 A) (F0 m 0 ls []) := by
  have h := h
  unfold p_X8_seed at h
  refine y_iload_n C dX8_seed_0 (lv_at hl 1 rfl) ?_
  refine y_if_ge (tgt := 7) C (a' := zm v1) rfl dX8_seed_1 (by decide) (fun hc => ?_) (fun hc => ?_)
  · rw [if_pos hc] at h
    refine y_aload_n C dX8_seed_7 (lv_at hl 0 rfl) ?_
    refine g8 C hw km_0 47 (by decide) wd_918 rfl dX8_seed_8 ?_
    refine y_istore_n (lv' := [(2, .int (zI (σ 0 47))), (0, .ref (ad 0)), (1, .int (zI v1))]) C dX8_seed_11 hl (by decide) rfl (fun ls hl => ?_)
    refine y_aload_n C dX8_seed_12 (lv_at hl 1 rfl) ?_
    refine y_iload_n C dX8_seed_13 (lv_at hl 2 rfl) ?_
    obtain ⟨σ14, eσ14, h⟩ := nx_some h
    refine q8 C hw km_0 47 (by decide) wd_918 rfl rfl rfl (by decide) v1 47 rfl rfl dX8_seed_14 (fun H locs hw => ?_)
    rw [← eσ14] at hw
    refine y_iload_n C dX8_seed_17 (lv_at hl 0 rfl) ?_
    exact y_iret C hw h dX8_seed_18
  · rw [if_neg hc] at h
    refine y_ldc C (z := (-1000000002)) wd_1030 (by decide) dX8_seed_4 ?_
    exact y_iret C hw h dX8_seed_6
theorem c_X8_seed {l : Launch} {D : va_G} {cA : Nat → ClassId} {adK adV : Nat → Nat} {A : Nat → Prop} {ad : Int → Nat} {R : va_W} {σ : St} {res : Int × St} {v1 : Int}  (h : p_X8_seed v1 σ = some res) : Met l yX8_seed (wsU yX8_seed cX8_seed 3 (some .int)) (rmU 0 0) (va_Pc [.ref (ad 0), .int (zI v1)] (Pr D cA adK adV ad kM 31 R A σ)) (QI D cA ad kM 31 R A res) 0 0 A :=
  y_met (own := RX8) (by decide) rfl _ (Nat.le_of_ble_eq_true rfl) (fun p e s m args below meth c ls C hl hw => k_X8_seed_0 C  hw hl h)
/-! RungHouseModel.draw -/
set_option maxRecDepth 100000 in
set_option maxHeartbeats 4000000 in
theorem k_X8_draw_0  {v1 : Int} (C : Cx cX8_draw RX8 2 (some .int) D cA adK adV A p s m args meth c)  {σ : St} {H : Heap} {locs : List Loc} {ls : Array Slot}  (hw : At D cA ad kM 31 R A s σ H locs) (hl : lv_has ls 2 [(0, .ref (ad 0)), (1, .int (zI v1))]) (h : p_X8_draw  v1 σ = some res) : W p l e (rmU 0 0) s m args below meth c H locs 0 0 (MQ below (QI D cA ad kM 31 R A res) args s 0 0 A) (F0 m 0 ls []) := by
  have h := h
  unfold p_X8_draw at h
  refine y_aload_n C dX8_draw_0 (lv_at hl 0 rfl) ?_
  refine y_aload_n C dX8_draw_1 (lv_at hl 0 rfl) ?_
  refine g8 C hw km_0 47 (by decide) wd_918 rfl dX8_draw_2 ?_
  refine y_i2l C rfl dX8_draw_5 ?_
  refine y_ldc2 C (z := 1103515245) wd_1351 (by decide) dX8_draw_6 ?_
  refine y_lmul C dX8_draw_9 ?_
  refine y_ldc2 C (z := 12345) wd_1352 (by decide) dX8_draw_10 ?_
  refine y_ladd C dX8_draw_13 ?_
  refine y_ldc2 C (z := 2147483648) wd_1353 (by decide) dX8_draw_14 ?_
  refine y_lrem C (b' := 2147483648) (by decide) (by decide) dX8_draw_17 ?_
  refine y_l2i C dX8_draw_18 ?_
  obtain ⟨σ19, eσ19, h⟩ := nx_some h
  refine q8 C hw km_0 47 (by decide) wd_918 rfl rfl rfl (by decide) ((zl (((zm (σ 0 47)) * 1103515245) + 12345)).tmod 2147483648) 47 rfl rfl dX8_draw_19 (fun H locs hw => ?_)
  rw [← eσ19] at hw
  refine y_aload_n C dX8_draw_22 (lv_at hl 0 rfl) ?_
  refine g8 C hw km_0 47 (by decide) wd_918 rfl dX8_draw_23 ?_
  refine y_ldcw C (z := 65536) wd_1354 (by decide) dX8_draw_26 ?_
  refine y_idiv C (b' := 65536) (by decide) (by decide) dX8_draw_29 ?_
  refine y_iload_n C dX8_draw_30 (lv_at hl 1 rfl) ?_
  obtain ⟨hg31, h⟩ := gd_some h
  refine y_irem C (b' := zm v1) rfl hg31 dX8_draw_31 ?_
  exact y_iret C hw h dX8_draw_32
theorem c_X8_draw {l : Launch} {D : va_G} {cA : Nat → ClassId} {adK adV : Nat → Nat} {A : Nat → Prop} {ad : Int → Nat} {R : va_W} {σ : St} {res : Int × St} {v1 : Int}  (h : p_X8_draw v1 σ = some res) : Met l yX8_draw (wsU yX8_draw cX8_draw 2 (some .int)) (rmU 0 0) (va_Pc [.ref (ad 0), .int (zI v1)] (Pr D cA adK adV ad kM 31 R A σ)) (QI D cA ad kM 31 R A res) 0 0 A :=
  y_met (own := RX8) (by decide) rfl _ (Nat.le_of_ble_eq_true rfl) (fun p e s m args below meth c ls C hl hw => k_X8_draw_0 C  hw hl h)
/-! RungHouseModel.drawScrape -/
set_option maxRecDepth 100000 in
set_option maxHeartbeats 4000000 in
theorem k_X8_drawScrape_13b {K13 : Int → Int → Int → Int → St → Option (Int × St)} {v1 : Int} {v2 : Int} {v3 : Int} {v4 : Int} (C : Cx cX8_drawScrape RX8 5 (some .int) D cA adK adV A p s m args meth c)  (hK13 : ∀ (v1 : Int) (v2 : Int) (v3 : Int) (v4 : Int) (σ : St) (H : Heap) (locs : List Loc) (ls : Array Slot) , At D cA ad kM 31 R A s σ H locs → lv_has ls 5 [(0, .ref (ad 0)), (1, .int (zI v1)), (2, .int (zI v2)), (3, .int (zI v3)), (4, .int (zI v4))] → K13 v1 v2 v3 v4 σ = some res → W p l e (rmU 1 21) s m args below meth c H locs 0 0 (MQ below (QI D cA ad kM 31 R A res) args s 0 0 A) (F0 m 13 ls [])) {σ : St} {H : Heap} {locs : List Loc} {ls : Array Slot}  (hw : At D cA ad kM 31 R A s σ H locs) (hl : lv_has ls 5 [(0, .ref (ad 0)), (1, .int (zI v1)), (2, .int (zI v2)), (3, .int (zI v3)), (4, .int (zI v4))]) (h : p_X8_drawScrape_13b K13 v1 v2 v3 v4 σ = some res) : W p l e (rmU 1 21) s m args below meth c H locs 0 0 (MQ below (QI D cA ad kM 31 R A res) args s 0 0 A) (F0 m 13 ls []) := by
  have h := h
  unfold p_X8_drawScrape_13b at h
  refine y_iload C dX8_drawScrape_13 (lv_at hl 4 rfl) ?_
  refine y_aload_n C dX8_drawScrape_15 (lv_at hl 0 rfl) ?_
  refine g8 C hw km_0 8 (by decide) wd_879 rfl dX8_drawScrape_16 ?_
  refine y_iload_n C dX8_drawScrape_19 (lv_at hl 1 rfl) ?_
  obtain ⟨hg20, h⟩ := gd_some h
  refine y_iald C hw km_8 (i' := zm v1) rfl hg20 dX8_drawScrape_20 ?_
  refine y_icmp_ge (tgt := 53) C (a' := zm v4) (b' := zm (σ 8 (zm v1))) rfl rfl dX8_drawScrape_21 (by decide) (fun hc => ?_) (fun hc => ?_)
  · rw [if_pos hc] at h
    refine y_iconst C dX8_drawScrape_53 ?_
    exact y_iret C hw h dX8_drawScrape_54
  · rw [if_neg hc] at h
    refine y_iload_n C dX8_drawScrape_24 (lv_at hl 3 rfl) ?_
    refine y_aload_n C dX8_drawScrape_25 (lv_at hl 0 rfl) ?_
    refine g8 C hw km_0 10 (by decide) wd_881 rfl dX8_drawScrape_26 ?_
    refine y_bipush C dX8_drawScrape_29 (by decide) ?_
    refine y_iload_n C dX8_drawScrape_31 (lv_at hl 1 rfl) ?_
    refine y_imul C dX8_drawScrape_32 ?_
    refine y_iload C dX8_drawScrape_33 (lv_at hl 4 rfl) ?_
    refine y_iadd C dX8_drawScrape_35 ?_
    obtain ⟨hg36, h⟩ := gd_some h
    refine y_iald C hw km_10 (i' := zm ((8 * v1) + v4)) rfl hg36 dX8_drawScrape_36 ?_
    refine y_iadd C dX8_drawScrape_37 ?_
    refine y_istore_n (lv' := [(3, .int (zI (v3 + (σ 10 (zm ((8 * v1) + v4)))))), (0, .ref (ad 0)), (1, .int (zI v1)), (2, .int (zI v2)), (4, .int (zI v4))]) C dX8_drawScrape_38 hl (by decide) rfl (fun ls hl => ?_)
    refine y_iload_n C dX8_drawScrape_39 (lv_at hl 0 rfl) ?_
    refine y_iload_n C dX8_drawScrape_40 (lv_at hl 3 rfl) ?_
    refine y_icmp_le (tgt := 47) C (a' := zm (v3 + (σ 10 (zm ((8 * v1) + v4))))) (b' := zm v2) rfl rfl dX8_drawScrape_41 (by decide) (fun hc => ?_) (fun hc => ?_)
    · rw [if_pos hc] at h
      refine y_iinc (lv' := [(4, .int (zI (v4 + 1))), (3, .int (zI (v3 + (σ 10 (zm ((8 * v1) + v4)))))), (0, .ref (ad 0)), (1, .int (zI v1)), (2, .int (zI v2))]) C dX8_drawScrape_47 hl (k := 4) rfl (by decide) rfl (fun ls hl => ?_)
      refine y_goto (tgt := 13) C dX8_drawScrape_50 (by decide) ?_
      exact hK13 _ _ _ _ _ _ _ _  hw (lv_sub hl [2, 3, 4, 1, 0] rfl) h
    · rw [if_neg hc] at h
      refine y_iload C dX8_drawScrape_44 (lv_at hl 4 rfl) ?_
      exact y_iret C hw h dX8_drawScrape_46
set_option maxRecDepth 100000 in
theorem k_X8_drawScrape_13  (C : Cx cX8_drawScrape RX8 5 (some .int) D cA adK adV A p s m args meth c)  : ∀ (n : Nat) (v1 : Int) (v2 : Int) (v3 : Int) (v4 : Int) (σ : St) (H : Heap) (locs : List Loc) (ls : Array Slot) , At D cA ad kM 31 R A s σ H locs → lv_has ls 5 [(0, .ref (ad 0)), (1, .int (zI v1)), (2, .int (zI v2)), (3, .int (zI v3)), (4, .int (zI v4))] → p_X8_drawScrape_13  n v1 v2 v3 v4 σ = some res → W p l e (rmU 1 21) s m args below meth c H locs 0 0 (MQ below (QI D cA ad kM 31 R A res) args s 0 0 A) (F0 m 13 ls []) := by
  intro n
  induction n with
  | zero =>
    intro v1 v2 v3 v4 σ H locs ls  hw hl h
    have h : none = some res := h
    cases h
  | succ n ih =>
    intro v1 v2 v3 v4 σ H locs ls  hw hl h
    exact k_X8_drawScrape_13b C  ih  hw hl h
set_option maxRecDepth 100000 in
set_option maxHeartbeats 4000000 in
theorem k_X8_drawScrape_0  {v1 : Int} (C : Cx cX8_drawScrape RX8 5 (some .int) D cA adK adV A p s m args meth c)  {σ : St} {H : Heap} {locs : List Loc} {ls : Array Slot}  (hw : At D cA ad kM 31 R A s σ H locs) (hl : lv_has ls 5 [(0, .ref (ad 0)), (1, .int (zI v1))]) (h : p_X8_drawScrape  v1 σ = some res) : W p l e (rmU 1 21) s m args below meth c H locs 0 0 (MQ below (QI D cA ad kM 31 R A res) args s 0 0 A) (F0 m 0 ls []) := by
  have h := h
  unfold p_X8_drawScrape at h
  refine y_aload_n C dX8_drawScrape_0 (lv_at hl 0 rfl) ?_
  refine y_sipush C dX8_drawScrape_1 (by decide) ?_
  obtain ⟨x4, hc4, h⟩ := bd_some h
  refine y_ci (rest := []) hw (y_rV C hw km_0 (by decide) rfl rfl (c_X8_draw  hc4) mi_X8_draw wd_1347 wd_1349 ws_65 rfl ⟨by decide, by decide⟩ hl rfl (Nat.le_of_ble_eq_true rfl) dX8_drawScrape_4) (fun H locs hw => ?_)
  refine y_istore_n (lv' := [(2, .int (zI x4.1)), (0, .ref (ad 0)), (1, .int (zI v1))]) C dX8_drawScrape_7 hl (by decide) rfl (fun ls hl => ?_)
  refine y_iconst C dX8_drawScrape_8 ?_
  refine y_istore_n (lv' := [(3, .int (zI 0)), (2, .int (zI x4.1)), (0, .ref (ad 0)), (1, .int (zI v1))]) C dX8_drawScrape_9 hl (by decide) rfl (fun ls hl => ?_)
  refine y_iconst C dX8_drawScrape_10 ?_
  refine y_istore (lv' := [(4, .int (zI 0)), (3, .int (zI 0)), (2, .int (zI x4.1)), (0, .ref (ad 0)), (1, .int (zI v1))]) C dX8_drawScrape_11 hl (by decide) rfl (fun ls hl => ?_)
  exact k_X8_drawScrape_13 C  FU _ _ _ _ _ _ _ _  hw (lv_sub hl [3, 4, 2, 1, 0] rfl) h
theorem c_X8_drawScrape {l : Launch} {D : va_G} {cA : Nat → ClassId} {adK adV : Nat → Nat} {A : Nat → Prop} {ad : Int → Nat} {R : va_W} {σ : St} {res : Int × St} {v1 : Int}  (h : p_X8_drawScrape v1 σ = some res) : Met l yX8_drawScrape (wsU yX8_drawScrape cX8_drawScrape 5 (some .int)) (rmU 1 21) (va_Pc [.ref (ad 0), .int (zI v1)] (Pr D cA adK adV ad kM 31 R A σ)) (QI D cA ad kM 31 R A res) 0 0 A :=
  y_met (own := RX8) (by decide) rfl _ (Nat.le_of_ble_eq_true rfl) (fun p e s m args below meth c ls C hl hw => k_X8_drawScrape_0 C  hw hl h)
/-! RungHouseModel.lives -/
set_option maxRecDepth 100000 in
set_option maxHeartbeats 4000000 in
theorem k_X8_lives_182 {K67 : Int → Int → Int → Int → Int → Int → Int → St → Option (Int × St)} {K97 : Int → Int → Int → Int → Int → Int → Int → Int → Int → St → Option (Int × St)} {v1 : Int} {v2 : Int} {v3 : Int} {v4 : Int} {v5 : Int} {v6 : Int} {v7 : Int} {v8 : Int} {v9 : Int} (C : Cx cX8_lives RX8 13 (some .int) D cA adK adV A p s m args meth c) (hK67 : ∀ (v1 : Int) (v2 : Int) (v3 : Int) (v4 : Int) (v5 : Int) (v6 : Int) (v7 : Int) (σ : St) (H : Heap) (locs : List Loc) (ls : Array Slot) , At D cA ad kM 31 R A s σ H locs → lv_has ls 13 [(0, .ref (ad 0)), (1, .int (zI v1)), (2, .int (zI v2)), (3, .int (zI v3)), (4, .int (zI v4)), (5, .int (zI v5)), (6, .int (zI v6)), (7, .int (zI v7))] → K67 v1 v2 v3 v4 v5 v6 v7 σ = some res → W p l e (rmU 2 51) s m args below meth c H locs 0 0 (MQ below (QI D cA ad kM 31 R A res) args s 0 0 A) (F0 m 67 ls [])) (hK97 : ∀ (v1 : Int) (v2 : Int) (v3 : Int) (v4 : Int) (v5 : Int) (v6 : Int) (v7 : Int) (v8 : Int) (v9 : Int) (σ : St) (H : Heap) (locs : List Loc) (ls : Array Slot) , At D cA ad kM 31 R A s σ H locs → lv_has ls 13 [(0, .ref (ad 0)), (1, .int (zI v1)), (2, .int (zI v2)), (3, .int (zI v3)), (4, .int (zI v4)), (5, .int (zI v5)), (6, .int (zI v6)), (7, .int (zI v7)), (8, .int (zI v8)), (9, .int (zI v9))] → K97 v1 v2 v3 v4 v5 v6 v7 v8 v9 σ = some res → W p l e (rmU 2 51) s m args below meth c H locs 0 0 (MQ below (QI D cA ad kM 31 R A res) args s 0 0 A) (F0 m 97 ls [])) {σ : St} {H : Heap} {locs : List Loc} {ls : Array Slot}  (hw : At D cA ad kM 31 R A s σ H locs) (hl : lv_has ls 13 [(0, .ref (ad 0)), (1, .int (zI v1)), (2, .int (zI v2)), (3, .int (zI v3)), (4, .int (zI v4)), (5, .int (zI v5)), (6, .int (zI v6)), (7, .int (zI v7)), (8, .int (zI v8)), (9, .int (zI v9))]) (h : p_X8_lives_182 K67 K97 v1 v2 v3 v4 v5 v6 v7 v8 v9 σ = some res) : W p l e (rmU 2 51) s m args below meth c H locs 0 0 (MQ below (QI D cA ad kM 31 R A res) args s 0 0 A) (F0 m 182 ls []) := by
  have h := h
  unfold p_X8_lives_182 at h
  refine y_iinc (lv' := [(9, .int (zI (v9 + 1))), (0, .ref (ad 0)), (1, .int (zI v1)), (2, .int (zI v2)), (3, .int (zI v3)), (4, .int (zI v4)), (5, .int (zI v5)), (6, .int (zI v6)), (7, .int (zI v7)), (8, .int (zI v8))]) C dX8_lives_182 hl (k := 9) rfl (by decide) rfl (fun ls hl => ?_)
  refine y_goto (tgt := 97) C dX8_lives_185 (by decide) ?_
  exact hK97 _ _ _ _ _ _ _ _ _ _ _ _ _  hw (lv_sub hl [1, 2, 3, 4, 5, 6, 7, 8, 9, 0] rfl) h
set_option maxRecDepth 100000 in
set_option maxHeartbeats 4000000 in
theorem k_X8_lives_180 {K67 : Int → Int → Int → Int → Int → Int → Int → St → Option (Int × St)} {K97 : Int → Int → Int → Int → Int → Int → Int → Int → Int → St → Option (Int × St)} {v1 : Int} {v2 : Int} {v3 : Int} {v4 : Int} {v5 : Int} {v6 : Int} {v7 : Int} {v9 : Int} {vs0 : Int} (C : Cx cX8_lives RX8 13 (some .int) D cA adK adV A p s m args meth c) (hK67 : ∀ (v1 : Int) (v2 : Int) (v3 : Int) (v4 : Int) (v5 : Int) (v6 : Int) (v7 : Int) (σ : St) (H : Heap) (locs : List Loc) (ls : Array Slot) , At D cA ad kM 31 R A s σ H locs → lv_has ls 13 [(0, .ref (ad 0)), (1, .int (zI v1)), (2, .int (zI v2)), (3, .int (zI v3)), (4, .int (zI v4)), (5, .int (zI v5)), (6, .int (zI v6)), (7, .int (zI v7))] → K67 v1 v2 v3 v4 v5 v6 v7 σ = some res → W p l e (rmU 2 51) s m args below meth c H locs 0 0 (MQ below (QI D cA ad kM 31 R A res) args s 0 0 A) (F0 m 67 ls [])) (hK97 : ∀ (v1 : Int) (v2 : Int) (v3 : Int) (v4 : Int) (v5 : Int) (v6 : Int) (v7 : Int) (v8 : Int) (v9 : Int) (σ : St) (H : Heap) (locs : List Loc) (ls : Array Slot) , At D cA ad kM 31 R A s σ H locs → lv_has ls 13 [(0, .ref (ad 0)), (1, .int (zI v1)), (2, .int (zI v2)), (3, .int (zI v3)), (4, .int (zI v4)), (5, .int (zI v5)), (6, .int (zI v6)), (7, .int (zI v7)), (8, .int (zI v8)), (9, .int (zI v9))] → K97 v1 v2 v3 v4 v5 v6 v7 v8 v9 σ = some res → W p l e (rmU 2 51) s m args below meth c H locs 0 0 (MQ below (QI D cA ad kM 31 R A res) args s 0 0 A) (F0 m 97 ls [])) {σ : St} {H : Heap} {locs : List Loc} {ls : Array Slot}  (hw : At D cA ad kM 31 R A s σ H locs) (hl : lv_has ls 13 [(0, .ref (ad 0)), (1, .int (zI v1)), (2, .int (zI v2)), (3, .int (zI v3)), (4, .int (zI v4)), (5, .int (zI v5)), (6, .int (zI v6)), (7, .int (zI v7)), (9, .int (zI v9))]) (h : p_X8_lives_180 K67 K97 v1 v2 v3 v4 v5 v6 v7 v9 vs0 σ = some res) : W p l e (rmU 2 51) s m args below meth c H locs 0 0 (MQ below (QI D cA ad kM 31 R A res) args s 0 0 A) (F0 m 180 ls [.int (zI vs0)]) := by
  have h := h
  unfold p_X8_lives_180 at h
  refine y_istore (lv' := [(8, .int (zI vs0)), (0, .ref (ad 0)), (1, .int (zI v1)), (2, .int (zI v2)), (3, .int (zI v3)), (4, .int (zI v4)), (5, .int (zI v5)), (6, .int (zI v6)), (7, .int (zI v7)), (9, .int (zI v9))]) C dX8_lives_180 hl (by decide) rfl (fun ls hl => ?_)
  exact k_X8_lives_182 C hK67 hK97  hw (lv_sub hl [1, 2, 3, 4, 5, 6, 7, 8, 0, 9] rfl) h
set_option maxRecDepth 100000 in
set_option maxHeartbeats 4000000 in
theorem k_X8_lives_161 {K67 : Int → Int → Int → Int → Int → Int → Int → St → Option (Int × St)} {K97 : Int → Int → Int → Int → Int → Int → Int → Int → Int → St → Option (Int × St)} {v1 : Int} {v2 : Int} {v3 : Int} {v4 : Int} {v5 : Int} {v7 : Int} {v8 : Int} {v9 : Int} {v12 : Int} {vs0 : Int} {vs1 : Int} (C : Cx cX8_lives RX8 13 (some .int) D cA adK adV A p s m args meth c) (hK67 : ∀ (v1 : Int) (v2 : Int) (v3 : Int) (v4 : Int) (v5 : Int) (v6 : Int) (v7 : Int) (σ : St) (H : Heap) (locs : List Loc) (ls : Array Slot) , At D cA ad kM 31 R A s σ H locs → lv_has ls 13 [(0, .ref (ad 0)), (1, .int (zI v1)), (2, .int (zI v2)), (3, .int (zI v3)), (4, .int (zI v4)), (5, .int (zI v5)), (6, .int (zI v6)), (7, .int (zI v7))] → K67 v1 v2 v3 v4 v5 v6 v7 σ = some res → W p l e (rmU 2 51) s m args below meth c H locs 0 0 (MQ below (QI D cA ad kM 31 R A res) args s 0 0 A) (F0 m 67 ls [])) (hK97 : ∀ (v1 : Int) (v2 : Int) (v3 : Int) (v4 : Int) (v5 : Int) (v6 : Int) (v7 : Int) (v8 : Int) (v9 : Int) (σ : St) (H : Heap) (locs : List Loc) (ls : Array Slot) , At D cA ad kM 31 R A s σ H locs → lv_has ls 13 [(0, .ref (ad 0)), (1, .int (zI v1)), (2, .int (zI v2)), (3, .int (zI v3)), (4, .int (zI v4)), (5, .int (zI v5)), (6, .int (zI v6)), (7, .int (zI v7)), (8, .int (zI v8)), (9, .int (zI v9))] → K97 v1 v2 v3 v4 v5 v6 v7 v8 v9 σ = some res → W p l e (rmU 2 51) s m args below meth c H locs 0 0 (MQ below (QI D cA ad kM 31 R A res) args s 0 0 A) (F0 m 97 ls [])) {σ : St} {H : Heap} {locs : List Loc} {ls : Array Slot}  (hw : At D cA ad kM 31 R A s σ H locs) (hl : lv_has ls 13 [(0, .ref (ad 0)), (1, .int (zI v1)), (2, .int (zI v2)), (3, .int (zI v3)), (4, .int (zI v4)), (5, .int (zI v5)), (7, .int (zI v7)), (8, .int (zI v8)), (9, .int (zI v9)), (12, .int (zI v12))]) (h : p_X8_lives_161 K67 K97 v1 v2 v3 v4 v5 v7 v8 v9 v12 vs0 vs1 σ = some res) : W p l e (rmU 2 51) s m args below meth c H locs 0 0 (MQ below (QI D cA ad kM 31 R A res) args s 0 0 A) (F0 m 161 ls [.int (zI vs1), .int (zI vs0)]) := by
  have h := h
  unfold p_X8_lives_161 at h
  refine y_iadd C dX8_lives_161 ?_
  refine y_istore (lv' := [(6, .int (zI (vs0 + vs1))), (0, .ref (ad 0)), (1, .int (zI v1)), (2, .int (zI v2)), (3, .int (zI v3)), (4, .int (zI v4)), (5, .int (zI v5)), (7, .int (zI v7)), (8, .int (zI v8)), (9, .int (zI v9)), (12, .int (zI v12))]) C dX8_lives_162 hl (by decide) rfl (fun ls hl => ?_)
  refine y_iload C dX8_lives_164 (lv_at hl 10 rfl) ?_
  refine y_if_eq (tgt := 178) C (a' := zm v12) rfl dX8_lives_166 (by decide) (fun hc => ?_) (fun hc => ?_)
  · rw [if_pos hc] at h
    refine y_iload C dX8_lives_178 (lv_at hl 8 rfl) ?_
    exact k_X8_lives_180 C hK67 hK97  hw (lv_sub hl [1, 2, 3, 4, 5, 6, 0, 7, 9] rfl) h
  · rw [if_neg hc] at h
    refine y_aload_n C dX8_lives_169 (lv_at hl 1 rfl) ?_
    refine y_iload C dX8_lives_170 (lv_at hl 8 rfl) ?_
    obtain ⟨x172, hc172, h⟩ := bd_some h
    refine y_ci (rest := []) hw (y_rV C hw km_0 (by decide) rfl rfl (c_X8_more  hc172) mi_X8_more wd_1196 wd_1198 ws_49 rfl ⟨by decide, by decide⟩ hl rfl (Nat.le_of_ble_eq_true rfl) dX8_lives_172) (fun H locs hw => ?_)
    refine y_goto (tgt := 180) C dX8_lives_175 (by decide) ?_
    exact k_X8_lives_180 C hK67 hK97  hw (lv_sub hl [1, 2, 3, 4, 5, 6, 0, 7, 9] rfl) h
set_option maxRecDepth 100000 in
set_option maxHeartbeats 4000000 in
theorem k_X8_lives_97b {K67 : Int → Int → Int → Int → Int → Int → Int → St → Option (Int × St)} {K97 : Int → Int → Int → Int → Int → Int → Int → Int → Int → St → Option (Int × St)} {v1 : Int} {v2 : Int} {v3 : Int} {v4 : Int} {v5 : Int} {v6 : Int} {v7 : Int} {v8 : Int} {v9 : Int} (C : Cx cX8_lives RX8 13 (some .int) D cA adK adV A p s m args meth c) (hK67 : ∀ (v1 : Int) (v2 : Int) (v3 : Int) (v4 : Int) (v5 : Int) (v6 : Int) (v7 : Int) (σ : St) (H : Heap) (locs : List Loc) (ls : Array Slot) , At D cA ad kM 31 R A s σ H locs → lv_has ls 13 [(0, .ref (ad 0)), (1, .int (zI v1)), (2, .int (zI v2)), (3, .int (zI v3)), (4, .int (zI v4)), (5, .int (zI v5)), (6, .int (zI v6)), (7, .int (zI v7))] → K67 v1 v2 v3 v4 v5 v6 v7 σ = some res → W p l e (rmU 2 51) s m args below meth c H locs 0 0 (MQ below (QI D cA ad kM 31 R A res) args s 0 0 A) (F0 m 67 ls [])) (hK97 : ∀ (v1 : Int) (v2 : Int) (v3 : Int) (v4 : Int) (v5 : Int) (v6 : Int) (v7 : Int) (v8 : Int) (v9 : Int) (σ : St) (H : Heap) (locs : List Loc) (ls : Array Slot) , At D cA ad kM 31 R A s σ H locs → lv_has ls 13 [(0, .ref (ad 0)), (1, .int (zI v1)), (2, .int (zI v2)), (3, .int (zI v3)), (4, .int (zI v4)), (5, .int (zI v5)), (6, .int (zI v6)), (7, .int (zI v7)), (8, .int (zI v8)), (9, .int (zI v9))] → K97 v1 v2 v3 v4 v5 v6 v7 v8 v9 σ = some res → W p l e (rmU 2 51) s m args below meth c H locs 0 0 (MQ below (QI D cA ad kM 31 R A res) args s 0 0 A) (F0 m 97 ls [])) {σ : St} {H : Heap} {locs : List Loc} {ls : Array Slot}  (hw : At D cA ad kM 31 R A s σ H locs) (hl : lv_has ls 13 [(0, .ref (ad 0)), (1, .int (zI v1)), (2, .int (zI v2)), (3, .int (zI v3)), (4, .int (zI v4)), (5, .int (zI v5)), (6, .int (zI v6)), (7, .int (zI v7)), (8, .int (zI v8)), (9, .int (zI v9))]) (h : p_X8_lives_97b K67 K97 v1 v2 v3 v4 v5 v6 v7 v8 v9 σ = some res) : W p l e (rmU 2 51) s m args below meth c H locs 0 0 (MQ below (QI D cA ad kM 31 R A res) args s 0 0 A) (F0 m 97 ls []) := by
  have h := h
  unfold p_X8_lives_97b at h
  refine y_iload C dX8_lives_97 (lv_at hl 9 rfl) ?_
  refine y_bipush C dX8_lives_99 (by decide) ?_
  refine y_icmp_ge (tgt := 188) C (a' := zm v9) (b' := 12) rfl (by decide) dX8_lives_101 (by decide) (fun hc => ?_) (fun hc => ?_)
  · rw [if_pos hc] at h
    refine y_aload_n C dX8_lives_188 (lv_at hl 0 rfl) ?_
    refine y_iload_n C dX8_lives_189 (lv_at hl 2 rfl) ?_
    refine y_iload C dX8_lives_190 (lv_at hl 5 rfl) ?_
    refine y_iload C dX8_lives_192 (lv_at hl 8 rfl) ?_
    obtain ⟨x194, hc194, h⟩ := bd_some h
    refine y_ci (rest := []) hw (y_rV C hw km_0 (by decide) rfl rfl (c_X8_nextOf  hc194) mi_X8_nextOf wd_1113 wd_1115 ws_35 rfl ⟨by decide, by decide⟩ hl rfl (Nat.le_of_ble_eq_true rfl) dX8_lives_194) (fun H locs hw => ?_)
    refine y_istore (lv' := [(5, .int (zI x194.1)), (0, .ref (ad 0)), (1, .int (zI v1)), (2, .int (zI v2)), (3, .int (zI v3)), (4, .int (zI v4)), (6, .int (zI v6)), (7, .int (zI v7)), (8, .int (zI v8)), (9, .int (zI v9))]) C dX8_lives_197 hl (by decide) rfl (fun ls hl => ?_)
    refine y_iinc (lv' := [(7, .int (zI (v7 + 1))), (5, .int (zI x194.1)), (0, .ref (ad 0)), (1, .int (zI v1)), (2, .int (zI v2)), (3, .int (zI v3)), (4, .int (zI v4)), (6, .int (zI v6)), (8, .int (zI v8)), (9, .int (zI v9))]) C dX8_lives_199 hl (k := 7) rfl (by decide) rfl (fun ls hl => ?_)
    refine y_goto (tgt := 67) C dX8_lives_202 (by decide) ?_
    exact hK67 _ _ _ _ _ _ _ _ _ _ _  hw (lv_sub hl [2, 3, 4, 5, 6, 1, 7, 0] rfl) h
  · rw [if_neg hc] at h
    refine y_aload_n C dX8_lives_104 (lv_at hl 0 rfl) ?_
    refine y_iload_n C dX8_lives_105 (lv_at hl 1 rfl) ?_
    obtain ⟨x106, hc106, h⟩ := bd_some h
    refine y_ci (rest := []) hw (y_rV C hw km_0 (by decide) rfl rfl (c_X8_drawScrape  hc106) mi_X8_drawScrape wd_1343 wd_1345 ws_64 rfl ⟨by decide, by decide⟩ hl rfl (Nat.le_of_ble_eq_true rfl) dX8_lives_106) (fun H locs hw => ?_)
    refine y_istore (lv' := [(10, .int (zI x106.1)), (0, .ref (ad 0)), (1, .int (zI v1)), (2, .int (zI v2)), (3, .int (zI v3)), (4, .int (zI v4)), (5, .int (zI v5)), (6, .int (zI v6)), (7, .int (zI v7)), (8, .int (zI v8)), (9, .int (zI v9))]) C dX8_lives_109 hl (by decide) rfl (fun ls hl => ?_)
    refine y_iload C dX8_lives_111 (lv_at hl 0 rfl) ?_
    refine y_if_lt (tgt := 182) C (a' := zm x106.1) rfl dX8_lives_113 (by decide) (fun hc => ?_) (fun hc => ?_)
    · rw [if_pos hc] at h
      exact k_X8_lives_182 C hK67 hK97  hw (lv_sub hl [1, 2, 3, 4, 5, 6, 7, 8, 9, 10] rfl) h
    · rw [if_neg hc] at h
      refine y_aload_n C dX8_lives_116 (lv_at hl 1 rfl) ?_
      refine g8 C hw km_0 9 (by decide) wd_880 rfl dX8_lives_117 ?_
      refine y_bipush C dX8_lives_120 (by decide) ?_
      refine y_iload_n C dX8_lives_122 (lv_at hl 2 rfl) ?_
      refine y_imul C dX8_lives_123 ?_
      refine y_iload C dX8_lives_124 (lv_at hl 0 rfl) ?_
      refine y_iadd C dX8_lives_126 ?_
      obtain ⟨hg127, h⟩ := gd_some h
      refine y_iald C hw km_9 (i' := zm ((8 * v1) + x106.1)) rfl hg127 dX8_lives_127 ?_
      refine y_istore (lv' := [(11, .int (zI (x106.2 9 (zm ((8 * v1) + x106.1))))), (10, .int (zI x106.1)), (0, .ref (ad 0)), (1, .int (zI v1)), (2, .int (zI v2)), (3, .int (zI v3)), (4, .int (zI v4)), (5, .int (zI v5)), (6, .int (zI v6)), (7, .int (zI v7)), (8, .int (zI v8)), (9, .int (zI v9))]) C dX8_lives_128 hl (by decide) rfl (fun ls hl => ?_)
      refine y_aload_n C dX8_lives_130 (lv_at hl 2 rfl) ?_
      refine y_iload_n C dX8_lives_131 (lv_at hl 5 rfl) ?_
      refine y_iload C dX8_lives_132 (lv_at hl 7 rfl) ?_
      refine y_iload C dX8_lives_134 (lv_at hl 11 rfl) ?_
      refine y_iload C dX8_lives_136 (lv_at hl 0 rfl) ?_
      obtain ⟨x138, hc138, h⟩ := bd_some h
      refine y_ci (rest := []) hw (y_rV C hw km_0 (by decide) rfl rfl (c_X8_asksBy  hc138) mi_X8_asksBy wd_1188 wd_1190 ws_47 rfl ⟨by decide, by decide⟩ hl rfl (Nat.le_of_ble_eq_true rfl) dX8_lives_138) (fun H locs hw => ?_)
      refine y_istore (lv' := [(12, .int (zI x138.1)), (11, .int (zI (x106.2 9 (zm ((8 * v1) + x106.1))))), (10, .int (zI x106.1)), (0, .ref (ad 0)), (1, .int (zI v1)), (2, .int (zI v2)), (3, .int (zI v3)), (4, .int (zI v4)), (5, .int (zI v5)), (6, .int (zI v6)), (7, .int (zI v7)), (8, .int (zI v8)), (9, .int (zI v9))]) C dX8_lives_141 hl (by decide) rfl (fun ls hl => ?_)
      refine y_iload C dX8_lives_143 (lv_at hl 9 rfl) ?_
      refine y_iload C dX8_lives_145 (lv_at hl 0 rfl) ?_
      refine y_if_eq (tgt := 159) C (a' := zm x138.1) rfl dX8_lives_147 (by decide) (fun hc => ?_) (fun hc => ?_)
      · rw [if_pos hc] at h
        refine y_iload C dX8_lives_159 (lv_at hl 1 rfl) ?_
        exact k_X8_lives_161 C hK67 hK97  hw (lv_sub hl [3, 4, 5, 6, 7, 8, 10, 11, 12, 0] rfl) h
      · rw [if_neg hc] at h
        refine y_aload_n C dX8_lives_150 (lv_at hl 3 rfl) ?_
        refine y_iload C dX8_lives_151 (lv_at hl 1 rfl) ?_
        obtain ⟨x153, hc153, h⟩ := bd_some h
        refine y_ci (rest := [.int (zI v6)]) hw (y_rV C hw km_0 (by decide) rfl rfl (c_X8_bears  hc153) mi_X8_bears wd_1192 wd_1194 ws_48 rfl ⟨by decide, by decide⟩ hl rfl (Nat.le_of_ble_eq_true rfl) dX8_lives_153) (fun H locs hw => ?_)
        refine y_goto (tgt := 161) C dX8_lives_156 (by decide) ?_
        exact k_X8_lives_161 C hK67 hK97  hw (lv_sub hl [3, 4, 5, 6, 7, 8, 10, 11, 12, 0] rfl) h
set_option maxRecDepth 100000 in
theorem k_X8_lives_97 {K67 : Int → Int → Int → Int → Int → Int → Int → St → Option (Int × St)} (C : Cx cX8_lives RX8 13 (some .int) D cA adK adV A p s m args meth c) (hK67 : ∀ (v1 : Int) (v2 : Int) (v3 : Int) (v4 : Int) (v5 : Int) (v6 : Int) (v7 : Int) (σ : St) (H : Heap) (locs : List Loc) (ls : Array Slot) , At D cA ad kM 31 R A s σ H locs → lv_has ls 13 [(0, .ref (ad 0)), (1, .int (zI v1)), (2, .int (zI v2)), (3, .int (zI v3)), (4, .int (zI v4)), (5, .int (zI v5)), (6, .int (zI v6)), (7, .int (zI v7))] → K67 v1 v2 v3 v4 v5 v6 v7 σ = some res → W p l e (rmU 2 51) s m args below meth c H locs 0 0 (MQ below (QI D cA ad kM 31 R A res) args s 0 0 A) (F0 m 67 ls [])) : ∀ (n : Nat) (v1 : Int) (v2 : Int) (v3 : Int) (v4 : Int) (v5 : Int) (v6 : Int) (v7 : Int) (v8 : Int) (v9 : Int) (σ : St) (H : Heap) (locs : List Loc) (ls : Array Slot) , At D cA ad kM 31 R A s σ H locs → lv_has ls 13 [(0, .ref (ad 0)), (1, .int (zI v1)), (2, .int (zI v2)), (3, .int (zI v3)), (4, .int (zI v4)), (5, .int (zI v5)), (6, .int (zI v6)), (7, .int (zI v7)), (8, .int (zI v8)), (9, .int (zI v9))] → p_X8_lives_97 K67 n v1 v2 v3 v4 v5 v6 v7 v8 v9 σ = some res → W p l e (rmU 2 51) s m args below meth c H locs 0 0 (MQ below (QI D cA ad kM 31 R A res) args s 0 0 A) (F0 m 97 ls []) := by
  intro n
  induction n with
  | zero =>
    intro v1 v2 v3 v4 v5 v6 v7 v8 v9 σ H locs ls  hw hl h
    have h : none = some res := h
    cases h
  | succ n ih =>
    intro v1 v2 v3 v4 v5 v6 v7 v8 v9 σ H locs ls  hw hl h
    exact k_X8_lives_97b C hK67 ih  hw hl h
set_option maxRecDepth 100000 in
set_option maxHeartbeats 4000000 in
theorem k_X8_lives_67b {K67 : Int → Int → Int → Int → Int → Int → Int → St → Option (Int × St)} {v1 : Int} {v2 : Int} {v3 : Int} {v4 : Int} {v5 : Int} {v6 : Int} {v7 : Int} (C : Cx cX8_lives RX8 13 (some .int) D cA adK adV A p s m args meth c)  (hK67 : ∀ (v1 : Int) (v2 : Int) (v3 : Int) (v4 : Int) (v5 : Int) (v6 : Int) (v7 : Int) (σ : St) (H : Heap) (locs : List Loc) (ls : Array Slot) , At D cA ad kM 31 R A s σ H locs → lv_has ls 13 [(0, .ref (ad 0)), (1, .int (zI v1)), (2, .int (zI v2)), (3, .int (zI v3)), (4, .int (zI v4)), (5, .int (zI v5)), (6, .int (zI v6)), (7, .int (zI v7))] → K67 v1 v2 v3 v4 v5 v6 v7 σ = some res → W p l e (rmU 2 51) s m args below meth c H locs 0 0 (MQ below (QI D cA ad kM 31 R A res) args s 0 0 A) (F0 m 67 ls [])) {σ : St} {H : Heap} {locs : List Loc} {ls : Array Slot}  (hw : At D cA ad kM 31 R A s σ H locs) (hl : lv_has ls 13 [(0, .ref (ad 0)), (1, .int (zI v1)), (2, .int (zI v2)), (3, .int (zI v3)), (4, .int (zI v4)), (5, .int (zI v5)), (6, .int (zI v6)), (7, .int (zI v7))]) (h : p_X8_lives_67b K67 v1 v2 v3 v4 v5 v6 v7 σ = some res) : W p l e (rmU 2 51) s m args below meth c H locs 0 0 (MQ below (QI D cA ad kM 31 R A res) args s 0 0 A) (F0 m 67 ls []) := by
  have h := h
  unfold p_X8_lives_67b at h
  refine y_iload C dX8_lives_67 (lv_at hl 7 rfl) ?_
  refine y_iload C dX8_lives_69 (lv_at hl 4 rfl) ?_
  refine y_icmp_ge (tgt := 205) C (a' := zm v7) (b' := zm v4) rfl rfl dX8_lives_71 (by decide) (fun hc => ?_) (fun hc => ?_)
  · rw [if_pos hc] at h
    refine y_iload C dX8_lives_205 (lv_at hl 6 rfl) ?_
    exact y_iret C hw h dX8_lives_207
  · rw [if_neg hc] at h
    refine y_iload C dX8_lives_74 (lv_at hl 6 rfl) ?_
    refine y_aload_n C dX8_lives_76 (lv_at hl 0 rfl) ?_
    refine g8 C hw km_0 1 (by decide) wd_872 rfl dX8_lives_77 ?_
    refine y_bipush C dX8_lives_80 (by decide) ?_
    refine y_iload_n C dX8_lives_82 (lv_at hl 2 rfl) ?_
    refine y_imul C dX8_lives_83 ?_
    refine y_iload C dX8_lives_84 (lv_at hl 5 rfl) ?_
    refine y_iadd C dX8_lives_86 ?_
    obtain ⟨hg87, h⟩ := gd_some h
    refine y_iald C hw km_2 (i' := zm ((10 * v2) + v5)) rfl hg87 dX8_lives_87 ?_
    refine y_iadd C dX8_lives_88 ?_
    refine y_istore (lv' := [(6, .int (zI (v6 + (σ 2 (zm ((10 * v2) + v5)))))), (0, .ref (ad 0)), (1, .int (zI v1)), (2, .int (zI v2)), (3, .int (zI v3)), (4, .int (zI v4)), (5, .int (zI v5)), (7, .int (zI v7))]) C dX8_lives_89 hl (by decide) rfl (fun ls hl => ?_)
    refine y_iconst C dX8_lives_91 ?_
    refine y_istore (lv' := [(8, .int (zI 0)), (6, .int (zI (v6 + (σ 2 (zm ((10 * v2) + v5)))))), (0, .ref (ad 0)), (1, .int (zI v1)), (2, .int (zI v2)), (3, .int (zI v3)), (4, .int (zI v4)), (5, .int (zI v5)), (7, .int (zI v7))]) C dX8_lives_92 hl (by decide) rfl (fun ls hl => ?_)
    refine y_iconst C dX8_lives_94 ?_
    refine y_istore (lv' := [(9, .int (zI 0)), (8, .int (zI 0)), (6, .int (zI (v6 + (σ 2 (zm ((10 * v2) + v5)))))), (0, .ref (ad 0)), (1, .int (zI v1)), (2, .int (zI v2)), (3, .int (zI v3)), (4, .int (zI v4)), (5, .int (zI v5)), (7, .int (zI v7))]) C dX8_lives_95 hl (by decide) rfl (fun ls hl => ?_)
    exact k_X8_lives_97 C hK67 FU _ _ _ _ _ _ _ _ _ _ _ _ _  hw (lv_sub hl [3, 4, 5, 6, 7, 8, 2, 9, 1, 0] rfl) h
set_option maxRecDepth 100000 in
theorem k_X8_lives_67  (C : Cx cX8_lives RX8 13 (some .int) D cA adK adV A p s m args meth c)  : ∀ (n : Nat) (v1 : Int) (v2 : Int) (v3 : Int) (v4 : Int) (v5 : Int) (v6 : Int) (v7 : Int) (σ : St) (H : Heap) (locs : List Loc) (ls : Array Slot) , At D cA ad kM 31 R A s σ H locs → lv_has ls 13 [(0, .ref (ad 0)), (1, .int (zI v1)), (2, .int (zI v2)), (3, .int (zI v3)), (4, .int (zI v4)), (5, .int (zI v5)), (6, .int (zI v6)), (7, .int (zI v7))] → p_X8_lives_67  n v1 v2 v3 v4 v5 v6 v7 σ = some res → W p l e (rmU 2 51) s m args below meth c H locs 0 0 (MQ below (QI D cA ad kM 31 R A res) args s 0 0 A) (F0 m 67 ls []) := by
  intro n
  induction n with
  | zero =>
    intro v1 v2 v3 v4 v5 v6 v7 σ H locs ls  hw hl h
    have h : none = some res := h
    cases h
  | succ n ih =>
    intro v1 v2 v3 v4 v5 v6 v7 σ H locs ls  hw hl h
    exact k_X8_lives_67b C  ih  hw hl h
set_option maxRecDepth 100000 in
set_option maxHeartbeats 4000000 in
theorem k_X8_lives_0  {v1 : Int} {v2 : Int} {v3 : Int} {v4 : Int} (C : Cx cX8_lives RX8 13 (some .int) D cA adK adV A p s m args meth c)  {σ : St} {H : Heap} {locs : List Loc} {ls : Array Slot}  (hw : At D cA ad kM 31 R A s σ H locs) (hl : lv_has ls 13 [(0, .ref (ad 0)), (1, .int (zI v1)), (2, .int (zI v2)), (3, .int (zI v3)), (4, .int (zI v4))]) (h : p_X8_lives  v1 v2 v3 v4 σ = some res) : W p l e (rmU 2 51) s m args below meth c H locs 0 0 (MQ below (QI D cA ad kM 31 R A res) args s 0 0 A) (F0 m 0 ls []) := by
  have h := h
  unfold p_X8_lives at h
  refine y_aload_n C dX8_lives_0 (lv_at hl 0 rfl) ?_
  refine y_iload_n C dX8_lives_1 (lv_at hl 1 rfl) ?_
  obtain ⟨x2, hc2, h⟩ := bd_some h
  refine y_ci (rest := []) hw (y_rV C hw km_0 (by decide) rfl rfl (c_X8_isSort  hc2) mi_X8_isSort wd_1138 wd_1140 ws_39 rfl ⟨by decide, by decide⟩ hl rfl (Nat.le_of_ble_eq_true rfl) dX8_lives_2) (fun H locs hw => ?_)
  refine y_if_eq (tgt := 24) C (a' := zm x2.1) rfl dX8_lives_5 (by decide) (fun hc => ?_) (fun hc => ?_)
  · rw [if_pos hc] at h
    refine y_ldc C (z := (-1000000001)) wd_1037 (by decide) dX8_lives_24 ?_
    exact y_iret C hw h dX8_lives_26
  · rw [if_neg hc] at h
    refine y_aload_n C dX8_lives_8 (lv_at hl 0 rfl) ?_
    refine y_iload_n C dX8_lives_9 (lv_at hl 2 rfl) ?_
    obtain ⟨x10, hc10, h⟩ := bd_some h
    refine y_ci (rest := []) hw (y_rV C hw km_0 (by decide) rfl rfl (c_X8_isHouse  hc10) mi_X8_isHouse wd_1096 wd_1098 ws_33 rfl ⟨by decide, by decide⟩ hl rfl (Nat.le_of_ble_eq_true rfl) dX8_lives_10) (fun H locs hw => ?_)
    refine y_if_eq (tgt := 24) C (a' := zm x10.1) rfl dX8_lives_13 (by decide) (fun hc => ?_) (fun hc => ?_)
    · rw [if_pos hc] at h
      refine y_ldc C (z := (-1000000001)) wd_1037 (by decide) dX8_lives_24 ?_
      exact y_iret C hw h dX8_lives_26
    · rw [if_neg hc] at h
      refine y_aload_n C dX8_lives_16 (lv_at hl 0 rfl) ?_
      refine y_iload_n C dX8_lives_17 (lv_at hl 3 rfl) ?_
      obtain ⟨x18, hc18, h⟩ := bd_some h
      refine y_ci (rest := []) hw (y_rV C hw km_0 (by decide) rfl rfl (c_X8_isRule  hc18) mi_X8_isRule wd_1242 wd_1244 ws_56 rfl ⟨by decide, by decide⟩ hl rfl (Nat.le_of_ble_eq_true rfl) dX8_lives_18) (fun H locs hw => ?_)
      refine y_if_ne (tgt := 27) C (a' := zm x18.1) rfl dX8_lives_21 (by decide) (fun hc => ?_) (fun hc => ?_)
      · rw [if_pos hc] at h
        refine y_ldc C (z := (-1000000001)) wd_1037 (by decide) dX8_lives_24 ?_
        exact y_iret C hw h dX8_lives_26
      · rw [if_neg hc] at h
        refine y_iload C dX8_lives_27 (lv_at hl 4 rfl) ?_
        refine y_i2l C rfl dX8_lives_29 ?_
        refine y_lconst C (z' := 1) dX8_lives_30 (by decide) ?_
        refine y_ldc2 C (z := 30) wd_1171 (by decide) dX8_lives_31 ?_
        obtain ⟨x34, hc34, h⟩ := bd_some h
        refine y_ci (rest := []) hw (y_rS C hw (c_X8_within  hc34) mi_X8_within wd_1027 wd_1028 rfl ⟨by decide, by decide⟩ hl rfl (Nat.le_of_ble_eq_true rfl) dX8_lives_34) (fun H locs hw => ?_)
        refine y_if_ne (tgt := 43) C (a' := zm x34.1) rfl dX8_lives_37 (by decide) (fun hc => ?_) (fun hc => ?_)
        · rw [if_pos hc] at h
          refine y_ldc C (z := (-1000000002)) wd_1030 (by decide) dX8_lives_40 ?_
          exact y_iret C hw h dX8_lives_42
        · rw [if_neg hc] at h
          refine y_aload_n C dX8_lives_43 (lv_at hl 0 rfl) ?_
          refine y_iload_n C dX8_lives_44 (lv_at hl 2 rfl) ?_
          obtain ⟨σ45, eσ45, h⟩ := nx_some h
          refine q8 C hw km_0 29 (by decide) wd_900 rfl rfl rfl (by decide) v2 29 rfl rfl dX8_lives_45 (fun H locs hw => ?_)
          rw [← eσ45] at hw
          refine y_aload_n C dX8_lives_48 (lv_at hl 0 rfl) ?_
          refine y_iconst C dX8_lives_49 ?_
          obtain ⟨σ50, eσ50, h⟩ := nx_some h
          refine q8 C hw km_0 32 (by decide) wd_903 rfl (zb_nar (by decide)) rfl (by decide) 0 32 rfl rfl dX8_lives_50 (fun H locs hw => ?_)
          rw [← eσ50] at hw
          refine y_aload_n C dX8_lives_53 (lv_at hl 0 rfl) ?_
          refine g8 C hw km_0 6 (by decide) wd_877 rfl dX8_lives_54 ?_
          refine y_iload_n C dX8_lives_57 (lv_at hl 2 rfl) ?_
          obtain ⟨hg58, h⟩ := gd_some h
          refine y_iald C hw km_7 (i' := zm v2) rfl hg58 dX8_lives_58 ?_
          refine y_istore (lv' := [(5, .int (zI (σ50 7 (zm v2)))), (0, .ref (ad 0)), (1, .int (zI v1)), (2, .int (zI v2)), (3, .int (zI v3)), (4, .int (zI v4))]) C dX8_lives_59 hl (by decide) rfl (fun ls hl => ?_)
          refine y_iconst C dX8_lives_61 ?_
          refine y_istore (lv' := [(6, .int (zI 0)), (5, .int (zI (σ50 7 (zm v2)))), (0, .ref (ad 0)), (1, .int (zI v1)), (2, .int (zI v2)), (3, .int (zI v3)), (4, .int (zI v4))]) C dX8_lives_62 hl (by decide) rfl (fun ls hl => ?_)
          refine y_iconst C dX8_lives_64 ?_
          refine y_istore (lv' := [(7, .int (zI 0)), (6, .int (zI 0)), (5, .int (zI (σ50 7 (zm v2)))), (0, .ref (ad 0)), (1, .int (zI v1)), (2, .int (zI v2)), (3, .int (zI v3)), (4, .int (zI v4))]) C dX8_lives_65 hl (by decide) rfl (fun ls hl => ?_)
          exact k_X8_lives_67 C  FU _ _ _ _ _ _ _ _ _ _ _  hw (lv_sub hl [3, 4, 5, 6, 7, 2, 1, 0] rfl) h
theorem c_X8_lives {l : Launch} {D : va_G} {cA : Nat → ClassId} {adK adV : Nat → Nat} {A : Nat → Prop} {ad : Int → Nat} {R : va_W} {σ : St} {res : Int × St} {v1 : Int} {v2 : Int} {v3 : Int} {v4 : Int}  (h : p_X8_lives v1 v2 v3 v4 σ = some res) : Met l yX8_lives (wsU yX8_lives cX8_lives 13 (some .int)) (rmU 2 51) (va_Pc [.ref (ad 0), .int (zI v1), .int (zI v2), .int (zI v3), .int (zI v4)] (Pr D cA adK adV ad kM 31 R A σ)) (QI D cA ad kM 31 R A res) 0 0 A :=
  y_met (own := RX8) (by decide) rfl _ (Nat.le_of_ble_eq_true rfl) (fun p e s m args below meth c ls C hl hw => k_X8_lives_0 C  hw hl h)
/-! RungHouseModel.count -/
set_option maxRecDepth 100000 in
set_option maxHeartbeats 4000000 in
theorem k_X8_count_0  {v1 : Int} (C : Cx cX8_count RX8 2 (some .int) D cA adK adV A p s m args meth c)  {σ : St} {H : Heap} {locs : List Loc} {ls : Array Slot}  (hw : At D cA ad kM 31 R A s σ H locs) (hl : lv_has ls 2 [(0, .ref (ad 0)), (1, .int (zI v1))]) (h : p_X8_count  v1 σ = some res) : W p l e (rmU 0 0) s m args below meth c H locs 0 0 (MQ below (QI D cA ad kM 31 R A res) args s 0 0 A) (F0 m 0 ls []) := by
  have h := h
  unfold p_X8_count at h
  refine y_iload_n C dX8_count_0 (lv_at hl 1 rfl) ?_
  by_cases hc0 : zm v1 = 0
  · rw [if_pos hc0] at h
    refine y_tabIn (tgt := 36) C dX8_count_1 hc0 (by decide) (by decide) rfl (by decide) ?_
    refine y_aload_n C dX8_count_36 (lv_at hl 0 rfl) ?_
    refine g8 C hw km_0 7 (by decide) wd_878 rfl dX8_count_37 ?_
    exact y_iret C hw h dX8_count_40
  · rw [if_neg hc0] at h
    by_cases hc1 : zm v1 = 1
    · rw [if_pos hc1] at h
      refine y_tabIn (tgt := 41) C dX8_count_1 hc1 (by decide) (by decide) rfl (by decide) ?_
      refine y_aload_n C dX8_count_41 (lv_at hl 0 rfl) ?_
      refine g8 C hw km_0 23 (by decide) wd_894 rfl dX8_count_42 ?_
      exact y_iret C hw h dX8_count_45
    · rw [if_neg hc1] at h
      by_cases hc2 : zm v1 = 2
      · rw [if_pos hc2] at h
        refine y_tabIn (tgt := 46) C dX8_count_1 hc2 (by decide) (by decide) rfl (by decide) ?_
        refine y_aload_n C dX8_count_46 (lv_at hl 0 rfl) ?_
        refine g8 C hw km_0 33 (by decide) wd_904 rfl dX8_count_47 ?_
        exact y_iret C hw h dX8_count_50
      · rw [if_neg hc2] at h
        by_cases hc3 : zm v1 = 3
        · rw [if_pos hc3] at h
          refine y_tabIn (tgt := 51) C dX8_count_1 hc3 (by decide) (by decide) rfl (by decide) ?_
          refine y_aload_n C dX8_count_51 (lv_at hl 0 rfl) ?_
          refine g8 C hw km_0 42 (by decide) wd_913 rfl dX8_count_52 ?_
          exact y_iret C hw h dX8_count_55
        · rw [if_neg hc3] at h
          by_cases hc4 : zm v1 = 4
          · rw [if_pos hc4] at h
            refine y_tabIn (tgt := 56) C dX8_count_1 hc4 (by decide) (by decide) rfl (by decide) ?_
            refine y_aload_n C dX8_count_56 (lv_at hl 0 rfl) ?_
            refine g8 C hw km_0 14 (by decide) wd_885 rfl dX8_count_57 ?_
            exact y_iret C hw h dX8_count_60
          · rw [if_neg hc4] at h
            refine y_tabOut (tgt := 61) C dX8_count_1 (by omega) (by decide) ?_
            refine y_ldc C (z := (-1000000002)) wd_1030 (by decide) dX8_count_61 ?_
            exact y_iret C hw h dX8_count_63
theorem c_X8_count {l : Launch} {D : va_G} {cA : Nat → ClassId} {adK adV : Nat → Nat} {A : Nat → Prop} {ad : Int → Nat} {R : va_W} {σ : St} {res : Int × St} {v1 : Int}  (h : p_X8_count v1 σ = some res) : Met l yX8_count (wsU yX8_count cX8_count 2 (some .int)) (rmU 0 0) (va_Pc [.ref (ad 0), .int (zI v1)] (Pr D cA adK adV ad kM 31 R A σ)) (QI D cA ad kM 31 R A res) 0 0 A :=
  y_met (own := RX8) (by decide) rfl _ (Nat.le_of_ble_eq_true rfl) (fun p e s m args below meth c ls C hl hw => k_X8_count_0 C  hw hl h)
/-! RungHouseModel.keep -/
set_option maxRecDepth 100000 in
set_option maxHeartbeats 4000000 in
theorem k_X8_keep_126b {K126 : Int → Int → Int → St → Option (Int × St)} {v1 : Int} {v2 : Int} {v3 : Int} (C : Cx cX8_keep RX8 4 (some .int) D cA adK adV A p s m args meth c)  (hK126 : ∀ (v1 : Int) (v2 : Int) (v3 : Int) (σ : St) (H : Heap) (locs : List Loc) (ls : Array Slot) , At D cA ad kM 31 R A s σ H locs → lv_has ls 4 [(0, .ref (ad 0)), (1, .int (zI v1)), (2, .int (zI v2)), (3, .int (zI v3))] → K126 v1 v2 v3 σ = some res → W p l e (rmU 1 25) s m args below meth c H locs 0 0 (MQ below (QI D cA ad kM 31 R A res) args s 0 0 A) (F0 m 126 ls [])) {σ : St} {H : Heap} {locs : List Loc} {ls : Array Slot}  (hw : At D cA ad kM 31 R A s σ H locs) (hl : lv_has ls 4 [(0, .ref (ad 0)), (1, .int (zI v1)), (2, .int (zI v2)), (3, .int (zI v3))]) (h : p_X8_keep_126b K126 v1 v2 v3 σ = some res) : W p l e (rmU 1 25) s m args below meth c H locs 0 0 (MQ below (QI D cA ad kM 31 R A res) args s 0 0 A) (F0 m 126 ls []) := by
  have h := h
  unfold p_X8_keep_126b at h
  refine y_iload_n C dX8_keep_126 (lv_at hl 3 rfl) ?_
  refine y_bipush C dX8_keep_127 (by decide) ?_
  refine y_icmp_ge (tgt := 172) C (a' := zm v3) (b' := 8) rfl (by decide) dX8_keep_129 (by decide) (fun hc => ?_) (fun hc => ?_)
  · rw [if_pos hc] at h
    refine y_aload_n C dX8_keep_172 (lv_at hl 0 rfl) ?_
    refine g8 C hw km_0 49 (by decide) wd_920 rfl dX8_keep_173 ?_
    refine y_iload_n C dX8_keep_176 (lv_at hl 1 rfl) ?_
    refine y_iconst C dX8_keep_177 ?_
    obtain ⟨hg178, h⟩ := gd_some h
    obtain ⟨σ178, eσ178, h⟩ := nx_some h
    refine y_zast C hw km_30 (i' := zm v1) rfl hg178 (by decide) dX8_keep_178 (fun H locs hw => ?_)
    rw [← eσ178] at hw
    refine y_iconst C dX8_keep_179 ?_
    exact y_iret C hw h dX8_keep_180
  · rw [if_neg hc] at h
    refine y_aload_n C dX8_keep_132 (lv_at hl 0 rfl) ?_
    refine g8 C hw km_0 48 (by decide) wd_919 rfl dX8_keep_133 ?_
    refine y_iload_n C dX8_keep_136 (lv_at hl 2 rfl) ?_
    refine y_bipush C dX8_keep_137 (by decide) ?_
    refine y_iadd C dX8_keep_139 ?_
    refine y_iload_n C dX8_keep_140 (lv_at hl 3 rfl) ?_
    refine y_iadd C dX8_keep_141 ?_
    refine y_aload_n C dX8_keep_142 (lv_at hl 0 rfl) ?_
    refine g8 C hw km_0 43 (by decide) wd_914 rfl dX8_keep_143 ?_
    refine y_iload_n C dX8_keep_146 (lv_at hl 3 rfl) ?_
    obtain ⟨hg147, h⟩ := gd_some h
    refine y_iald C hw km_25 (i' := zm v3) rfl hg147 dX8_keep_147 ?_
    obtain ⟨hg148, h⟩ := gd_some h
    obtain ⟨σ148, eσ148, h⟩ := nx_some h
    refine y_iast C hw km_29 (i' := zm ((v2 + 75) + v3)) rfl hg148 dX8_keep_148 (fun H locs hw => ?_)
    rw [← eσ148] at hw
    refine y_aload_n C dX8_keep_149 (lv_at hl 0 rfl) ?_
    refine g8 C hw km_0 48 (by decide) wd_919 rfl dX8_keep_150 ?_
    refine y_iload_n C dX8_keep_153 (lv_at hl 2 rfl) ?_
    refine y_bipush C dX8_keep_154 (by decide) ?_
    refine y_iadd C dX8_keep_156 ?_
    refine y_iload_n C dX8_keep_157 (lv_at hl 3 rfl) ?_
    refine y_iadd C dX8_keep_158 ?_
    refine y_aload_n C dX8_keep_159 (lv_at hl 0 rfl) ?_
    refine g8 C hw km_0 44 (by decide) wd_915 rfl dX8_keep_160 ?_
    refine y_iload_n C dX8_keep_163 (lv_at hl 3 rfl) ?_
    refine y_iald C hw km_26 (i' := zm v3) rfl hg147 dX8_keep_164 ?_
    obtain ⟨hg165, h⟩ := gd_some h
    obtain ⟨σ165, eσ165, h⟩ := nx_some h
    refine y_iast C hw km_29 (i' := zm ((v2 + 83) + v3)) rfl hg165 dX8_keep_165 (fun H locs hw => ?_)
    rw [← eσ165] at hw
    refine y_iinc (lv' := [(3, .int (zI (v3 + 1))), (0, .ref (ad 0)), (1, .int (zI v1)), (2, .int (zI v2))]) C dX8_keep_166 hl (k := 3) rfl (by decide) rfl (fun ls hl => ?_)
    refine y_goto (tgt := 126) C dX8_keep_169 (by decide) ?_
    exact hK126 _ _ _ _ _ _ _  hw (lv_sub hl [1, 2, 3, 0] rfl) h
set_option maxRecDepth 100000 in
theorem k_X8_keep_126  (C : Cx cX8_keep RX8 4 (some .int) D cA adK adV A p s m args meth c)  : ∀ (n : Nat) (v1 : Int) (v2 : Int) (v3 : Int) (σ : St) (H : Heap) (locs : List Loc) (ls : Array Slot) , At D cA ad kM 31 R A s σ H locs → lv_has ls 4 [(0, .ref (ad 0)), (1, .int (zI v1)), (2, .int (zI v2)), (3, .int (zI v3))] → p_X8_keep_126  n v1 v2 v3 σ = some res → W p l e (rmU 1 25) s m args below meth c H locs 0 0 (MQ below (QI D cA ad kM 31 R A res) args s 0 0 A) (F0 m 126 ls []) := by
  intro n
  induction n with
  | zero =>
    intro v1 v2 v3 σ H locs ls  hw hl h
    have h : none = some res := h
    cases h
  | succ n ih =>
    intro v1 v2 v3 σ H locs ls  hw hl h
    exact k_X8_keep_126b C  ih  hw hl h
set_option maxRecDepth 100000 in
set_option maxHeartbeats 4000000 in
theorem k_X8_keep_117 {K54 : Int → Int → Int → St → Option (Int × St)} {v1 : Int} {v2 : Int} {v3 : Int} {os0 : Int} {vs1 : Int} {vs2 : Int} (C : Cx cX8_keep RX8 4 (some .int) D cA adK adV A p s m args meth c) (hK54 : ∀ (v1 : Int) (v2 : Int) (v3 : Int) (σ : St) (H : Heap) (locs : List Loc) (ls : Array Slot) , At D cA ad kM 31 R A s σ H locs → lv_has ls 4 [(0, .ref (ad 0)), (1, .int (zI v1)), (2, .int (zI v2)), (3, .int (zI v3))] → K54 v1 v2 v3 σ = some res → W p l e (rmU 1 25) s m args below meth c H locs 0 0 (MQ below (QI D cA ad kM 31 R A res) args s 0 0 A) (F0 m 54 ls [])) {σ : St} {H : Heap} {locs : List Loc} {ls : Array Slot} (hos0 : kM os0 = (20, 200)) (hw : At D cA ad kM 31 R A s σ H locs) (hl : lv_has ls 4 [(0, .ref (ad 0)), (1, .int (zI v1)), (2, .int (zI v2)), (3, .int (zI v3))]) (h : p_X8_keep_117 K54 v1 v2 v3 os0 vs1 vs2 σ = some res) : W p l e (rmU 1 25) s m args below meth c H locs 0 0 (MQ below (QI D cA ad kM 31 R A res) args s 0 0 A) (F0 m 117 ls [.int (zI vs2), .int (zI vs1), .ref (ad os0)]) := by
  have h := h
  unfold p_X8_keep_117 at h
  obtain ⟨hg117, h⟩ := gd_some h
  obtain ⟨σ117, eσ117, h⟩ := nx_some h
  refine y_iast C hw hos0 (i' := zm vs1) rfl hg117 dX8_keep_117 (fun H locs hw => ?_)
  rw [← eσ117] at hw
  refine y_iinc (lv' := [(3, .int (zI (v3 + 1))), (0, .ref (ad 0)), (1, .int (zI v1)), (2, .int (zI v2))]) C dX8_keep_118 hl (k := 3) rfl (by decide) rfl (fun ls hl => ?_)
  refine y_goto (tgt := 54) C dX8_keep_121 (by decide) ?_
  exact hK54 _ _ _ _ _ _ _  hw (lv_sub hl [1, 2, 3, 0] rfl) h
set_option maxRecDepth 100000 in
set_option maxHeartbeats 4000000 in
theorem k_X8_keep_54b {K54 : Int → Int → Int → St → Option (Int × St)} {v1 : Int} {v2 : Int} {v3 : Int} (C : Cx cX8_keep RX8 4 (some .int) D cA adK adV A p s m args meth c)  (hK54 : ∀ (v1 : Int) (v2 : Int) (v3 : Int) (σ : St) (H : Heap) (locs : List Loc) (ls : Array Slot) , At D cA ad kM 31 R A s σ H locs → lv_has ls 4 [(0, .ref (ad 0)), (1, .int (zI v1)), (2, .int (zI v2)), (3, .int (zI v3))] → K54 v1 v2 v3 σ = some res → W p l e (rmU 1 25) s m args below meth c H locs 0 0 (MQ below (QI D cA ad kM 31 R A res) args s 0 0 A) (F0 m 54 ls [])) {σ : St} {H : Heap} {locs : List Loc} {ls : Array Slot}  (hw : At D cA ad kM 31 R A s σ H locs) (hl : lv_has ls 4 [(0, .ref (ad 0)), (1, .int (zI v1)), (2, .int (zI v2)), (3, .int (zI v3))]) (h : p_X8_keep_54b K54 v1 v2 v3 σ = some res) : W p l e (rmU 1 25) s m args below meth c H locs 0 0 (MQ below (QI D cA ad kM 31 R A res) args s 0 0 A) (F0 m 54 ls []) := by
  have h := h
  unfold p_X8_keep_54b at h
  refine y_iload_n C dX8_keep_54 (lv_at hl 3 rfl) ?_
  refine y_bipush C dX8_keep_55 (by decide) ?_
  refine y_icmp_ge (tgt := 124) C (a' := zm v3) (b' := 24) rfl (by decide) dX8_keep_57 (by decide) (fun hc => ?_) (fun hc => ?_)
  · rw [if_pos hc] at h
    refine y_iconst C dX8_keep_124 ?_
    refine y_istore_n (lv' := [(3, .int (zI 0)), (0, .ref (ad 0)), (1, .int (zI v1)), (2, .int (zI v2))]) C dX8_keep_125 hl (by decide) rfl (fun ls hl => ?_)
    exact k_X8_keep_126 C  FU _ _ _ _ _ _ _  hw (lv_sub hl [1, 2, 3, 0] rfl) h
  · rw [if_neg hc] at h
    refine y_aload_n C dX8_keep_60 (lv_at hl 0 rfl) ?_
    refine g8 C hw km_0 48 (by decide) wd_919 rfl dX8_keep_61 ?_
    refine y_iload_n C dX8_keep_64 (lv_at hl 2 rfl) ?_
    refine y_iconst C dX8_keep_65 ?_
    refine y_iadd C dX8_keep_66 ?_
    refine y_iload_n C dX8_keep_67 (lv_at hl 3 rfl) ?_
    refine y_iadd C dX8_keep_68 ?_
    refine y_aload_n C dX8_keep_69 (lv_at hl 0 rfl) ?_
    refine g8 C hw km_0 34 (by decide) wd_905 rfl dX8_keep_70 ?_
    refine y_iload_n C dX8_keep_73 (lv_at hl 3 rfl) ?_
    obtain ⟨hg74, h⟩ := gd_some h
    refine y_iald C hw km_18 (i' := zm v3) rfl hg74 dX8_keep_74 ?_
    obtain ⟨hg75, h⟩ := gd_some h
    obtain ⟨σ75, eσ75, h⟩ := nx_some h
    refine y_iast C hw km_29 (i' := zm ((v2 + 3) + v3)) rfl hg75 dX8_keep_75 (fun H locs hw => ?_)
    rw [← eσ75] at hw
    refine y_aload_n C dX8_keep_76 (lv_at hl 0 rfl) ?_
    refine g8 C hw km_0 48 (by decide) wd_919 rfl dX8_keep_77 ?_
    refine y_iload_n C dX8_keep_80 (lv_at hl 2 rfl) ?_
    refine y_bipush C dX8_keep_81 (by decide) ?_
    refine y_iadd C dX8_keep_83 ?_
    refine y_iload_n C dX8_keep_84 (lv_at hl 3 rfl) ?_
    refine y_iadd C dX8_keep_85 ?_
    refine y_aload_n C dX8_keep_86 (lv_at hl 0 rfl) ?_
    refine g8 C hw km_0 35 (by decide) wd_906 rfl dX8_keep_87 ?_
    refine y_iload_n C dX8_keep_90 (lv_at hl 3 rfl) ?_
    refine y_iald C hw km_19 (i' := zm v3) rfl hg74 dX8_keep_91 ?_
    obtain ⟨hg92, h⟩ := gd_some h
    obtain ⟨σ92, eσ92, h⟩ := nx_some h
    refine y_iast C hw km_29 (i' := zm ((v2 + 27) + v3)) rfl hg92 dX8_keep_92 (fun H locs hw => ?_)
    rw [← eσ92] at hw
    refine y_aload_n C dX8_keep_93 (lv_at hl 0 rfl) ?_
    refine g8 C hw km_0 48 (by decide) wd_919 rfl dX8_keep_94 ?_
    refine y_iload_n C dX8_keep_97 (lv_at hl 2 rfl) ?_
    refine y_bipush C dX8_keep_98 (by decide) ?_
    refine y_iadd C dX8_keep_100 ?_
    refine y_iload_n C dX8_keep_101 (lv_at hl 3 rfl) ?_
    refine y_iadd C dX8_keep_102 ?_
    refine y_aload_n C dX8_keep_103 (lv_at hl 0 rfl) ?_
    refine g8 C hw km_0 36 (by decide) wd_907 rfl dX8_keep_104 ?_
    refine y_iload_n C dX8_keep_107 (lv_at hl 3 rfl) ?_
    refine y_zald C hw km_20 (i' := zm v3) rfl hg74 dX8_keep_108 ?_
    refine y_if_eq (tgt := 116) C (a' := zm (σ92 20 (zm v3))) rfl dX8_keep_109 (by decide) (fun hc => ?_) (fun hc => ?_)
    · rw [if_pos hc] at h
      refine y_iconst C dX8_keep_116 ?_
      exact k_X8_keep_117 C hK54 km_29 hw hl h
    · rw [if_neg hc] at h
      refine y_iconst C dX8_keep_112 ?_
      refine y_goto (tgt := 117) C dX8_keep_113 (by decide) ?_
      exact k_X8_keep_117 C hK54 km_29 hw hl h
set_option maxRecDepth 100000 in
theorem k_X8_keep_54  (C : Cx cX8_keep RX8 4 (some .int) D cA adK adV A p s m args meth c)  : ∀ (n : Nat) (v1 : Int) (v2 : Int) (v3 : Int) (σ : St) (H : Heap) (locs : List Loc) (ls : Array Slot) , At D cA ad kM 31 R A s σ H locs → lv_has ls 4 [(0, .ref (ad 0)), (1, .int (zI v1)), (2, .int (zI v2)), (3, .int (zI v3))] → p_X8_keep_54  n v1 v2 v3 σ = some res → W p l e (rmU 1 25) s m args below meth c H locs 0 0 (MQ below (QI D cA ad kM 31 R A res) args s 0 0 A) (F0 m 54 ls []) := by
  intro n
  induction n with
  | zero =>
    intro v1 v2 v3 σ H locs ls  hw hl h
    have h : none = some res := h
    cases h
  | succ n ih =>
    intro v1 v2 v3 σ H locs ls  hw hl h
    exact k_X8_keep_54b C  ih  hw hl h
set_option maxRecDepth 100000 in
set_option maxHeartbeats 4000000 in
theorem k_X8_keep_0  {v1 : Int} (C : Cx cX8_keep RX8 4 (some .int) D cA adK adV A p s m args meth c)  {σ : St} {H : Heap} {locs : List Loc} {ls : Array Slot}  (hw : At D cA ad kM 31 R A s σ H locs) (hl : lv_has ls 4 [(0, .ref (ad 0)), (1, .int (zI v1))]) (h : p_X8_keep  v1 σ = some res) : W p l e (rmU 1 25) s m args below meth c H locs 0 0 (MQ below (QI D cA ad kM 31 R A res) args s 0 0 A) (F0 m 0 ls []) := by
  have h := h
  unfold p_X8_keep at h
  refine y_iload_n C dX8_keep_0 (lv_at hl 1 rfl) ?_
  refine y_i2l C rfl dX8_keep_1 ?_
  refine y_lconst C (z' := 0) dX8_keep_2 (by decide) ?_
  refine y_lconst C (z' := 1) dX8_keep_3 (by decide) ?_
  obtain ⟨x4, hc4, h⟩ := bd_some h
  refine y_ci (rest := []) hw (y_rS C hw (c_X8_within  hc4) mi_X8_within wd_1027 wd_1028 rfl ⟨by decide, by decide⟩ hl rfl (Nat.le_of_ble_eq_true rfl) dX8_keep_4) (fun H locs hw => ?_)
  refine y_if_ne (tgt := 13) C (a' := zm x4.1) rfl dX8_keep_7 (by decide) (fun hc => ?_) (fun hc => ?_)
  · rw [if_pos hc] at h
    refine y_ldc C (z := (-1000000001)) wd_1037 (by decide) dX8_keep_10 ?_
    exact y_iret C hw h dX8_keep_12
  · rw [if_neg hc] at h
    refine y_bipush C dX8_keep_13 (by decide) ?_
    refine y_iload_n C dX8_keep_15 (lv_at hl 1 rfl) ?_
    refine y_imul C dX8_keep_16 ?_
    refine y_istore_n (lv' := [(2, .int (zI (100 * v1))), (0, .ref (ad 0)), (1, .int (zI v1))]) C dX8_keep_17 hl (by decide) rfl (fun ls hl => ?_)
    refine y_aload_n C dX8_keep_18 (lv_at hl 1 rfl) ?_
    refine g8 C hw km_0 48 (by decide) wd_919 rfl dX8_keep_19 ?_
    refine y_iload_n C dX8_keep_22 (lv_at hl 0 rfl) ?_
    refine y_aload_n C dX8_keep_23 (lv_at hl 1 rfl) ?_
    refine g8 C hw km_0 33 (by decide) wd_904 rfl dX8_keep_24 ?_
    obtain ⟨hg27, h⟩ := gd_some h
    obtain ⟨σ27, eσ27, h⟩ := nx_some h
    refine y_iast C hw km_29 (i' := zm (100 * v1)) rfl hg27 dX8_keep_27 (fun H locs hw => ?_)
    rw [← eσ27] at hw
    refine y_aload_n C dX8_keep_28 (lv_at hl 1 rfl) ?_
    refine g8 C hw km_0 48 (by decide) wd_919 rfl dX8_keep_29 ?_
    refine y_iload_n C dX8_keep_32 (lv_at hl 0 rfl) ?_
    refine y_iconst C dX8_keep_33 ?_
    refine y_iadd C dX8_keep_34 ?_
    refine y_aload_n C dX8_keep_35 (lv_at hl 1 rfl) ?_
    refine g8 C hw km_0 42 (by decide) wd_913 rfl dX8_keep_36 ?_
    obtain ⟨hg39, h⟩ := gd_some h
    obtain ⟨σ39, eσ39, h⟩ := nx_some h
    refine y_iast C hw km_29 (i' := zm ((100 * v1) + 1)) rfl hg39 dX8_keep_39 (fun H locs hw => ?_)
    rw [← eσ39] at hw
    refine y_aload_n C dX8_keep_40 (lv_at hl 1 rfl) ?_
    refine g8 C hw km_0 48 (by decide) wd_919 rfl dX8_keep_41 ?_
    refine y_iload_n C dX8_keep_44 (lv_at hl 0 rfl) ?_
    refine y_iconst C dX8_keep_45 ?_
    refine y_iadd C dX8_keep_46 ?_
    refine y_aload_n C dX8_keep_47 (lv_at hl 1 rfl) ?_
    refine g8 C hw km_0 47 (by decide) wd_918 rfl dX8_keep_48 ?_
    obtain ⟨hg51, h⟩ := gd_some h
    obtain ⟨σ51, eσ51, h⟩ := nx_some h
    refine y_iast C hw km_29 (i' := zm ((100 * v1) + 2)) rfl hg51 dX8_keep_51 (fun H locs hw => ?_)
    rw [← eσ51] at hw
    refine y_iconst C dX8_keep_52 ?_
    refine y_istore_n (lv' := [(3, .int (zI 0)), (2, .int (zI (100 * v1))), (0, .ref (ad 0)), (1, .int (zI v1))]) C dX8_keep_53 hl (by decide) rfl (fun ls hl => ?_)
    exact k_X8_keep_54 C  FU _ _ _ _ _ _ _  hw (lv_sub hl [2, 3, 1, 0] rfl) h
theorem c_X8_keep {l : Launch} {D : va_G} {cA : Nat → ClassId} {adK adV : Nat → Nat} {A : Nat → Prop} {ad : Int → Nat} {R : va_W} {σ : St} {res : Int × St} {v1 : Int}  (h : p_X8_keep v1 σ = some res) : Met l yX8_keep (wsU yX8_keep cX8_keep 4 (some .int)) (rmU 1 25) (va_Pc [.ref (ad 0), .int (zI v1)] (Pr D cA adK adV ad kM 31 R A σ)) (QI D cA ad kM 31 R A res) 0 0 A :=
  y_met (own := RX8) (by decide) rfl _ (Nat.le_of_ble_eq_true rfl) (fun p e s m args below meth c ls C hl hw => k_X8_keep_0 C  hw hl h)
/-! RungHouseModel.goBack -/
set_option maxRecDepth 100000 in
set_option maxHeartbeats 4000000 in
theorem k_X8_goBack_139b {K139 : Int → Int → St → Option (Int × St)} {v2 : Int} {v3 : Int} (C : Cx cX8_goBack RX8 4 (some .int) D cA adK adV A p s m args meth c)  (hK139 : ∀ (v2 : Int) (v3 : Int) (σ : St) (H : Heap) (locs : List Loc) (ls : Array Slot) , At D cA ad kM 31 R A s σ H locs → lv_has ls 4 [(0, .ref (ad 0)), (2, .int (zI v2)), (3, .int (zI v3))] → K139 v2 v3 σ = some res → W p l e (rmU 1 25) s m args below meth c H locs 0 0 (MQ below (QI D cA ad kM 31 R A res) args s 0 0 A) (F0 m 139 ls [])) {σ : St} {H : Heap} {locs : List Loc} {ls : Array Slot}  (hw : At D cA ad kM 31 R A s σ H locs) (hl : lv_has ls 4 [(0, .ref (ad 0)), (2, .int (zI v2)), (3, .int (zI v3))]) (h : p_X8_goBack_139b K139 v2 v3 σ = some res) : W p l e (rmU 1 25) s m args below meth c H locs 0 0 (MQ below (QI D cA ad kM 31 R A res) args s 0 0 A) (F0 m 139 ls []) := by
  have h := h
  unfold p_X8_goBack_139b at h
  refine y_iload_n C dX8_goBack_139 (lv_at hl 2 rfl) ?_
  refine y_bipush C dX8_goBack_140 (by decide) ?_
  refine y_icmp_ge (tgt := 185) C (a' := zm v3) (b' := 8) rfl (by decide) dX8_goBack_142 (by decide) (fun hc => ?_) (fun hc => ?_)
  · rw [if_pos hc] at h
    refine y_iconst C dX8_goBack_185 ?_
    exact y_iret C hw h dX8_goBack_186
  · rw [if_neg hc] at h
    refine y_aload_n C dX8_goBack_145 (lv_at hl 0 rfl) ?_
    refine g8 C hw km_0 43 (by decide) wd_914 rfl dX8_goBack_146 ?_
    refine y_iload_n C dX8_goBack_149 (lv_at hl 2 rfl) ?_
    refine y_aload_n C dX8_goBack_150 (lv_at hl 0 rfl) ?_
    refine g8 C hw km_0 48 (by decide) wd_919 rfl dX8_goBack_151 ?_
    refine y_iload_n C dX8_goBack_154 (lv_at hl 1 rfl) ?_
    refine y_bipush C dX8_goBack_155 (by decide) ?_
    refine y_iadd C dX8_goBack_157 ?_
    refine y_iload_n C dX8_goBack_158 (lv_at hl 2 rfl) ?_
    refine y_iadd C dX8_goBack_159 ?_
    obtain ⟨hg160, h⟩ := gd_some h
    refine y_iald C hw km_29 (i' := zm ((v2 + 75) + v3)) rfl hg160 dX8_goBack_160 ?_
    obtain ⟨hg161, h⟩ := gd_some h
    obtain ⟨σ161, eσ161, h⟩ := nx_some h
    refine y_iast C hw km_25 (i' := zm v3) rfl hg161 dX8_goBack_161 (fun H locs hw => ?_)
    rw [← eσ161] at hw
    refine y_aload_n C dX8_goBack_162 (lv_at hl 0 rfl) ?_
    refine g8 C hw km_0 44 (by decide) wd_915 rfl dX8_goBack_163 ?_
    refine y_iload_n C dX8_goBack_166 (lv_at hl 2 rfl) ?_
    refine y_aload_n C dX8_goBack_167 (lv_at hl 0 rfl) ?_
    refine g8 C hw km_0 48 (by decide) wd_919 rfl dX8_goBack_168 ?_
    refine y_iload_n C dX8_goBack_171 (lv_at hl 1 rfl) ?_
    refine y_bipush C dX8_goBack_172 (by decide) ?_
    refine y_iadd C dX8_goBack_174 ?_
    refine y_iload_n C dX8_goBack_175 (lv_at hl 2 rfl) ?_
    refine y_iadd C dX8_goBack_176 ?_
    obtain ⟨hg177, h⟩ := gd_some h
    refine y_iald C hw km_29 (i' := zm ((v2 + 83) + v3)) rfl hg177 dX8_goBack_177 ?_
    obtain ⟨σ178, eσ178, h⟩ := nx_some h
    refine y_iast C hw km_26 (i' := zm v3) rfl hg161 dX8_goBack_178 (fun H locs hw => ?_)
    rw [← eσ178] at hw
    refine y_iinc (lv' := [(3, .int (zI (v3 + 1))), (0, .ref (ad 0)), (2, .int (zI v2))]) C dX8_goBack_179 hl (k := 2) rfl (by decide) rfl (fun ls hl => ?_)
    refine y_goto (tgt := 139) C dX8_goBack_182 (by decide) ?_
    exact hK139 _ _ _ _ _ _  hw (lv_sub hl [1, 2, 0] rfl) h
set_option maxRecDepth 100000 in
theorem k_X8_goBack_139  (C : Cx cX8_goBack RX8 4 (some .int) D cA adK adV A p s m args meth c)  : ∀ (n : Nat) (v2 : Int) (v3 : Int) (σ : St) (H : Heap) (locs : List Loc) (ls : Array Slot) , At D cA ad kM 31 R A s σ H locs → lv_has ls 4 [(0, .ref (ad 0)), (2, .int (zI v2)), (3, .int (zI v3))] → p_X8_goBack_139  n v2 v3 σ = some res → W p l e (rmU 1 25) s m args below meth c H locs 0 0 (MQ below (QI D cA ad kM 31 R A res) args s 0 0 A) (F0 m 139 ls []) := by
  intro n
  induction n with
  | zero =>
    intro v2 v3 σ H locs ls  hw hl h
    have h : none = some res := h
    cases h
  | succ n ih =>
    intro v2 v3 σ H locs ls  hw hl h
    exact k_X8_goBack_139b C  ih  hw hl h
set_option maxRecDepth 100000 in
set_option maxHeartbeats 4000000 in
theorem k_X8_goBack_130 {K66 : Int → Int → St → Option (Int × St)} {v2 : Int} {v3 : Int} {os0 : Int} {vs1 : Int} {vs2 : Int} (C : Cx cX8_goBack RX8 4 (some .int) D cA adK adV A p s m args meth c) (hK66 : ∀ (v2 : Int) (v3 : Int) (σ : St) (H : Heap) (locs : List Loc) (ls : Array Slot) , At D cA ad kM 31 R A s σ H locs → lv_has ls 4 [(0, .ref (ad 0)), (2, .int (zI v2)), (3, .int (zI v3))] → K66 v2 v3 σ = some res → W p l e (rmU 1 25) s m args below meth c H locs 0 0 (MQ below (QI D cA ad kM 31 R A res) args s 0 0 A) (F0 m 66 ls [])) {σ : St} {H : Heap} {locs : List Loc} {ls : Array Slot} (hos0 : kM os0 = (21, 24)) (hw : At D cA ad kM 31 R A s σ H locs) (hl : lv_has ls 4 [(0, .ref (ad 0)), (2, .int (zI v2)), (3, .int (zI v3))]) (h : p_X8_goBack_130 K66 v2 v3 os0 vs1 vs2 σ = some res) : W p l e (rmU 1 25) s m args below meth c H locs 0 0 (MQ below (QI D cA ad kM 31 R A res) args s 0 0 A) (F0 m 130 ls [.int (zI vs2), .int (zI vs1), .ref (ad os0)]) := by
  have h := h
  unfold p_X8_goBack_130 at h
  obtain ⟨hg130, h⟩ := gd_some h
  obtain ⟨hb130, h⟩ := gd_some h
  obtain ⟨σ130, eσ130, h⟩ := nx_some h
  refine y_zast C hw hos0 (i' := zm vs1) rfl hg130 hb130 dX8_goBack_130 (fun H locs hw => ?_)
  rw [← eσ130] at hw
  refine y_iinc (lv' := [(3, .int (zI (v3 + 1))), (0, .ref (ad 0)), (2, .int (zI v2))]) C dX8_goBack_131 hl (k := 2) rfl (by decide) rfl (fun ls hl => ?_)
  refine y_goto (tgt := 66) C dX8_goBack_134 (by decide) ?_
  exact hK66 _ _ _ _ _ _  hw (lv_sub hl [1, 2, 0] rfl) h
set_option maxRecDepth 100000 in
set_option maxHeartbeats 4000000 in
theorem k_X8_goBack_66b {K66 : Int → Int → St → Option (Int × St)} {v2 : Int} {v3 : Int} (C : Cx cX8_goBack RX8 4 (some .int) D cA adK adV A p s m args meth c)  (hK66 : ∀ (v2 : Int) (v3 : Int) (σ : St) (H : Heap) (locs : List Loc) (ls : Array Slot) , At D cA ad kM 31 R A s σ H locs → lv_has ls 4 [(0, .ref (ad 0)), (2, .int (zI v2)), (3, .int (zI v3))] → K66 v2 v3 σ = some res → W p l e (rmU 1 25) s m args below meth c H locs 0 0 (MQ below (QI D cA ad kM 31 R A res) args s 0 0 A) (F0 m 66 ls [])) {σ : St} {H : Heap} {locs : List Loc} {ls : Array Slot}  (hw : At D cA ad kM 31 R A s σ H locs) (hl : lv_has ls 4 [(0, .ref (ad 0)), (2, .int (zI v2)), (3, .int (zI v3))]) (h : p_X8_goBack_66b K66 v2 v3 σ = some res) : W p l e (rmU 1 25) s m args below meth c H locs 0 0 (MQ below (QI D cA ad kM 31 R A res) args s 0 0 A) (F0 m 66 ls []) := by
  have h := h
  unfold p_X8_goBack_66b at h
  refine y_iload_n C dX8_goBack_66 (lv_at hl 2 rfl) ?_
  refine y_bipush C dX8_goBack_67 (by decide) ?_
  refine y_icmp_ge (tgt := 137) C (a' := zm v3) (b' := 24) rfl (by decide) dX8_goBack_69 (by decide) (fun hc => ?_) (fun hc => ?_)
  · rw [if_pos hc] at h
    refine y_iconst C dX8_goBack_137 ?_
    refine y_istore_n (lv' := [(3, .int (zI 0)), (0, .ref (ad 0)), (2, .int (zI v2))]) C dX8_goBack_138 hl (by decide) rfl (fun ls hl => ?_)
    exact k_X8_goBack_139 C  FU _ _ _ _ _ _  hw (lv_sub hl [1, 2, 0] rfl) h
  · rw [if_neg hc] at h
    refine y_aload_n C dX8_goBack_72 (lv_at hl 0 rfl) ?_
    refine g8 C hw km_0 34 (by decide) wd_905 rfl dX8_goBack_73 ?_
    refine y_iload_n C dX8_goBack_76 (lv_at hl 2 rfl) ?_
    refine y_aload_n C dX8_goBack_77 (lv_at hl 0 rfl) ?_
    refine g8 C hw km_0 48 (by decide) wd_919 rfl dX8_goBack_78 ?_
    refine y_iload_n C dX8_goBack_81 (lv_at hl 1 rfl) ?_
    refine y_iconst C dX8_goBack_82 ?_
    refine y_iadd C dX8_goBack_83 ?_
    refine y_iload_n C dX8_goBack_84 (lv_at hl 2 rfl) ?_
    refine y_iadd C dX8_goBack_85 ?_
    obtain ⟨hg86, h⟩ := gd_some h
    refine y_iald C hw km_29 (i' := zm ((v2 + 3) + v3)) rfl hg86 dX8_goBack_86 ?_
    obtain ⟨hg87, h⟩ := gd_some h
    obtain ⟨σ87, eσ87, h⟩ := nx_some h
    refine y_iast C hw km_18 (i' := zm v3) rfl hg87 dX8_goBack_87 (fun H locs hw => ?_)
    rw [← eσ87] at hw
    refine y_aload_n C dX8_goBack_88 (lv_at hl 0 rfl) ?_
    refine g8 C hw km_0 35 (by decide) wd_906 rfl dX8_goBack_89 ?_
    refine y_iload_n C dX8_goBack_92 (lv_at hl 2 rfl) ?_
    refine y_aload_n C dX8_goBack_93 (lv_at hl 0 rfl) ?_
    refine g8 C hw km_0 48 (by decide) wd_919 rfl dX8_goBack_94 ?_
    refine y_iload_n C dX8_goBack_97 (lv_at hl 1 rfl) ?_
    refine y_bipush C dX8_goBack_98 (by decide) ?_
    refine y_iadd C dX8_goBack_100 ?_
    refine y_iload_n C dX8_goBack_101 (lv_at hl 2 rfl) ?_
    refine y_iadd C dX8_goBack_102 ?_
    obtain ⟨hg103, h⟩ := gd_some h
    refine y_iald C hw km_29 (i' := zm ((v2 + 27) + v3)) rfl hg103 dX8_goBack_103 ?_
    obtain ⟨σ104, eσ104, h⟩ := nx_some h
    refine y_iast C hw km_19 (i' := zm v3) rfl hg87 dX8_goBack_104 (fun H locs hw => ?_)
    rw [← eσ104] at hw
    refine y_aload_n C dX8_goBack_105 (lv_at hl 0 rfl) ?_
    refine g8 C hw km_0 36 (by decide) wd_907 rfl dX8_goBack_106 ?_
    refine y_iload_n C dX8_goBack_109 (lv_at hl 2 rfl) ?_
    refine y_aload_n C dX8_goBack_110 (lv_at hl 0 rfl) ?_
    refine g8 C hw km_0 48 (by decide) wd_919 rfl dX8_goBack_111 ?_
    refine y_iload_n C dX8_goBack_114 (lv_at hl 1 rfl) ?_
    refine y_bipush C dX8_goBack_115 (by decide) ?_
    refine y_iadd C dX8_goBack_117 ?_
    refine y_iload_n C dX8_goBack_118 (lv_at hl 2 rfl) ?_
    refine y_iadd C dX8_goBack_119 ?_
    obtain ⟨hg120, h⟩ := gd_some h
    refine y_iald C hw km_29 (i' := zm ((v2 + 51) + v3)) rfl hg120 dX8_goBack_120 ?_
    refine y_iconst C dX8_goBack_121 ?_
    refine y_icmp_ne (tgt := 129) C (a' := zm (σ104 29 (zm ((v2 + 51) + v3)))) (b' := 1) rfl (by decide) dX8_goBack_122 (by decide) (fun hc => ?_) (fun hc => ?_)
    · rw [if_pos hc] at h
      refine y_iconst C dX8_goBack_125 ?_
      refine y_goto (tgt := 130) C dX8_goBack_126 (by decide) ?_
      exact k_X8_goBack_130 C hK66 km_20 hw hl h
    · rw [if_neg hc] at h
      refine y_iconst C dX8_goBack_129 ?_
      exact k_X8_goBack_130 C hK66 km_20 hw hl h
set_option maxRecDepth 100000 in
theorem k_X8_goBack_66  (C : Cx cX8_goBack RX8 4 (some .int) D cA adK adV A p s m args meth c)  : ∀ (n : Nat) (v2 : Int) (v3 : Int) (σ : St) (H : Heap) (locs : List Loc) (ls : Array Slot) , At D cA ad kM 31 R A s σ H locs → lv_has ls 4 [(0, .ref (ad 0)), (2, .int (zI v2)), (3, .int (zI v3))] → p_X8_goBack_66  n v2 v3 σ = some res → W p l e (rmU 1 25) s m args below meth c H locs 0 0 (MQ below (QI D cA ad kM 31 R A res) args s 0 0 A) (F0 m 66 ls []) := by
  intro n
  induction n with
  | zero =>
    intro v2 v3 σ H locs ls  hw hl h
    have h : none = some res := h
    cases h
  | succ n ih =>
    intro v2 v3 σ H locs ls  hw hl h
    exact k_X8_goBack_66b C  ih  hw hl h
set_option maxRecDepth 100000 in
set_option maxHeartbeats 4000000 in
theorem k_X8_goBack_0  {v1 : Int} (C : Cx cX8_goBack RX8 4 (some .int) D cA adK adV A p s m args meth c)  {σ : St} {H : Heap} {locs : List Loc} {ls : Array Slot}  (hw : At D cA ad kM 31 R A s σ H locs) (hl : lv_has ls 4 [(0, .ref (ad 0)), (1, .int (zI v1))]) (h : p_X8_goBack  v1 σ = some res) : W p l e (rmU 1 25) s m args below meth c H locs 0 0 (MQ below (QI D cA ad kM 31 R A res) args s 0 0 A) (F0 m 0 ls []) := by
  have h := h
  unfold p_X8_goBack at h
  refine y_iload_n C dX8_goBack_0 (lv_at hl 1 rfl) ?_
  refine y_i2l C rfl dX8_goBack_1 ?_
  refine y_lconst C (z' := 0) dX8_goBack_2 (by decide) ?_
  refine y_lconst C (z' := 1) dX8_goBack_3 (by decide) ?_
  obtain ⟨x4, hc4, h⟩ := bd_some h
  refine y_ci (rest := []) hw (y_rS C hw (c_X8_within  hc4) mi_X8_within wd_1027 wd_1028 rfl ⟨by decide, by decide⟩ hl rfl (Nat.le_of_ble_eq_true rfl) dX8_goBack_4) (fun H locs hw => ?_)
  refine y_if_ne (tgt := 13) C (a' := zm x4.1) rfl dX8_goBack_7 (by decide) (fun hc => ?_) (fun hc => ?_)
  · rw [if_pos hc] at h
    refine y_ldc C (z := (-1000000001)) wd_1037 (by decide) dX8_goBack_10 ?_
    exact y_iret C hw h dX8_goBack_12
  · rw [if_neg hc] at h
    refine y_aload_n C dX8_goBack_13 (lv_at hl 0 rfl) ?_
    refine g8 C hw km_0 49 (by decide) wd_920 rfl dX8_goBack_14 ?_
    refine y_iload_n C dX8_goBack_17 (lv_at hl 1 rfl) ?_
    obtain ⟨hg18, h⟩ := gd_some h
    refine y_zald C hw km_30 (i' := zm v1) rfl hg18 dX8_goBack_18 ?_
    refine y_if_ne (tgt := 25) C (a' := zm (x4.2 30 (zm v1))) rfl dX8_goBack_19 (by decide) (fun hc => ?_) (fun hc => ?_)
    · rw [if_pos hc] at h
      refine y_ldc C (z := (-1000000003)) wd_1121 (by decide) dX8_goBack_22 ?_
      exact y_iret C hw h dX8_goBack_24
    · rw [if_neg hc] at h
      refine y_bipush C dX8_goBack_25 (by decide) ?_
      refine y_iload_n C dX8_goBack_27 (lv_at hl 1 rfl) ?_
      refine y_imul C dX8_goBack_28 ?_
      refine y_istore_n (lv' := [(2, .int (zI (100 * v1))), (0, .ref (ad 0)), (1, .int (zI v1))]) C dX8_goBack_29 hl (by decide) rfl (fun ls hl => ?_)
      refine y_aload_n C dX8_goBack_30 (lv_at hl 1 rfl) ?_
      refine y_aload_n C dX8_goBack_31 (lv_at hl 1 rfl) ?_
      refine g8 C hw km_0 48 (by decide) wd_919 rfl dX8_goBack_32 ?_
      refine y_iload_n C dX8_goBack_35 (lv_at hl 0 rfl) ?_
      obtain ⟨hg36, h⟩ := gd_some h
      refine y_iald C hw km_29 (i' := zm (100 * v1)) rfl hg36 dX8_goBack_36 ?_
      obtain ⟨σ37, eσ37, h⟩ := nx_some h
      refine q8 C hw km_0 33 (by decide) wd_904 rfl rfl rfl (by decide) (x4.2 29 (zm (100 * v1))) 33 rfl rfl dX8_goBack_37 (fun H locs hw => ?_)
      rw [← eσ37] at hw
      refine y_aload_n C dX8_goBack_40 (lv_at hl 1 rfl) ?_
      refine y_aload_n C dX8_goBack_41 (lv_at hl 1 rfl) ?_
      refine g8 C hw km_0 48 (by decide) wd_919 rfl dX8_goBack_42 ?_
      refine y_iload_n C dX8_goBack_45 (lv_at hl 0 rfl) ?_
      refine y_iconst C dX8_goBack_46 ?_
      refine y_iadd C dX8_goBack_47 ?_
      obtain ⟨hg48, h⟩ := gd_some h
      refine y_iald C hw km_29 (i' := zm ((100 * v1) + 1)) rfl hg48 dX8_goBack_48 ?_
      obtain ⟨σ49, eσ49, h⟩ := nx_some h
      refine q8 C hw km_0 42 (by decide) wd_913 rfl rfl rfl (by decide) (σ37 29 (zm ((100 * v1) + 1))) 42 rfl rfl dX8_goBack_49 (fun H locs hw => ?_)
      rw [← eσ49] at hw
      refine y_aload_n C dX8_goBack_52 (lv_at hl 1 rfl) ?_
      refine y_aload_n C dX8_goBack_53 (lv_at hl 1 rfl) ?_
      refine g8 C hw km_0 48 (by decide) wd_919 rfl dX8_goBack_54 ?_
      refine y_iload_n C dX8_goBack_57 (lv_at hl 0 rfl) ?_
      refine y_iconst C dX8_goBack_58 ?_
      refine y_iadd C dX8_goBack_59 ?_
      obtain ⟨hg60, h⟩ := gd_some h
      refine y_iald C hw km_29 (i' := zm ((100 * v1) + 2)) rfl hg60 dX8_goBack_60 ?_
      obtain ⟨σ61, eσ61, h⟩ := nx_some h
      refine q8 C hw km_0 47 (by decide) wd_918 rfl rfl rfl (by decide) (σ49 29 (zm ((100 * v1) + 2))) 47 rfl rfl dX8_goBack_61 (fun H locs hw => ?_)
      rw [← eσ61] at hw
      refine y_iconst C dX8_goBack_64 ?_
      refine y_istore_n (lv' := [(3, .int (zI 0)), (2, .int (zI (100 * v1))), (0, .ref (ad 0)), (1, .int (zI v1))]) C dX8_goBack_65 hl (by decide) rfl (fun ls hl => ?_)
      exact k_X8_goBack_66 C  FU _ _ _ _ _ _  hw (lv_sub hl [2, 1, 0] rfl) h
theorem c_X8_goBack {l : Launch} {D : va_G} {cA : Nat → ClassId} {adK adV : Nat → Nat} {A : Nat → Prop} {ad : Int → Nat} {R : va_W} {σ : St} {res : Int × St} {v1 : Int}  (h : p_X8_goBack v1 σ = some res) : Met l yX8_goBack (wsU yX8_goBack cX8_goBack 4 (some .int)) (rmU 1 25) (va_Pc [.ref (ad 0), .int (zI v1)] (Pr D cA adK adV ad kM 31 R A σ)) (QI D cA ad kM 31 R A res) 0 0 A :=
  y_met (own := RX8) (by decide) rfl _ (Nat.le_of_ble_eq_true rfl) (fun p e s m args below meth c ls C hl hw => k_X8_goBack_0 C  hw hl h)
end K
