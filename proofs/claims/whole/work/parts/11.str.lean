/-! String constants: length(), charAt(k) -/
def slen (w : Nat) : Int := ((stN.getD w 0 : Nat) : Int)
def sch (w : Nat) (k : Int) : Int := ((stB.getD w []).getD k.toNat 0).toInt
theorem st_all : ∀ i, i < 11 → (stN.getD i 0 = (stB.getD i []).length ∧ (stB.getD i []).length < 100 ∧ ∀ b ∈ stB.getD i [], ((b &&& 255).toUInt32 % 65536).toInt32 = b) := by decide +kernel
theorem sgetD_mem {l : List Int32} {k : Nat} (h : k < l.length) : l.getD k 0 ∈ l := by
  rw [List.getD_eq_getElem?_getD, List.getElem?_eq_getElem h]
  exact List.getElem_mem h
section S
variable {l : Launch} {D : va_G} {cA : Nat → ClassId} {adK adV : Nat → Nat} {A : Nat → Prop}
theorem Ev.blind {av : List Value} : FrameBlind (va_Pc av (Ev D cA adK adV A)) := fun a U g mk q => ⟨q.1, q.2.calling g mk a⟩
/-- a contract of a method that reads the old heap alone -/
theorem s_met {cc : ByteArray} {own : String} {nL : Nat} {ret : Option FieldType} {y : MethodName} {rm : Room} {Qc : Array Value → State → Outcome → State → Prop} {fr : Addr → Prop} (hy : plainName y.cls = true) (hcls : y.cls = own) (av : List Value) (hlen : (lg_sl av).length ≤ nL)
    (body : ∀ (p : Program) (e : Env) (s : State) (m : MethodId) (args : Array Value) (below : List Frame) (meth : Method) (c : Code) (ls : Array Slot), Cx cc own nL ret D cA adK adV A p s m args meth c → lv_has ls nL (lv_args 0 av) → W p l e rm s m args below meth c s.heap [] 0 0 (MQ below Qc args s 0 0 fr) (F0 m 0 ls [])) :
    Met l y (wsU y cc nL ret) rm (va_Pc av (Ev D cA adK adV A)) Qc 0 0 fr := by
  refine Met.ofW (cc := cc) (maxL := nL) (ret := ret) hy rfl ?_
  intro p e s m args below meth c s₁ B hml hv
  obtain ⟨rfl, hE⟩ := hv
  have hts := atoms_spec (ws := wsU y cc nL ret) B.pre
  have hl := lv_entry av (n := nL) hlen
  rw [lg_entry_eq]
  exact body p e s m av.toArray below meth c _ ⟨B.exec, B.bytes, hml, B.returns, B.notSynchronized, by rw [← hcls]; exact findClass_of_methodNamed B.named, fun w h => hts w (List.mem_cons_of_mem _ h), hE⟩ hl
variable {p : Program} {e : Env} {Rm : Room} {s : State} {m : MethodId} {args : Array Value} {below : List Frame} {meth : Method} {c : Code} {H : Heap} {locs : List Loc} {Q : State → Prop}
variable {cc : ByteArray} {own : String} {nL : Nat} {ret : Option FieldType} {pc : Nat} {ls : Array Slot} {rest st : List Value}
variable {y : MethodName} {b : ByteArray} {mL index k : Nat} {rt : Option FieldType} {fr lo : Nat} {As : List Value} {lv : List (Nat × Value)} {r : Int32}
theorem s_retz {ty : FieldType} (C : Cx cc own nL (some ty) D cA adK adV A p s m args meth c) (hn : narrow ty (.int r) = .int r) (hdg : decode cc pc = .ok (.ireturn, 1)) : W p l e Rm s m args below meth c s.heap [] 0 0 (MQ below (QcRead r) args s 0 0 (fun _ => False)) (F0 m pc ls [.int r]) := by
  have hlk := C.2.2.2.2.1
  exact W.zret C.1 C.2.1 C.2.2.2.1 hn (fun t ht hW => ⟨rfl, ht⟩) (fun q h => by cases h) hdg hlk
/-- a call on a String constant -/
theorem s_rV (C : Cx cc own nL ret D cA adK adV A p s m args meth c) (hS : va_S A s.heap H locs) {i : Nat} (hi : i < 11) (hM : Met l y (wsU y b mL rt) (rmU fr lo) (va_Pc (.ref (adK i) :: As) (Ev D cA adK adV A)) (QcRead r) 0 0 (fun _ => False)) (hmi : MI y b mL rt k) (hlink : Cond.methodLink own index y ∈ gt) (hinst : Cond.instanceMethod y ∈ gt) (hsel : Cond.selects "java/lang/String" y y ∈ gt) (hn : As.length = k) (hR : (fr + 1 ≤ Rm.frames ∧ 8 + (mL + 11) + lo ≤ Rm.locals)) (hl : lv_has ls nL lv) (hst : st = As.reverse ++ .ref (adK i) :: rest) (hW : (rest.map fun v => v.category).sum ≤ 8) (hdg : decode cc pc = .ok (.invokevirtual index, 3))
    (kk : W p l e Rm s m args below meth c H locs 0 0 Q (F0 m (pc + 3) ls (.int r :: rest))) : W p l e Rm s m args below meth c H locs 0 0 Q (F0 m pc ls st) := by
  have hts := C.2.2.2.2.2.2.1
  exact W.callR (W.runV (As := As) (rest := rest) (C := "java/lang/String") ⟨C.1, C.2.1, C.2.2.1, C.2.2.2.2.2.1, hts⟩ hM ⟨callB_of k hts (wsU_in hmi.2.2) rfl rfl rfl (hts _ hmi.2.1) (hts _ hlink) hmi.1 hR, hts _ hinst, hts _ hsel⟩ ⟨Ev.blind, vk_recv C.2.2.2.2.2.2.2.2.1 hi hS, fun U hU hW => ⟨rfl, C.2.2.2.2.2.2.2.at hS hU hW⟩⟩ rfl hn hl.1 hst (lv_room hW) hdg ⟨Nat.zero_le _, Nat.zero_le _⟩) kk
theorem s_rS (C : Cx cc own nL ret D cA adK adV A p s m args meth c) (hS : va_S A s.heap H locs) (hM : Met l y (wsU y b mL rt) (rmU fr lo) (va_Pc As (Ev D cA adK adV A)) (QcRead r) 0 0 (fun _ => False)) (hmi : MI y b mL rt k) (hlink : Cond.methodLink own index y ∈ gt) (hstat : Cond.static y ∈ gt) (hn : As.length = k) (hR : (fr + 1 ≤ Rm.frames ∧ 8 + (mL + 11) + lo ≤ Rm.locals)) (hl : lv_has ls nL lv) (hst : st = As.reverse ++ rest) (hW : (rest.map fun v => v.category).sum ≤ 8) (hdg : decode cc pc = .ok (.invokestatic index, 3))
    (kk : W p l e Rm s m args below meth c H locs 0 0 Q (F0 m (pc + 3) ls (.int r :: rest))) : W p l e Rm s m args below meth c H locs 0 0 Q (F0 m pc ls st) := by
  have hts := C.2.2.2.2.2.2.1
  exact W.callR (W.runS (As := As) (rest := rest) ⟨C.1, C.2.1, C.2.2.1, C.2.2.2.2.2.1, hts⟩ hM ⟨callB_of k hts (wsU_in hmi.2.2) rfl rfl rfl (hts _ hmi.2.1) (hts _ hlink) hmi.1 hR, hts _ hstat⟩ ⟨Ev.blind, fun U hU hW => ⟨rfl, C.2.2.2.2.2.2.2.at hS hU hW⟩⟩ rfl hn hl.1 hst (lv_room hW) hdg ⟨Nat.zero_le _, Nat.zero_le _⟩) kk
end S
theorem dJ0_length_8abf5_0 : decode cJ0_length_8abf5 0 = .ok (.aload_n 0, 1) := by decide +kernel
theorem dJ0_length_8abf5_1 : decode cJ0_length_8abf5 1 = .ok (.getfield 9, 3) := by decide +kernel
theorem dJ0_length_8abf5_4 : decode cJ0_length_8abf5 4 = .ok (.arraylength, 1) := by decide +kernel
theorem dJ0_length_8abf5_5 : decode cJ0_length_8abf5 5 = .ok (.aload_n 0, 1) := by decide +kernel
theorem dJ0_length_8abf5_6 : decode cJ0_length_8abf5 6 = .ok (.invokevirtual 335, 3) := by decide +kernel
theorem dJ0_length_8abf5_9 : decode cJ0_length_8abf5 9 = .ok (.ishr, 1) := by decide +kernel
theorem dJ0_length_8abf5_10 : decode cJ0_length_8abf5 10 = .ok (.ireturn, 1) := by decide +kernel
theorem dJ0_charAt_5068e_0 : decode cJ0_charAt_5068e 0 = .ok (.aload_n 0, 1) := by decide +kernel
theorem dJ0_charAt_5068e_1 : decode cJ0_charAt_5068e 1 = .ok (.invokevirtual 492, 3) := by decide +kernel
theorem dJ0_charAt_5068e_4 : decode cJ0_charAt_5068e 4 = .ok (.ifCond .eq 12, 3) := by decide +kernel
theorem dJ0_charAt_5068e_7 : decode cJ0_charAt_5068e 7 = .ok (.aload_n 0, 1) := by decide +kernel
theorem dJ0_charAt_5068e_8 : decode cJ0_charAt_5068e 8 = .ok (.getfield 9, 3) := by decide +kernel
theorem dJ0_charAt_5068e_11 : decode cJ0_charAt_5068e 11 = .ok (.iload_n 1, 1) := by decide +kernel
theorem dJ0_charAt_5068e_12 : decode cJ0_charAt_5068e 12 = .ok (.invokestatic 495, 3) := by decide +kernel
theorem dJ0_charAt_5068e_15 : decode cJ0_charAt_5068e 15 = .ok (.ireturn, 1) := by decide +kernel
theorem dJ0_charAt_5068e_16 : decode cJ0_charAt_5068e 16 = .ok (.aload_n 0, 1) := by decide +kernel
theorem dJ0_charAt_5068e_17 : decode cJ0_charAt_5068e 17 = .ok (.getfield 9, 3) := by decide +kernel
theorem dJ0_charAt_5068e_20 : decode cJ0_charAt_5068e 20 = .ok (.iload_n 1, 1) := by decide +kernel
theorem dJ0_charAt_5068e_21 : decode cJ0_charAt_5068e 21 = .ok (.invokestatic 498, 3) := by decide +kernel
theorem dJ0_charAt_5068e_24 : decode cJ0_charAt_5068e 24 = .ok (.ireturn, 1) := by decide +kernel
theorem dJ0_coder_7d493_0 : decode cJ0_coder_7d493 0 = .ok (.getstatic 38, 3) := by decide +kernel
theorem dJ0_coder_7d493_3 : decode cJ0_coder_7d493 3 = .ok (.ifCond .eq 10, 3) := by decide +kernel
theorem dJ0_coder_7d493_6 : decode cJ0_coder_7d493 6 = .ok (.aload_n 0, 1) := by decide +kernel
theorem dJ0_coder_7d493_7 : decode cJ0_coder_7d493 7 = .ok (.getfield 15, 3) := by decide +kernel
theorem dJ0_coder_7d493_10 : decode cJ0_coder_7d493 10 = .ok (.goto 4, 3) := by decide +kernel
theorem dJ0_coder_7d493_13 : decode cJ0_coder_7d493 13 = .ok (.iconst 1, 1) := by decide +kernel
theorem dJ0_coder_7d493_14 : decode cJ0_coder_7d493 14 = .ok (.ireturn, 1) := by decide +kernel
theorem dJ0_isLatin1_aae02_0 : decode cJ0_isLatin1_aae02 0 = .ok (.getstatic 38, 3) := by decide +kernel
theorem dJ0_isLatin1_aae02_3 : decode cJ0_isLatin1_aae02 3 = .ok (.ifCond .eq 14, 3) := by decide +kernel
theorem dJ0_isLatin1_aae02_6 : decode cJ0_isLatin1_aae02 6 = .ok (.aload_n 0, 1) := by decide +kernel
theorem dJ0_isLatin1_aae02_7 : decode cJ0_isLatin1_aae02 7 = .ok (.getfield 15, 3) := by decide +kernel
theorem dJ0_isLatin1_aae02_10 : decode cJ0_isLatin1_aae02 10 = .ok (.ifCond .ne 7, 3) := by decide +kernel
theorem dJ0_isLatin1_aae02_13 : decode cJ0_isLatin1_aae02 13 = .ok (.iconst 1, 1) := by decide +kernel
theorem dJ0_isLatin1_aae02_14 : decode cJ0_isLatin1_aae02 14 = .ok (.goto 4, 3) := by decide +kernel
theorem dJ0_isLatin1_aae02_17 : decode cJ0_isLatin1_aae02 17 = .ok (.iconst 0, 1) := by decide +kernel
theorem dJ0_isLatin1_aae02_18 : decode cJ0_isLatin1_aae02 18 = .ok (.ireturn, 1) := by decide +kernel
theorem dJ0_checkIndex_df160_0 : decode cJ0_checkIndex_df160 0 = .ok (.iload_n 0, 1) := by decide +kernel
theorem dJ0_checkIndex_df160_1 : decode cJ0_checkIndex_df160 1 = .ok (.iload_n 1, 1) := by decide +kernel
theorem dJ0_checkIndex_df160_2 : decode cJ0_checkIndex_df160 2 = .ok (.getstatic 1053, 3) := by decide +kernel
theorem dJ0_checkIndex_df160_5 : decode cJ0_checkIndex_df160 5 = .ok (.invokestatic 1059, 3) := by decide +kernel
theorem dJ0_checkIndex_df160_8 : decode cJ0_checkIndex_df160 8 = .ok (.pop, 1) := by decide +kernel
theorem dJ0_checkIndex_df160_9 : decode cJ0_checkIndex_df160 9 = .ok (.return_, 1) := by decide +kernel
theorem dJ1_charAt_3b067_0 : decode cJ1_charAt_3b067 0 = .ok (.iload_n 1, 1) := by decide +kernel
theorem dJ1_charAt_3b067_1 : decode cJ1_charAt_3b067 1 = .ok (.aload_n 0, 1) := by decide +kernel
theorem dJ1_charAt_3b067_2 : decode cJ1_charAt_3b067 2 = .ok (.arraylength, 1) := by decide +kernel
theorem dJ1_charAt_3b067_3 : decode cJ1_charAt_3b067 3 = .ok (.invokestatic 9, 3) := by decide +kernel
theorem dJ1_charAt_3b067_6 : decode cJ1_charAt_3b067 6 = .ok (.aload_n 0, 1) := by decide +kernel
theorem dJ1_charAt_3b067_7 : decode cJ1_charAt_3b067 7 = .ok (.iload_n 1, 1) := by decide +kernel
theorem dJ1_charAt_3b067_8 : decode cJ1_charAt_3b067 8 = .ok (.baload, 1) := by decide +kernel
theorem dJ1_charAt_3b067_9 : decode cJ1_charAt_3b067 9 = .ok (.sipush 255, 3) := by decide +kernel
theorem dJ1_charAt_3b067_12 : decode cJ1_charAt_3b067 12 = .ok (.iand, 1) := by decide +kernel
theorem dJ1_charAt_3b067_13 : decode cJ1_charAt_3b067 13 = .ok (.i2c, 1) := by decide +kernel
theorem dJ1_charAt_3b067_14 : decode cJ1_charAt_3b067 14 = .ok (.ireturn, 1) := by decide +kernel
theorem dJ3_checkIndex_8e157_0 : decode cJ3_checkIndex_8e157 0 = .ok (.iload_n 0, 1) := by decide +kernel
theorem dJ3_checkIndex_8e157_1 : decode cJ3_checkIndex_8e157 1 = .ok (.ifCond .lt 8, 3) := by decide +kernel
theorem dJ3_checkIndex_8e157_4 : decode cJ3_checkIndex_8e157 4 = .ok (.iload_n 0, 1) := by decide +kernel
theorem dJ3_checkIndex_8e157_5 : decode cJ3_checkIndex_8e157 5 = .ok (.iload_n 1, 1) := by decide +kernel
theorem dJ3_checkIndex_8e157_6 : decode cJ3_checkIndex_8e157 6 = .ok (.if_icmp .lt 10, 3) := by decide +kernel
theorem dJ3_checkIndex_8e157_9 : decode cJ3_checkIndex_8e157 9 = .ok (.aload_n 2, 1) := by decide +kernel
theorem dJ3_checkIndex_8e157_10 : decode cJ3_checkIndex_8e157 10 = .ok (.iload_n 0, 1) := by decide +kernel
theorem dJ3_checkIndex_8e157_11 : decode cJ3_checkIndex_8e157 11 = .ok (.iload_n 1, 1) := by decide +kernel
theorem dJ3_checkIndex_8e157_12 : decode cJ3_checkIndex_8e157 12 = .ok (.invokestatic 95, 3) := by decide +kernel
theorem dJ3_checkIndex_8e157_15 : decode cJ3_checkIndex_8e157 15 = .ok (.athrow, 1) := by decide +kernel
theorem dJ3_checkIndex_8e157_16 : decode cJ3_checkIndex_8e157 16 = .ok (.iload_n 0, 1) := by decide +kernel
theorem dJ3_checkIndex_8e157_17 : decode cJ3_checkIndex_8e157 17 = .ok (.ireturn, 1) := by decide +kernel
theorem mi_coder : MI yJ0_coder_7d493 cJ0_coder_7d493 1 (some .byte) 0 := ⟨⟨by decide, by decide, by decide +kernel⟩, wd_10, wd_397⟩
theorem mi_slength : MI yJ0_length_8abf5 cJ0_length_8abf5 1 (some .int) 0 := ⟨⟨by decide, by decide, by decide +kernel⟩, wd_10, wd_393⟩
theorem mi_latin : MI yJ0_isLatin1_aae02 cJ0_isLatin1_aae02 1 (some .boolean) 0 := ⟨⟨by decide, by decide, by decide +kernel⟩, wd_10, wd_407⟩
theorem mi_lchar : MI yJ1_charAt_3b067 cJ1_charAt_3b067 2 (some .char) 2 := ⟨⟨by decide, by decide, by decide +kernel⟩, wd_11, wd_410⟩
theorem mi_schar : MI yJ0_charAt_5068e cJ0_charAt_5068e 2 (some .char) 1 := ⟨⟨by decide, by decide, by decide +kernel⟩, wd_10, wd_403⟩
theorem mi_check : MI yJ0_checkIndex_df160 cJ0_checkIndex_df160 2 none 2 := ⟨⟨by decide, by decide, by decide +kernel⟩, wd_10, wd_413⟩
theorem mi_pcheck : MI yJ3_checkIndex_8e157 cJ3_checkIndex_8e157 3 (some .int) 3 := ⟨⟨by decide, by decide, by decide +kernel⟩, wd_12, wd_418⟩
section S
variable {l : Launch} {D : va_G} {cA : Nat → ClassId} {adK adV : Nat → Nat} {A : Nat → Prop}
theorem cs_coder {i : Nat} (hi : i < 11) : Met l yJ0_coder_7d493 (wsU yJ0_coder_7d493 cJ0_coder_7d493 1 (some .byte)) (rmU 0 0) (va_Pc [.ref (adK i)] (Ev D cA adK adV A)) (QcRead 0) 0 0 (fun _ => False) :=
  s_met (own := RJ0) (by decide) rfl _ (Nat.le_of_ble_eq_true rfl) (fun p e s m args below meth c ls C hl => by
    have hl : lv_has ls 1 [(0, .ref (adK i))] := hl
    have hts := C.2.2.2.2.2.2.1
    have hE := C.2.2.2.2.2.2.2
    refine va_gets C.1 C.2.1 hE.2.2.1 va_S.rf C.2.2.2.2.2.1 (hts _ wd_398) (fun _ h => h) dJ0_coder_7d493_0 ?_
    refine lv_if_eq (tgt := 13) C.1 C.2.1 dJ0_coder_7d493_3 (by decide) (fun h => absurd h (by decide)) (fun _ => ?_)
    refine lv_aload_n C.1 C.2.1 dJ0_coder_7d493_6 rfl (lv_at hl 0 rfl) ?_
    refine vk_getf C.1 C.2.1 (hE.2.1.1 i hi).2.1 va_S.rf C.2.2.2.2.2.1 (hts _ wd_1369) (fun _ h => h) dJ0_coder_7d493_7 ?_
    refine lv_goto (tgt := 14) C.1 C.2.1 dJ0_coder_7d493_10 (by decide) ?_
    exact s_retz C rfl dJ0_coder_7d493_14)
theorem cs_latin {i : Nat} (hi : i < 11) : Met l yJ0_isLatin1_aae02 (wsU yJ0_isLatin1_aae02 cJ0_isLatin1_aae02 1 (some .boolean)) (rmU 0 0) (va_Pc [.ref (adK i)] (Ev D cA adK adV A)) (QcRead 1) 0 0 (fun _ => False) :=
  s_met (own := RJ0) (by decide) rfl _ (Nat.le_of_ble_eq_true rfl) (fun p e s m args below meth c ls C hl => by
    have hl : lv_has ls 1 [(0, .ref (adK i))] := hl
    have hts := C.2.2.2.2.2.2.1
    have hE := C.2.2.2.2.2.2.2
    refine va_gets C.1 C.2.1 hE.2.2.1 va_S.rf C.2.2.2.2.2.1 (hts _ wd_398) (fun _ h => h) dJ0_isLatin1_aae02_0 ?_
    refine lv_if_eq (tgt := 17) C.1 C.2.1 dJ0_isLatin1_aae02_3 (by decide) (fun h => absurd h (by decide)) (fun _ => ?_)
    refine lv_aload_n C.1 C.2.1 dJ0_isLatin1_aae02_6 rfl (lv_at hl 0 rfl) ?_
    refine vk_getf C.1 C.2.1 (hE.2.1.1 i hi).2.1 va_S.rf C.2.2.2.2.2.1 (hts _ wd_1369) (fun _ h => h) dJ0_isLatin1_aae02_7 ?_
    refine lv_if_ne (tgt := 17) C.1 C.2.1 dJ0_isLatin1_aae02_10 (by decide) (fun h => absurd rfl h) (fun _ => ?_)
    refine lv_iconst (v := 1) C.1 C.2.1 dJ0_isLatin1_aae02_13 (by decide) ?_
    refine lv_goto (tgt := 18) C.1 C.2.1 dJ0_isLatin1_aae02_14 (by decide) ?_
    exact s_retz C rfl dJ0_isLatin1_aae02_18)
theorem cs_length {i : Nat} (hi : i < 11) : Met l yJ0_length_8abf5 (wsU yJ0_length_8abf5 cJ0_length_8abf5 1 (some .int)) (rmU 1 20) (va_Pc [.ref (adK i)] (Ev D cA adK adV A)) (QcRead (zI (slen i))) 0 0 (fun _ => False) :=
  s_met (own := RJ0) (by decide) rfl _ (Nat.le_of_ble_eq_true rfl) (fun p e s m args below meth c ls C hl => by
    have hl : lv_has ls 1 [(0, .ref (adK i))] := hl
    have hts := C.2.2.2.2.2.2.1
    have hE := C.2.2.2.2.2.2.2
    refine lv_aload_n C.1 C.2.1 dJ0_length_8abf5_0 rfl (lv_at hl 0 rfl) ?_
    refine vk_getf C.1 C.2.1 (hE.2.1.1 i hi).2.2.1 va_S.rf C.2.2.2.2.2.1 (hts _ wd_1368) (fun _ h => h) dJ0_length_8abf5_1 ?_
    refine va_tlen C.1 C.2.1 (hE.2.1.1 i hi).2.2.2 va_S.rf rfl dJ0_length_8abf5_4 ?_
    refine lv_aload_n C.1 C.2.1 dJ0_length_8abf5_5 rfl (lv_at hl 0 rfl) ?_
    refine s_rV (rest := [.int (Int32.ofNat (stN.getD i 0))]) C va_S.rf hi (cs_coder hi) mi_coder wd_394 wd_395 wd_396 rfl ⟨by decide, by decide⟩ hl rfl (Nat.le_of_ble_eq_true rfl) dJ0_length_8abf5_6 ?_
    refine lv_ishr C.1 C.2.1 dJ0_length_8abf5_9 ?_
    have h0 : Int32.ofNat (stN.getD i 0) >>> ((0 : Int32) &&& 31) = zI (slen i) := (by decide +kernel : ∀ i, i < 11 → Int32.ofNat (stN.getD i 0) >>> ((0 : Int32) &&& 31) = zI (slen i)) i hi
    rw [h0]
    exact s_retz C rfl dJ0_length_8abf5_10)
theorem cs_pcheck {a n : Int} {fm : Value} (hfm : fm = .null ∨ ∃ a, fm = .ref a) (h : 0 ≤ zm a ∧ zm a < zm n) : Met l yJ3_checkIndex_8e157 (wsU yJ3_checkIndex_8e157 cJ3_checkIndex_8e157 3 (some .int)) (rmU 0 0) (va_Pc [.int (zI a), .int (zI n), fm] (Ev D cA adK adV A)) (QcRead (zI a)) 0 0 (fun _ => False) :=
  s_met (own := RJ3) (by decide) rfl _ (by rcases hfm with rfl | ⟨q, rfl⟩ <;> exact Nat.le_of_ble_eq_true rfl) (fun p e s m args below meth c ls C hl => by
    have hl : lv_has ls 3 [(0, .int (zI a)), (1, .int (zI n)), (2, fm)] := hl
    refine y_iload_n C dJ3_checkIndex_8e157_0 (lv_at hl 0 rfl) ?_
    refine y_if_lt (tgt := 9) C rfl dJ3_checkIndex_8e157_1 (by decide) (fun q => absurd h.1 (Int.not_le.mpr q)) (fun _ => ?_)
    refine y_iload_n C dJ3_checkIndex_8e157_4 (lv_at hl 0 rfl) ?_
    refine y_iload_n C dJ3_checkIndex_8e157_5 (lv_at hl 1 rfl) ?_
    refine y_icmp_lt (tgt := 16) C rfl rfl dJ3_checkIndex_8e157_6 (by decide) (fun _ => ?_) (fun q => absurd h.2 q)
    refine y_iload_n C dJ3_checkIndex_8e157_16 (lv_at hl 0 rfl) ?_
    exact s_retz C rfl dJ3_checkIndex_8e157_17)
theorem cs_check {a n : Int} (h : 0 ≤ zm a ∧ zm a < zm n) : Met l yJ0_checkIndex_df160 (wsU yJ0_checkIndex_df160 cJ0_checkIndex_df160 2 none) (rmU 1 22) (va_Pc [.int (zI a), .int (zI n)] (Ev D cA adK adV A)) (fun _ st o t => o = .returned none ∧ t.heap = st.heap) 0 0 (fun _ => False) :=
  s_met (own := RJ0) (by decide) rfl _ (Nat.le_of_ble_eq_true rfl) (fun p e s m args below meth c ls C hl => by
    have hl : lv_has ls 2 [(0, .int (zI a)), (1, .int (zI n))] := hl
    have hts := C.2.2.2.2.2.2.1
    have hE := C.2.2.2.2.2.2.2
    obtain ⟨fm, hfm, hZ⟩ := hE.2.2.2.2.2
    refine y_iload_n C dJ0_checkIndex_df160_0 (lv_at hl 0 rfl) ?_
    refine y_iload_n C dJ0_checkIndex_df160_1 (lv_at hl 1 rfl) ?_
    refine va_gets C.1 C.2.1 hZ va_S.rf C.2.2.2.2.2.1 (hts _ wd_414) (fun _ h => h) dJ0_checkIndex_df160_2 ?_
    refine s_rS (rest := []) C va_S.rf (cs_pcheck hfm h) mi_pcheck wd_416 wd_417 rfl ⟨by decide, by decide⟩ hl rfl (Nat.le_of_ble_eq_true rfl) dJ0_checkIndex_df160_5 ?_
    refine lv_pop C.1 C.2.1 dJ0_checkIndex_df160_8 rfl ?_
    have hlk := C.2.2.2.2.1
    exact W.vret C.1 C.2.1 C.2.2.2.1 (fun t ht hW => ⟨rfl, ht⟩) (fun q h => by cases h) dJ0_checkIndex_df160_9 hlk)
theorem cs_lchar {i : Nat} (hi : i < 11) {a : Int} (h : 0 ≤ zm a ∧ zm a < slen i) : Met l yJ1_charAt_3b067 (wsU yJ1_charAt_3b067 cJ1_charAt_3b067 2 (some .char)) (rmU 2 43) (va_Pc [.ref (adV i), .int (zI a)] (Ev D cA adK adV A)) (QcRead (zI (sch i (zm a)))) 0 0 (fun _ => False) :=
  s_met (own := RJ1) (by decide) rfl _ (Nat.le_of_ble_eq_true rfl) (fun p e s m args below meth c ls C hl => by
    have hl : lv_has ls 2 [(0, .ref (adV i)), (1, .int (zI a))] := hl
    have hts := C.2.2.2.2.2.2.1
    have hE := C.2.2.2.2.2.2.2
    obtain ⟨q1, q2, q3⟩ := st_all i hi
    have hsl : slen i = ((stN.getD i 0 : Nat) : Int) := rfl
    have hn : zm (slen i) = slen i := zm_eq (by rw [hsl]; omega) (by rw [hsl]; omega)
    refine y_iload_n C dJ1_charAt_3b067_0 (lv_at hl 1 rfl) ?_
    refine lv_aload_n C.1 C.2.1 dJ1_charAt_3b067_1 rfl (lv_at hl 0 rfl) ?_
    refine va_tlen C.1 C.2.1 (hE.2.1.1 i hi).2.2.2 va_S.rf (v := zI (slen i)) ((by decide +kernel : ∀ i, i < 11 → Int32.ofNat (stN.getD i 0) = zI (slen i)) i hi) dJ1_charAt_3b067_2 ?_
    have hr : va_Run p l e (rmU 2 43) s m args below meth c s.heap [] 0 0 0 0 (F0 m 3 ls [.int (zI (slen i)), .int (zI a)]) [] (fun st o t => o = .returned none ∧ t.heap = st.heap) (fun _ => False) :=
      va_runS (As := [.int (zI a), .int (zI (slen i))]) (rest := []) ⟨C.1, C.2.1, C.2.2.1, C.2.2.2.2.2.1, hts⟩ (cs_check (a := a) (n := slen i) (by rw [hn]; exact h)) ⟨callB_of 2 hts (wsU_in mi_check.2.2) rfl rfl rfl (hts _ mi_check.2.1) (hts _ wd_411) mi_check.1 ⟨by decide, by decide⟩, hts _ wd_412⟩ ⟨Ev.blind, fun U hU hW => ⟨rfl, hE.at va_S.rf hU hW⟩⟩ rfl rfl hl.1 rfl (lv_room (Nat.le_of_ble_eq_true rfl)) dJ1_charAt_3b067_3 ⟨Nat.zero_le _, Nat.zero_le _⟩
    intro T hT X
    obtain ⟨v, st₀, t, T', L, h0, X', hL, e1, e2, ⟨hv, hh⟩, st⟩ := hr T hT X
    cases hv
    have kk : W p l e (rmU 2 43) s m args below meth c s.heap [] 0 0 (MQ below (QcRead (zI (sch i (zm a)))) args s 0 0 (fun _ => False)) (F0 m 6 ls []) := by
      refine lv_aload_n C.1 C.2.1 dJ1_charAt_3b067_6 rfl (lv_at hl 0 rfl) ?_
      refine y_iload_n C dJ1_charAt_3b067_7 (lv_at hl 1 rfl) ?_
      have hin : 0 ≤ zm a ∧ zm a < ((stN.getD i 0 : Nat) : Int) := h
      refine va_tb C.1 C.2.1 (hE.2.1.1 i hi).2.2.2 va_S.rf (zI_in hin) rfl dJ1_charAt_3b067_8 ?_
      refine lv_sipush (v := 255) C.1 C.2.1 dJ1_charAt_3b067_9 (by decide) ?_
      refine lv_iand C.1 C.2.1 dJ1_charAt_3b067_12 ?_
      have hb : ((((stB.getD i []).getD (zI a).toNatClampNeg 0 &&& 255).toUInt32 % 65536).toInt32) = zI (sch i (zm a)) := by
        rw [zI_clamp]
        unfold sch
        rw [zI_of]
        apply q3
        have hlt : (zm a).toNat < (stB.getD i []).length := by omega
        exact sgetD_mem hlt
      refine lv_i2c C.1 C.2.1 dJ1_charAt_3b067_13 hb ?_
      refine s_retz C ?_ dJ1_charAt_3b067_14
      rw [← hb]
      exact pk_nc _
    obtain ⟨t2, a1, b1⟩ := kk T' (by rw [e1, hh, h0]) (Stand.forget X' (fun q h => (hL q h).elim))
    exact ⟨t2, st t2 a1, b1⟩)
theorem cs_char {i : Nat} (hi : i < 11) {a : Int} (h : 0 ≤ zm a ∧ zm a < slen i) : Met l yJ0_charAt_5068e (wsU yJ0_charAt_5068e cJ0_charAt_5068e 2 (some .char)) (rmU 3 64) (va_Pc [.ref (adK i), .int (zI a)] (Ev D cA adK adV A)) (QcRead (zI (sch i (zm a)))) 0 0 (fun _ => False) :=
  s_met (own := RJ0) (by decide) rfl _ (Nat.le_of_ble_eq_true rfl) (fun p e s m args below meth c ls C hl => by
    have hl : lv_has ls 2 [(0, .ref (adK i)), (1, .int (zI a))] := hl
    have hts := C.2.2.2.2.2.2.1
    have hE := C.2.2.2.2.2.2.2
    obtain ⟨q1, q2, q3⟩ := st_all i hi
    refine lv_aload_n C.1 C.2.1 dJ0_charAt_5068e_0 rfl (lv_at hl 0 rfl) ?_
    refine s_rV (rest := []) C va_S.rf hi (cs_latin hi) mi_latin wd_404 wd_405 wd_406 rfl ⟨by decide, by decide⟩ hl rfl (Nat.le_of_ble_eq_true rfl) dJ0_charAt_5068e_1 ?_
    refine lv_if_eq (tgt := 16) C.1 C.2.1 dJ0_charAt_5068e_4 (by decide) (fun h => absurd h (by decide)) (fun _ => ?_)
    refine lv_aload_n C.1 C.2.1 dJ0_charAt_5068e_7 rfl (lv_at hl 0 rfl) ?_
    refine vk_getf C.1 C.2.1 (hE.2.1.1 i hi).2.2.1 va_S.rf C.2.2.2.2.2.1 (hts _ wd_1368) (fun _ h => h) dJ0_charAt_5068e_8 ?_
    refine y_iload_n C dJ0_charAt_5068e_11 (lv_at hl 1 rfl) ?_
    refine s_rS (rest := []) C va_S.rf (cs_lchar hi h) mi_lchar wd_408 wd_409 rfl ⟨by decide, by decide⟩ hl rfl (Nat.le_of_ble_eq_true rfl) dJ0_charAt_5068e_12 ?_
    refine s_retz C ?_ dJ0_charAt_5068e_15
    have hb : ((((stB.getD i []).getD (zm a).toNat 0 &&& 255).toUInt32 % 65536).toInt32) = zI (sch i (zm a)) := by
      unfold sch
      rw [zI_of]
      apply q3
      have hlt : (zm a).toNat < (stB.getD i []).length := by
        have hsl : slen i = ((stN.getD i 0 : Nat) : Int) := rfl
        omega
      exact sgetD_mem hlt
    rw [← hb]
    exact pk_nc _)
variable {p : Program} {e : Env} {Rm : Room} {s : State} {m : MethodId} {args : Array Value} {below : List Frame} {meth : Method} {c : Code} {H : Heap} {locs : List Loc} {Q : State → Prop}
variable {cc : ByteArray} {own : String} {nL : Nat} {ret : Option FieldType} {pc : Nat} {ls : Array Slot} {rest : List Value} {lv : List (Nat × Value)} {ad : Int → Nat} {kf : Int → Nat × Nat} {n : Nat} {R : va_W} {σ : St} {index : Nat}
theorem y_slen (C : Cx cc own nL ret D cA adK adV A p s m args meth c) (hw : At D cA ad kf n R A s σ H locs) (hl : lv_has ls nL lv) {i : Nat} (hi : i < 11) (hlink : Cond.methodLink own index ⟨"java/lang/String", "length", "()I"⟩ ∈ gt) (hR : (2 ≤ Rm.frames ∧ 40 ≤ Rm.locals)) (hW : (rest.map fun v => v.category).sum ≤ 8) (hdg : decode cc pc = .ok (.invokevirtual index, 3))
    (kk : W p l e Rm s m args below meth c H locs 0 0 Q (F0 m (pc + 3) ls (.int (zI (slen i)) :: rest))) : W p l e Rm s m args below meth c H locs 0 0 Q (F0 m pc ls (.ref (adK i) :: rest)) :=
  s_rV (As := []) (rest := rest) C hw.2 hi (cs_length hi) mi_slength hlink wd_391 wd_392 rfl ⟨hR.1, hR.2⟩ hl rfl hW hdg kk
theorem y_scharAt (C : Cx cc own nL ret D cA adK adV A p s m args meth c) (hw : At D cA ad kf n R A s σ H locs) (hl : lv_has ls nL lv) {i : Nat} (hi : i < 11) {a i' : Int} (ha : zm a = i') (h : 0 ≤ i' ∧ i' < slen i) (hlink : Cond.methodLink own index ⟨"java/lang/String", "charAt", "(I)C"⟩ ∈ gt) (hR : (4 ≤ Rm.frames ∧ 85 ≤ Rm.locals)) (hW : (rest.map fun v => v.category).sum ≤ 8) (hdg : decode cc pc = .ok (.invokevirtual index, 3))
    (kk : W p l e Rm s m args below meth c H locs 0 0 Q (F0 m (pc + 3) ls (.int (zI (sch i i')) :: rest))) : W p l e Rm s m args below meth c H locs 0 0 Q (F0 m pc ls (.int (zI a) :: .ref (adK i) :: rest)) := by
  subst ha
  exact s_rV (As := [.int (zI a)]) (rest := rest) C hw.2 hi (cs_char hi h) mi_schar hlink wd_401 wd_402 rfl ⟨hR.1, hR.2⟩ hl rfl hW hdg kk
end S
