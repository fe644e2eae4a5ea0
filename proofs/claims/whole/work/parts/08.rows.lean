section R
variable {p : Program} {l : Launch} {e : Env} {Rm : Room} {s : State} {m : MethodId} {args : Array Value} {below : List Frame} {meth : Method} {c : Code} {H : Heap} {locs : List Loc} {Q : State → Prop} {nc ns : Nat}
variable {cc : ByteArray} {own : String} {nL : Nat} {ret : Option FieldType} {D : va_G} {cA : Nat → ClassId} {adK adV : Nat → Nat} {A : Nat → Prop}
variable {ad : Int → Nat} {kf : Int → Nat × Nat} {n : Nat} {R : va_W} {σ : St} {pc : Nat} {ls : Array Slot} {rest : List Value}
theorem y_zald (C : Cx cc own nL ret D cA adK adV A p s m args meth c) (hw : At D cA ad kf n R A s σ H locs) {o : Int} {N : Nat} (ho : kf o = (21, N)) {i i' : Int} (hi' : zm i = i') (hi : 0 ≤ i' ∧ i' < (N : Int)) (hdg : decode cc pc = .ok (.baload, 1))
    (kk : W p l e Rm s m args below meth c H locs nc ns Q (F0 m (pc + 1) ls (.int (zI (σ o i')) :: rest))) : W p l e Rm s m args below meth c H locs nc ns Q (F0 m pc ls (.int (zI i) :: .ref (ad o) :: rest)) := by
  subst hi'
  have hr := hw.1.1 o (by rw [ho]; exact (by decide : (21 : Nat) ≠ 99))
  have hat := wl_at (cA := cA) (ad := ad) (kf := kf) (σ := σ) (R := R) hr
  rw [ho] at hat
  refine va_zald C.1 C.2.1 C.2.2.2.2.2.2.2.1 hw.1.2.1 o.toNat 1 hat rfl (zI_in hi) hdg ?_
  rw [zI_clamp]
  have : (((zm i).toNat : Nat) : Int) = zm i := Int.toNat_of_nonneg hi.1
  rw [this]
  exact kk
theorem zb_nar {z : Int} (h : z = 0 ∨ z = 1) : narrow .boolean (.int (zI z)) = .int (zI z) := by
  rcases h with rfl | rfl <;> decide
theorem zb_vp {z : Int} (h : z = 0 ∨ z = 1) : vp_nar .boolean (zI z) = zI z := by
  rcases h with rfl | rfl <;> decide
theorem y_zast (C : Cx cc own nL ret D cA adK adV A p s m args meth c) (hw : At D cA ad kf n R A s σ H locs) {o : Int} {N : Nat} (ho : kf o = (21, N)) {i i' z : Int} (hi' : zm i = i') (hi : 0 ≤ i' ∧ i' < (N : Int)) (hz : z = 0 ∨ z = 1) (hdg : decode cc pc = .ok (.bastore, 1))
    (kk : ∀ (H1 : Heap) (locs1 : List Loc), At D cA ad kf n R A s (su σ o i' z) H1 locs1 → W p l e Rm s m args below meth c H1 locs1 nc ns Q (F0 m (pc + 1) ls rest)) : W p l e Rm s m args below meth c H locs nc ns Q (F0 m pc ls (.int (zI z) :: .int (zI i) :: .ref (ad o) :: rest)) := by
  subst hi'
  have hr := hw.1.1 o (by rw [ho]; exact (by decide : (21 : Nat) ≠ 99))
  have hat := wl_at (cA := cA) (ad := ad) (kf := kf) (σ := σ) (R := R) hr
  rw [ho] at hat
  have hs := wl_set (cA := cA) (ad := ad) (kf := kf) (σ := σ) (σ' := su σ o (zm i) z) (R := R) hr (fun q hq => su_ne σ _ _ hq)
  rw [su_self, ho] at hs
  refine va_zast C.1 C.2.1 C.2.2.2.2.2.2.2.1 hw.1.2.1 hw.1.2.2 hw.2 o.toNat 1 hat rfl (zI_in hi) hdg (fun H1 locs1 hP hD hS => ?_)
  rw [zb_vp hz] at hP hD
  have hf : upd (fun j : Nat => zI (σ o (j : Int))) (zI i).toNatClampNeg (zI z) = fun j : Nat => zI (up (σ o) (zm i) z (j : Int)) := by
    funext j
    rw [zI_clamp]
    have h1 : (((zm i).toNat : Nat) : Int) = zm i := Int.toNat_of_nonneg hi.1
    by_cases hj : j = (zm i).toNat
    · subst hj
      simp [upd, up, h1]
    · have : (j : Int) ≠ zm i := by omega
      simp [upd, up, hj, this]
  rw [hf] at hP hD
  have hs' : (wl cA ad kf n σ ++ R).set o.toNat (ad o, .inl (cA 1, N, .inl (fun j : Nat => zI (up (σ o) (zm i) z (j : Int))))) = wl cA ad kf n (su σ o (zm i) z) ++ R := hs
  rw [hs'] at hP hD
  exact kk H1 locs1 ⟨⟨hw.1.1, hP, hD⟩, hS⟩
theorem y_lald (C : Cx cc own nL ret D cA adK adV A p s m args meth c) (hw : At D cA ad kf n R A s σ H locs) {o : Int} {N : Nat} (ho : kf o = (22, N)) {i i' : Int} (hi' : zm i = i') (hi : 0 ≤ i' ∧ i' < (N : Int)) (hdg : decode cc pc = .ok (.laload, 1))
    (kk : W p l e Rm s m args below meth c H locs nc ns Q (F0 m (pc + 1) ls (.long (zJ (σ o i')) :: rest))) : W p l e Rm s m args below meth c H locs nc ns Q (F0 m pc ls (.int (zI i) :: .ref (ad o) :: rest)) := by
  subst hi'
  have hr := hw.1.1 o (by rw [ho]; exact (by decide : (22 : Nat) ≠ 99))
  have hat := wl_at (cA := cA) (ad := ad) (kf := kf) (σ := σ) (R := R) hr
  rw [ho] at hat
  refine va_lald C.1 C.2.1 C.2.2.2.2.2.2.2.1 hw.1.2.1 o.toNat 2 hat rfl (zI_in hi) hdg ?_
  rw [zI_clamp]
  have : (((zm i).toNat : Nat) : Int) = zm i := Int.toNat_of_nonneg hi.1
  rw [this]
  exact kk
theorem y_last (C : Cx cc own nL ret D cA adK adV A p s m args meth c) (hw : At D cA ad kf n R A s σ H locs) {o : Int} {N : Nat} (ho : kf o = (22, N)) {i i' z : Int} (hi' : zm i = i') (hi : 0 ≤ i' ∧ i' < (N : Int)) (hdg : decode cc pc = .ok (.lastore, 1))
    (kk : ∀ (H1 : Heap) (locs1 : List Loc), At D cA ad kf n R A s (su σ o i' z) H1 locs1 → W p l e Rm s m args below meth c H1 locs1 nc ns Q (F0 m (pc + 1) ls rest)) : W p l e Rm s m args below meth c H locs nc ns Q (F0 m pc ls (.long (zJ z) :: .int (zI i) :: .ref (ad o) :: rest)) := by
  subst hi'
  have hr := hw.1.1 o (by rw [ho]; exact (by decide : (22 : Nat) ≠ 99))
  have hat := wl_at (cA := cA) (ad := ad) (kf := kf) (σ := σ) (R := R) hr
  rw [ho] at hat
  have hs := wl_set (cA := cA) (ad := ad) (kf := kf) (σ := σ) (σ' := su σ o (zm i) z) (R := R) hr (fun q hq => su_ne σ _ _ hq)
  rw [su_self, ho] at hs
  refine va_last C.1 C.2.1 C.2.2.2.2.2.2.2.1 hw.1.2.1 hw.1.2.2 hw.2 o.toNat 2 hat rfl (zI_in hi) hdg (fun H1 locs1 hP hD hS => ?_)
  have hf : vp_updL (fun j : Nat => zJ (σ o (j : Int))) (zI i).toNatClampNeg (zJ z) = fun j : Nat => zJ (up (σ o) (zm i) z (j : Int)) := by
    funext j
    rw [zI_clamp]
    have h1 : (((zm i).toNat : Nat) : Int) = zm i := Int.toNat_of_nonneg hi.1
    by_cases hj : j = (zm i).toNat
    · subst hj
      simp [vp_updL, up, h1]
    · have : (j : Int) ≠ zm i := by omega
      simp [vp_updL, up, hj, this]
  rw [hf] at hP hD
  have hs' : (wl cA ad kf n σ ++ R).set o.toNat (ad o, .inl (cA 2, N, .inr (.inl (fun j : Nat => zJ (up (σ o) (zm i) z (j : Int)))))) = wl cA ad kf n (su σ o (zm i) z) ++ R := hs
  rw [hs'] at hP hD
  exact kk H1 locs1 ⟨⟨hw.1.1, hP, hD⟩, hS⟩
/-- an array of references: t its kind, tc its class's place -/
theorem y_aald (C : Cx cc own nL ret D cA adK adV A p s m args meth c) (hw : At D cA ad kf n R A s σ H locs) {o : Int} {t tc N : Nat} (ho : kf o = (t, N)) (h99 : t ≠ 99) {b d : Int} {Cn : String} (hen : en cA ad (t, N) o (σ o) = .inl (cA tc, N, .inr (.inr (.inr (.inr (raf ad b d)))))) (hty : (tysL cA)[tc]? = some (cA tc, .object Cn)) {i i' : Int} (hi' : zm i = i') (hi : 0 ≤ i' ∧ i' < (N : Int)) (hdg : decode cc pc = .ok (.aaload, 1))
    (kk : W p l e Rm s m args below meth c H locs nc ns Q (F0 m (pc + 1) ls (.ref (ad (b + d * i')) :: rest))) : W p l e Rm s m args below meth c H locs nc ns Q (F0 m pc ls (.int (zI i) :: .ref (ad o) :: rest)) := by
  subst hi'
  have hr := hw.1.1 o (by rw [ho]; exact h99)
  have hat := wl_at (cA := cA) (ad := ad) (kf := kf) (σ := σ) (R := R) hr
  rw [ho, hen] at hat
  refine va_aldq C.1 C.2.1 C.2.2.2.2.2.2.2.1 hw.1.2.1 o.toNat tc hat hty (zI_in hi) hdg ?_
  have : (((zm i).toNat : Nat) : Int) = zm i := Int.toNat_of_nonneg hi.1
  show W p l e Rm s m args below meth c H locs nc ns Q (F0 m (pc + 1) ls (.ref (ad (b + d * (((zI i).toNatClampNeg : Nat) : Int))) :: rest))
  rw [zI_clamp, this]
  exact kk
-- constants, locals, stack
theorem y_iconst (C : Cx cc own nL ret D cA adK adV A p s m args meth c) {z : Int} (hdg : decode cc pc = .ok (.iconst z, 1)) (k : W p l e Rm s m args below meth c H locs nc ns Q (F0 m (pc + 1) ls (.int (zI z) :: rest))) : W p l e Rm s m args below meth c H locs nc ns Q (F0 m pc ls rest) := lv_iconst C.1 C.2.1 hdg rfl k
theorem y_bipush (C : Cx cc own nL ret D cA adK adV A p s m args meth c) {z : Int} (hdg : decode cc pc = .ok (.bipush z, 2)) (hv : (Int8.ofInt z).toInt32 = zI z) (k : W p l e Rm s m args below meth c H locs nc ns Q (F0 m (pc + 2) ls (.int (zI z) :: rest))) : W p l e Rm s m args below meth c H locs nc ns Q (F0 m pc ls rest) := lv_bipush C.1 C.2.1 hdg hv k
theorem y_sipush (C : Cx cc own nL ret D cA adK adV A p s m args meth c) {z : Int} (hdg : decode cc pc = .ok (.sipush z, 3)) (hv : (Int16.ofInt z).toInt32 = zI z) (k : W p l e Rm s m args below meth c H locs nc ns Q (F0 m (pc + 3) ls (.int (zI z) :: rest))) : W p l e Rm s m args below meth c H locs nc ns Q (F0 m pc ls rest) := lv_sipush C.1 C.2.1 hdg hv k
theorem y_ldc (C : Cx cc own nL ret D cA adK adV A p s m args meth c) {index : Nat} {v : Int32} {z : Int} (hm : Cond.constant own index v ∈ gt) (hv : v = zI z) (hdg : decode cc pc = .ok (.ldc index, 2)) (k : W p l e Rm s m args below meth c H locs nc ns Q (F0 m (pc + 2) ls (.int (zI z) :: rest))) : W p l e Rm s m args below meth c H locs nc ns Q (F0 m pc ls rest) := by
  subst hv
  exact lv_ldc C.1 C.2.1 C.2.2.2.2.2.1 (C.2.2.2.2.2.2.1 _ hm) hdg k
theorem y_ldcw (C : Cx cc own nL ret D cA adK adV A p s m args meth c) {index : Nat} {v : Int32} {z : Int} (hm : Cond.constant own index v ∈ gt) (hv : v = zI z) (hdg : decode cc pc = .ok (.ldc_w index, 3)) (k : W p l e Rm s m args below meth c H locs nc ns Q (F0 m (pc + 3) ls (.int (zI z) :: rest))) : W p l e Rm s m args below meth c H locs nc ns Q (F0 m pc ls rest) := by
  subst hv
  exact lv_ldcw C.1 C.2.1 C.2.2.2.2.2.1 (C.2.2.2.2.2.2.1 _ hm) hdg k
theorem y_ldc2 (C : Cx cc own nL ret D cA adK adV A p s m args meth c) {index : Nat} {v : Int64} {z : Int} (hm : Cond.constantLong own index v ∈ gt) (hv : v = zJ z) (hdg : decode cc pc = .ok (.ldc2_w index, 3)) (k : W p l e Rm s m args below meth c H locs nc ns Q (F0 m (pc + 3) ls (.long (zJ z) :: rest))) : W p l e Rm s m args below meth c H locs nc ns Q (F0 m pc ls rest) := by
  subst hv
  exact lv_ldc2 C.1 C.2.1 C.2.2.2.2.2.1 (C.2.2.2.2.2.2.1 _ hm) hdg k
theorem y_lconst (C : Cx cc own nL ret D cA adK adV A p s m args meth c) {z : Fin 2} {z' : Int} (hdg : decode cc pc = .ok (.lconst z, 1)) (hv : Int64.ofNat (z : Nat) = zJ z') (k : W p l e Rm s m args below meth c H locs nc ns Q (F0 m (pc + 1) ls (.long (zJ z') :: rest))) : W p l e Rm s m args below meth c H locs nc ns Q (F0 m pc ls rest) := lv_lconst C.1 C.2.1 hdg hv k
theorem y_ldcS (C : Cx cc own nL ret D cA adK adV A p s m args meth c) {index i : Nat} (hi : i < 11) (ho : (stO i).1 = own) (hx : (stO i).2.1 = index) (hdg : decode cc pc = .ok (.ldc index, 2)) (k : W p l e Rm s m args below meth c H locs nc ns Q (F0 m (pc + 2) ls (.ref (adK i) :: rest))) : W p l e Rm s m args below meth c H locs nc ns Q (F0 m pc ls rest) := by
  have h := C.2.2.2.2.2.2.2.2.2.2.1 i hi
  rw [ho, hx] at h
  exact va_ldcS C.1 C.2.1 C.2.2.2.2.2.1 h hdg k
theorem y_iload (C : Cx cc own nL ret D cA adK adV A p s m args meth c) {i : Nat} {x : Int32} (hdg : decode cc pc = .ok (.iload i, 2)) (hl : ls[i]? = some (.val (.int x))) (k : W p l e Rm s m args below meth c H locs nc ns Q (F0 m (pc + 2) ls (.int x :: rest))) : W p l e Rm s m args below meth c H locs nc ns Q (F0 m pc ls rest) := lv_iload C.1 C.2.1 hdg hl k
theorem y_iload_n (C : Cx cc own nL ret D cA adK adV A p s m args meth c) {i : Fin 4} {x : Int32} (hdg : decode cc pc = .ok (.iload_n i, 1)) (hl : ls[(i : Nat)]? = some (.val (.int x))) (k : W p l e Rm s m args below meth c H locs nc ns Q (F0 m (pc + 1) ls (.int x :: rest))) : W p l e Rm s m args below meth c H locs nc ns Q (F0 m pc ls rest) := lv_iload_n C.1 C.2.1 hdg rfl hl k
theorem y_lload (C : Cx cc own nL ret D cA adK adV A p s m args meth c) {i : Nat} {x : Int64} (hdg : decode cc pc = .ok (.lload i, 2)) (hl : ls[i]? = some (.val (.long x))) (k : W p l e Rm s m args below meth c H locs nc ns Q (F0 m (pc + 2) ls (.long x :: rest))) : W p l e Rm s m args below meth c H locs nc ns Q (F0 m pc ls rest) := lv_lload C.1 C.2.1 hdg hl k
theorem y_lload_n (C : Cx cc own nL ret D cA adK adV A p s m args meth c) {i : Fin 4} {x : Int64} (hdg : decode cc pc = .ok (.lload_n i, 1)) (hl : ls[(i : Nat)]? = some (.val (.long x))) (k : W p l e Rm s m args below meth c H locs nc ns Q (F0 m (pc + 1) ls (.long x :: rest))) : W p l e Rm s m args below meth c H locs nc ns Q (F0 m pc ls rest) := lv_lload_n C.1 C.2.1 hdg rfl hl k
theorem y_aload (C : Cx cc own nL ret D cA adK adV A p s m args meth c) {i : Nat} {x : Nat} (hdg : decode cc pc = .ok (.aload i, 2)) (hl : ls[i]? = some (.val (.ref x))) (k : W p l e Rm s m args below meth c H locs nc ns Q (F0 m (pc + 2) ls (.ref x :: rest))) : W p l e Rm s m args below meth c H locs nc ns Q (F0 m pc ls rest) := lv_aload C.1 C.2.1 hdg hl k
theorem y_aload_n (C : Cx cc own nL ret D cA adK adV A p s m args meth c) {i : Fin 4} {x : Nat} (hdg : decode cc pc = .ok (.aload_n i, 1)) (hl : ls[(i : Nat)]? = some (.val (.ref x))) (k : W p l e Rm s m args below meth c H locs nc ns Q (F0 m (pc + 1) ls (.ref x :: rest))) : W p l e Rm s m args below meth c H locs nc ns Q (F0 m pc ls rest) := lv_aload_n C.1 C.2.1 hdg rfl hl k
/-- what may be null, off a local -/
theorem y_aloadV (C : Cx cc own nL ret D cA adK adV A p s m args meth c) {i : Nat} {z : Int} (hdg : decode cc pc = .ok (.aload i, 2)) (hl : ls[i]? = some (.val (rv ad z))) (k : W p l e Rm s m args below meth c H locs nc ns Q (F0 m (pc + 2) ls (rv ad z :: rest))) : W p l e Rm s m args below meth c H locs nc ns Q (F0 m pc ls rest) := by
  by_cases hz : z < 0
  · rw [rv_null hz] at hl k; exact lv_aloadN C.1 C.2.1 hdg hl k
  · rw [rv_ref (Int.not_lt.mp hz)] at hl k; exact lv_aload C.1 C.2.1 hdg hl k
theorem y_aloadV_n (C : Cx cc own nL ret D cA adK adV A p s m args meth c) {i : Fin 4} {z : Int} (hdg : decode cc pc = .ok (.aload_n i, 1)) (hl : ls[(i : Nat)]? = some (.val (rv ad z))) (k : W p l e Rm s m args below meth c H locs nc ns Q (F0 m (pc + 1) ls (rv ad z :: rest))) : W p l e Rm s m args below meth c H locs nc ns Q (F0 m pc ls rest) := by
  by_cases hz : z < 0
  · rw [rv_null hz] at hl k; exact lv_aload_nN C.1 C.2.1 hdg rfl hl k
  · rw [rv_ref (Int.not_lt.mp hz)] at hl k; exact lv_aload_n C.1 C.2.1 hdg rfl hl k
theorem y_ifnonnullV (C : Cx cc own nL ret D cA adK adV A p s m args meth c) {z : Int} {off : Int} {tgt : Nat} (hdg : decode cc pc = .ok (.ifnonnull off, 3)) (ht : (pc : Int) + off = (tgt : Int)) (kn : z < 0 → W p l e Rm s m args below meth c H locs nc ns Q (F0 m (pc + 3) ls rest)) (kr : ¬ z < 0 → W p l e Rm s m args below meth c H locs nc ns Q (F0 m tgt ls rest)) : W p l e Rm s m args below meth c H locs nc ns Q (F0 m pc ls (rv ad z :: rest)) := by
  by_cases hz : z < 0
  · rw [rv_null hz]; exact lv_ifnonnullN C.1 C.2.1 hdg (kn hz)
  · rw [rv_ref (Int.not_lt.mp hz)]; exact lv_ifnonnull C.1 C.2.1 hdg ht (kr hz)
theorem y_null (C : Cx cc own nL ret D cA adK adV A p s m args meth c) (hdg : decode cc pc = .ok (.aconst_null, 1)) (k : W p l e Rm s m args below meth c H locs nc ns Q (F0 m (pc + 1) ls (rv ad (-1) :: rest))) : W p l e Rm s m args below meth c H locs nc ns Q (F0 m pc ls rest) := lv_null C.1 C.2.1 hdg (by rw [rv_null (by decide)] at k; exact k)
theorem y_istore (C : Cx cc own nL ret D cA adK adV A p s m args meth c) {i q : Nat} {x : Int32} {lv lv' : List (Nat × Value)} (hdg : decode cc pc = .ok (.istore i, 2)) (h : lv_has ls q lv) (hn : i < q) (hl : (i, Value.int x) :: lv.filter (fun q => !(q.1 == i) && !(q.1 + 1 == i && q.2.category == 2)) = lv') (kk : ∀ ls' : Array Slot, lv_has ls' q lv' → W p l e Rm s m args below meth c H locs nc ns Q (F0 m (pc + 2) ls' rest)) : W p l e Rm s m args below meth c H locs nc ns Q (F0 m pc ls (.int x :: rest)) := lv_istore C.1 C.2.1 hdg h hn hl kk
theorem y_istore_n (C : Cx cc own nL ret D cA adK adV A p s m args meth c) {i : Fin 4} {q : Nat} {x : Int32} {lv lv' : List (Nat × Value)} (hdg : decode cc pc = .ok (.istore_n i, 1)) (h : lv_has ls q lv) (hn : (i : Nat) < q) (hl : ((i : Nat), Value.int x) :: lv.filter (fun q => !(q.1 == (i : Nat)) && !(q.1 + 1 == (i : Nat) && q.2.category == 2)) = lv') (kk : ∀ ls' : Array Slot, lv_has ls' q lv' → W p l e Rm s m args below meth c H locs nc ns Q (F0 m (pc + 1) ls' rest)) : W p l e Rm s m args below meth c H locs nc ns Q (F0 m pc ls (.int x :: rest)) := lv_istore_n C.1 C.2.1 hdg rfl h hn hl kk
theorem y_astore (C : Cx cc own nL ret D cA adK adV A p s m args meth c) {i q : Nat} {x : Nat} {lv lv' : List (Nat × Value)} (hdg : decode cc pc = .ok (.astore i, 2)) (h : lv_has ls q lv) (hn : i < q) (hl : (i, Value.ref x) :: lv.filter (fun q => !(q.1 == i) && !(q.1 + 1 == i && q.2.category == 2)) = lv') (kk : ∀ ls' : Array Slot, lv_has ls' q lv' → W p l e Rm s m args below meth c H locs nc ns Q (F0 m (pc + 2) ls' rest)) : W p l e Rm s m args below meth c H locs nc ns Q (F0 m pc ls (.ref x :: rest)) := lv_astore C.1 C.2.1 hdg h hn hl kk
theorem y_astore_n (C : Cx cc own nL ret D cA adK adV A p s m args meth c) {i : Fin 4} {q : Nat} {x : Nat} {lv lv' : List (Nat × Value)} (hdg : decode cc pc = .ok (.astore_n i, 1)) (h : lv_has ls q lv) (hn : (i : Nat) < q) (hl : ((i : Nat), Value.ref x) :: lv.filter (fun q => !(q.1 == (i : Nat)) && !(q.1 + 1 == (i : Nat) && q.2.category == 2)) = lv') (kk : ∀ ls' : Array Slot, lv_has ls' q lv' → W p l e Rm s m args below meth c H locs nc ns Q (F0 m (pc + 1) ls' rest)) : W p l e Rm s m args below meth c H locs nc ns Q (F0 m pc ls (.ref x :: rest)) := lv_astore_n C.1 C.2.1 hdg rfl h hn hl kk
theorem y_lstore (C : Cx cc own nL ret D cA adK adV A p s m args meth c) {i q : Nat} {x : Int64} {lv lv' : List (Nat × Value)} (hdg : decode cc pc = .ok (.lstore i, 2)) (h : lv_has ls q lv) (hn : i + 1 < q) (hl : (i, Value.long x) :: lv.filter (fun q => !(q.1 == i) && (!(q.1 == i + 1) && !(q.1 + 1 == i && q.2.category == 2))) = lv') (kk : ∀ ls' : Array Slot, lv_has ls' q lv' → W p l e Rm s m args below meth c H locs nc ns Q (F0 m (pc + 2) ls' rest)) : W p l e Rm s m args below meth c H locs nc ns Q (F0 m pc ls (.long x :: rest)) := lv_lstore C.1 C.2.1 hdg h hn hl kk
theorem y_lstore_n (C : Cx cc own nL ret D cA adK adV A p s m args meth c) {i : Fin 4} {q : Nat} {x : Int64} {lv lv' : List (Nat × Value)} (hdg : decode cc pc = .ok (.lstore_n i, 1)) (h : lv_has ls q lv) (hn : (i : Nat) + 1 < q) (hl : ((i : Nat), Value.long x) :: lv.filter (fun q => !(q.1 == (i : Nat)) && (!(q.1 == (i : Nat) + 1) && !(q.1 + 1 == (i : Nat) && q.2.category == 2))) = lv') (kk : ∀ ls' : Array Slot, lv_has ls' q lv' → W p l e Rm s m args below meth c H locs nc ns Q (F0 m (pc + 1) ls' rest)) : W p l e Rm s m args below meth c H locs nc ns Q (F0 m pc ls (.long x :: rest)) := lv_lstore_n C.1 C.2.1 hdg rfl h hn hl kk
theorem y_iinc (C : Cx cc own nL ret D cA adK adV A p s m args meth c) {i q k : Nat} {w z : Int} {lv lv' : List (Nat × Value)} (hdg : decode cc pc = .ok (.iinc i w, 3)) (h : lv_has ls q lv) (hk : lv[k]? = some (i, .int (zI z))) (hn : i < q) (hl : (i, Value.int (zI (z + w))) :: lv.filter (fun q => !(q.1 == i) && !(q.1 + 1 == i && q.2.category == 2)) = lv') (kk : ∀ ls' : Array Slot, lv_has ls' q lv' → W p l e Rm s m args below meth c H locs nc ns Q (F0 m (pc + 3) ls' rest)) : W p l e Rm s m args below meth c H locs nc ns Q (F0 m pc ls rest) := lv_iinc C.1 C.2.1 hdg h hk (zI_add z w).symm hn hl kk
theorem y_dup (C : Cx cc own nL ret D cA adK adV A p s m args meth c) {va : Value} (hdg : decode cc pc = .ok (.dup, 1)) (hva : va.category = 1) (k : W p l e Rm s m args below meth c H locs nc ns Q (F0 m (pc + 1) ls (va :: va :: rest))) : W p l e Rm s m args below meth c H locs nc ns Q (F0 m pc ls (va :: rest)) := lv_dup C.1 C.2.1 hdg hva k
theorem y_dup2 (C : Cx cc own nL ret D cA adK adV A p s m args meth c) {va vb : Value} (hdg : decode cc pc = .ok (.dup2, 1)) (hva : va.category = 1) (hvb : vb.category = 1) (k : W p l e Rm s m args below meth c H locs nc ns Q (F0 m (pc + 1) ls (va :: vb :: va :: vb :: rest))) : W p l e Rm s m args below meth c H locs nc ns Q (F0 m pc ls (va :: vb :: rest)) := lv_dup2_11 C.1 C.2.1 hdg hva hvb k
theorem y_pop (C : Cx cc own nL ret D cA adK adV A p s m args meth c) {va : Value} (hdg : decode cc pc = .ok (.pop, 1)) (hva : va.category = 1) (k : W p l e Rm s m args below meth c H locs nc ns Q (F0 m (pc + 1) ls rest)) : W p l e Rm s m args below meth c H locs nc ns Q (F0 m pc ls (va :: rest)) := lv_pop C.1 C.2.1 hdg hva k
theorem y_goto (C : Cx cc own nL ret D cA adK adV A p s m args meth c) {off : Int} {tgt : Nat} (hdg : decode cc pc = .ok (.goto off, 3)) (ht : (pc : Int) + off = (tgt : Int)) (k : W p l e Rm s m args below meth c H locs nc ns Q (F0 m tgt ls rest)) : W p l e Rm s m args below meth c H locs nc ns Q (F0 m pc ls rest) := lv_goto C.1 C.2.1 hdg ht k
end R
