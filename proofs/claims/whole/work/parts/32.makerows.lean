/-! making: a world that grows at its end -/
def AW (D : va_G) (A : Nat → Prop) (s : State) (W : va_W) (H : Heap) (locs : List Loc) : Prop := va_P D vwCl W H ∧ va_D A W ∧ va_S A s.heap H locs
def PrI (D : va_G) (cA : Nat → ClassId) (adK adV : Nat → Nat) (A : Nat → Prop) (W : va_W) (U : State) : Prop := Ev D cA adK adV A U ∧ (∀ q, U.heap.size ≤ q → A q) ∧ va_P D vwCl W U.heap ∧ va_D A W
def aoL : List String := ["RungHouse$House", "RungHouse$Sort", "RungHouse$Rule", "RungHouse$Plan", "RungHouse$Memory"]
/-- ..and what arrays of references need -/
def PrA (D : va_G) (cA : Nat → ClassId) (adK adV : Nat → Nat) (A : Nat → Prop) (W : va_W) (U : State) : Prop := PrI D cA adK adV A W U ∧ ∀ C ∈ aoL, va_AO C U
theorem PrI.blind {D : va_G} {cA : Nat → ClassId} {adK adV : Nat → Nat} {A : Nat → Prop} {W : va_W} {av : List Value} : FrameBlind (va_Pc av (PrI D cA adK adV A W)) := fun a U g mk q => ⟨q.1, q.2.1.calling g mk a, q.2.2.1, q.2.2.2⟩
theorem PrA.blind {D : va_G} {cA : Nat → ClassId} {adK adV : Nat → Nat} {A : Nat → Prop} {W : va_W} {av : List Value} : FrameBlind (va_Pc av (PrA D cA adK adV A W)) := fun a U g mk q => ⟨q.1, ⟨q.2.1.1.calling g mk a, q.2.1.2.1, q.2.1.2.2⟩, fun C hC => va_AO.moved (u := U) (U := U.calling g mk a) (Vm.Alike.refl U.vm) (q.2.2 C hC)⟩
def QN {S : Type} (D : va_G) (A : Nat → Prop) (Wp : S → va_W) : Array Value → State → Outcome → State → Prop := va_Qv (S := S) (fun _ => True) (fun u t => va_P D vwCl (Wp u) t.heap ∧ va_D A (Wp u)) A
theorem at_app (ws tl : va_W) (j : Nat) : (ws ++ tl)[ws.length + j]? = tl[j]? := by
  rw [List.getElem?_append_right (by omega)]
  congr 1
  omega
theorem set_app (ws tl : va_W) (j : Nat) (x : Nat × va_E) : (ws ++ tl).set (ws.length + j) x = ws ++ tl.set j x := by
  rw [List.set_append_right _ _ (by omega)]
  congr 2
  omega
section Z
variable {p : Program} {l : Launch} {e : Env} {Rm : Room} {s : State} {m : MethodId} {args : Array Value} {below : List Frame} {meth : Method} {c : Code} {H : Heap} {locs : List Loc} {Q : State → Prop} {nc ns : Nat}
variable {cc : ByteArray} {own : String} {nL : Nat} {ret : Option FieldType} {D : va_G} {cA : Nat → ClassId} {adK adV : Nat → Nat} {A : Nat → Prop} {pc : Nat} {ls : Array Slot} {rest st : List Value} {W0 ws tl : va_W}
theorem z_new (C : Cx cc own nL ret D cA adK adV A p s m args meth c) (hA : ∀ q, s.heap.size ≤ q → A q) (hw : AW D A s W0 H locs) {Cn : String} {T : u_T} {N ci index : Nat} (hin : ∀ w ∈ u_ws Cn T N, w ∈ gt) (ty : Nat → FieldType) (hty : ∀ k, k < N → parseFieldDescriptor (T k).2.2.1 = some (ty k)) (hlink : Cond.classLink own index Cn ∈ gt) (hinst : Cond.instantiable Cn N ∈ gt) (hini : Cond.initialized Cn ∈ gt) (hc : vwCl[ci]? = some (Cn, T, N)) (fs : List Value) (hfs : ∀ j, j < N → defaultValue (ty j) = vp_V fs j) (hcells : nc + 1 ≤ Rm.cells) (hslots : ns + N ≤ Rm.slots) (hdg : decode cc pc = .ok (.new index, 3))
    (kk : ∀ (q : Nat) (H1 : Heap), AW D A s (W0 ++ [(q, .inr (ci, fs))]) H1 locs → W p l e Rm s m args below meth c H1 locs (nc + 1) (ns + N) Q (F0 m (pc + 3) ls (.ref q :: rest))) : W p l e Rm s m args below meth c H locs nc ns Q (F0 m pc ls rest) := by
  have hts := C.2.2.2.2.2.2.1
  exact va_new C.1 C.2.1 hts hin ty hty C.2.2.2.2.2.1 (hts _ hlink) (hts _ hinst) (hts _ hini) C.2.2.2.2.2.2.2.1 hw.1 hw.2.1 hw.2.2 hA hc hfs hcells hslots hdg (fun q H1 h1 h2 h3 => kk q H1 ⟨h1, h2, h3⟩)
theorem z_newa (C : Cx cc own nL ret D cA adK adV A p s m args meth c) (hA : ∀ q, s.heap.size ≤ q → A q) (hw : AW D A s W0 H locs) {atype : ArrayType} {ty : FieldType} (hty : newarray.typeOf atype = ty) (harr : Cond.arrayClass ty ∈ gt) (tc : Nat) (htc : (tysL cA)[tc]? = some (cA tc, ty)) (hra : ∀ (cB : ClassId), va_RA s cB ty → s.vm.findClass ("[" ++ ty.toString) = some cB) {z : Int} {N' : Nat} {a0 : vp_A} (ha : ∀ cA : ClassId, vp_cell cA a0 = arrV cA N' (fun _ => defaultValue ty)) (hn : ¬ zI z < 0) (hN : (zI z).toNatClampNeg = N') (hbytes : N' * componentBytes ty ≤ 536870912) (hcells : nc + 1 ≤ Rm.cells) (hslots : ns + N' ≤ Rm.slots) (hdg : decode cc pc = .ok (.newarray atype, 2))
    (kk : ∀ (q : Nat) (H1 : Heap), AW D A s (W0 ++ [(q, .inl (cA tc, a0))]) H1 locs → W p l e Rm s m args below meth c H1 locs (nc + 1) (ns + N') Q (F0 m (pc + 2) ls (.ref q :: rest))) : W p l e Rm s m args below meth c H locs nc ns Q (F0 m pc ls (.int (zI z) :: rest)) := by
  have hts := C.2.2.2.2.2.2.1
  have hK := C.2.2.2.2.2.2.2.1
  refine va_newa C.1 C.2.1 (by rw [hty]; exact hts _ harr) hty hK hw.1 hw.2.1 hw.2.2 hA ha hn hN hbytes hcells hslots hdg (fun q cB H1 hKB h1 h2 h3 => ?_)
  have e1 := hra _ ((hKB.2 (tysL cA).length (cB, ty) (by rw [List.getElem?_append_right (Nat.le_refl _)]; simp)).2)
  have e2 := hra _ ((hK.2 tc _ htc).2)
  have e3 : cB = cA tc := Option.some.inj (e1.symm.trans e2)
  subst e3
  exact kk q H1 ⟨h1, h2, h3⟩
theorem z_newq (C : Cx cc own nL ret D cA adK adV A p s m args meth c) (hA : ∀ q, s.heap.size ≤ q → A q) (hw : AW D A s W0 H locs) {Cn : String} {index : Nat} (hlink : Cond.classLink own index Cn ∈ gt) (hover : va_AO Cn s) (tc : Nat) (htc : (tysL cA)[tc]? = some (cA tc, .object Cn)) {z : Int} {N' : Nat} (hn : ¬ zI z < 0) (hN : (zI z).toNatClampNeg = N') (hbytes : N' * 4 ≤ 536870912) (hcells : nc + 1 ≤ Rm.cells) (hslots : ns + N' ≤ Rm.slots) (hdg : decode cc pc = .ok (.anewarray index, 3))
    (kk : ∀ (q : Nat) (H1 : Heap), AW D A s (W0 ++ [(q, .inl (cA tc, N', .inr (.inr (.inr (.inr (fun _ => none))))))]) H1 locs → W p l e Rm s m args below meth c H1 locs (nc + 1) (ns + N') Q (F0 m (pc + 3) ls (.ref q :: rest))) : W p l e Rm s m args below meth c H locs nc ns Q (F0 m pc ls (.int (zI z) :: rest)) := by
  have hts := C.2.2.2.2.2.2.1
  have hK := C.2.2.2.2.2.2.2.1
  refine va_newq C.1 C.2.1 C.2.2.2.2.2.1 (hts _ hlink) hover hK hw.1 hw.2.1 hw.2.2 hA hn hN hbytes hcells hslots hdg (fun q cB H1 hKB h1 h2 h3 => ?_)
  have e1 := (hKB.2 (tysL cA).length (cB, .object Cn) (by rw [List.getElem?_append_right (Nat.le_refl _)]; simp)).2
  have e2 := (hK.2 tc _ htc).2
  obtain ⟨_, _, _, _, _, e1⟩ := e1
  obtain ⟨_, _, _, _, _, e2⟩ := e2
  have e3 : cB = cA tc := Option.some.inj (e1.symm.trans e2)
  subst e3
  exact kk q H1 ⟨h1, h2, h3⟩
theorem z_put (C : Cx cc own nL ret D cA adK adV A p s m args meth c) (hw : AW D A s (ws ++ tl) H locs) {Cn : String} {T : u_T} {N ci index : Nat} (hin : ∀ w ∈ u_ws Cn T N, w ∈ gt) (ty0 : Nat → FieldType) (hty : ∀ k, k < N → parseFieldDescriptor (T k).2.2.1 = some (ty0 k)) (hnm : ∀ a, a < N → ∀ b, b < N → a ≠ b → (T a).2.1 ≠ (T b).2.1) (hc : vwCl[ci]? = some (Cn, T, N)) (j : Nat) {a : Nat} {fs : List Value} (he : tl[j]? = some (a, .inr (ci, fs))) (k : Nat) (hk : k < N) (hm : Cond.fieldLink own index Cn (T k).2.1 (T k).2.2.1 ∈ gt) (hr : (T k).1 = Cn) (hfin : (T k).2.2.2 = false) {v : Value} (hn : narrow (ty0 k) v = v) (hfit : fits (ty0 k) v = true) (hl : k < fs.length) (hdg : decode cc pc = .ok (.putfield index, 3))
    (kk : ∀ (H1 : Heap) (locs1 : List Loc), AW D A s (ws ++ tl.set j (a, .inr (ci, fs.set k v))) H1 locs1 → W p l e Rm s m args below meth c H1 locs1 nc ns Q (F0 m (pc + 3) ls rest)) : W p l e Rm s m args below meth c H locs nc ns Q (F0 m pc ls (v :: .ref a :: rest)) := by
  have hts := C.2.2.2.2.2.2.1
  refine va_put C.1 C.2.1 hts hin ty0 hty hnm C.2.2.2.2.2.1 C.2.2.2.2.2.2.2.1 hw.1 hw.2.1 hw.2.2 (ws.length + j) (by rw [at_app]; exact he) hc k hk (hts _ hm) (fun x hx => by rw [← hr]; exact hx) hfin (hty k hk) hn hfit hl hdg (fun H1 locs1 h1 h2 h3 => ?_)
  rw [set_app] at h1 h2
  exact kk H1 locs1 ⟨h1, h2, h3⟩
theorem z_putF (C : Cx cc own nL ret D cA adK adV A p s m args meth c) (hnm2 : meth.name = "<init>") (hw : AW D A s (ws ++ tl) H locs) {Cn : String} {T : u_T} {N ci index : Nat} (hin : ∀ w ∈ u_ws Cn T N, w ∈ gt) (ty0 : Nat → FieldType) (hty : ∀ k, k < N → parseFieldDescriptor (T k).2.2.1 = some (ty0 k)) (hnm : ∀ a, a < N → ∀ b, b < N → a ≠ b → (T a).2.1 ≠ (T b).2.1) (hc : vwCl[ci]? = some (Cn, T, N)) (hown2 : Cn = own) (j : Nat) {a : Nat} {fs : List Value} (he : tl[j]? = some (a, .inr (ci, fs))) (k : Nat) (hk : k < N) (hm : Cond.fieldLink own index Cn (T k).2.1 (T k).2.2.1 ∈ gt) (hr : (T k).1 = Cn) (hfin : (T k).2.2.2 = true) {v : Value} (hn : narrow (ty0 k) v = v) (hfit : fits (ty0 k) v = true) (hl : k < fs.length) (hdg : decode cc pc = .ok (.putfield index, 3))
    (kk : ∀ (H1 : Heap) (locs1 : List Loc), AW D A s (ws ++ tl.set j (a, .inr (ci, fs.set k v))) H1 locs1 → W p l e Rm s m args below meth c H1 locs1 nc ns Q (F0 m (pc + 3) ls rest)) : W p l e Rm s m args below meth c H locs nc ns Q (F0 m pc ls (v :: .ref a :: rest)) := by
  have hts := C.2.2.2.2.2.2.1
  refine va_putF C.1 C.2.1 hts hin ty0 hty hnm C.2.2.2.2.2.1 C.2.2.2.2.2.2.2.1 hw.1 hw.2.1 hw.2.2 (ws.length + j) (by rw [at_app]; exact he) hc k hk (hts _ hm) (fun x hx => by rw [← hr]; exact hx) hfin hnm2 (hr.trans hown2) (hty k hk) hn hfit hl hdg (fun H1 locs1 h1 h2 h3 => ?_)
  rw [set_app] at h1 h2
  exact kk H1 locs1 ⟨h1, h2, h3⟩
theorem z_get (C : Cx cc own nL ret D cA adK adV A p s m args meth c) (hw : AW D A s (ws ++ tl) H locs) {Cn : String} {T : u_T} {N ci index : Nat} (hin : ∀ w ∈ u_ws Cn T N, w ∈ gt) (hc : vwCl[ci]? = some (Cn, T, N)) (j : Nat) {a : Nat} {fs : List Value} (he : tl[j]? = some (a, .inr (ci, fs))) (k : Nat) (hk : k < N) (hm : Cond.fieldLink own index Cn (T k).2.1 (T k).2.2.1 ∈ gt) (hr : (T k).1 = Cn) {v : Value} (hv : fs[k]? = some v) (hdg : decode cc pc = .ok (.getfield index, 3))
    (kk : W p l e Rm s m args below meth c H locs nc ns Q (F0 m (pc + 3) ls (v :: rest))) : W p l e Rm s m args below meth c H locs nc ns Q (F0 m pc ls (.ref a :: rest)) := by
  have hts := C.2.2.2.2.2.2.1
  exact va_get C.1 C.2.1 hts hin C.2.2.2.2.2.1 C.2.2.2.2.2.2.2.1 hw.1 (ws.length + j) (by rw [at_app]; exact he) hc k hk (hts _ hm) (fun x hx => by rw [← hr]; exact hx) hv hdg kk
theorem z_aald (C : Cx cc own nL ret D cA adK adV A p s m args meth c) (hw : AW D A s (ws ++ tl) H locs) (j tc : Nat) {a n : Nat} {f : Nat → Option Nat} (he : tl[j]? = some (a, .inl (cA tc, n, .inr (.inr (.inr (.inr f)))))) {Cn : String} (htc : (tysL cA)[tc]? = some (cA tc, .object Cn)) {z : Int} (hi : 0 ≤ zm z ∧ zm z < (n : Int)) {v : Nat} (hv : f (zm z).toNat = some v) (hdg : decode cc pc = .ok (.aaload, 1))
    (kk : W p l e Rm s m args below meth c H locs nc ns Q (F0 m (pc + 1) ls (.ref v :: rest))) : W p l e Rm s m args below meth c H locs nc ns Q (F0 m pc ls (.int (zI z) :: .ref a :: rest)) := by
  refine va_aldq C.1 C.2.1 C.2.2.2.2.2.2.2.1 hw.1 (ws.length + j) tc (by rw [at_app]; exact he) htc (zI_in hi) hdg ?_
  rw [zI_clamp, hv]
  exact kk
theorem z_aast (C : Cx cc own nL ret D cA adK adV A p s m args meth c) (hw : AW D A s (ws ++ tl) H locs) (j tc je ci : Nat) {a n v : Nat} {r : vw_C} {vs : List Value} {f : Nat → Option Nat} (he : tl[j]? = some (a, .inl (cA tc, n, .inr (.inr (.inr (.inr f)))))) (htc : (tysL cA)[tc]? = some (cA tc, .object r.1)) (hv : tl[je]? = some (v, .inr (ci, vs))) (hc : vwCl[ci]? = some r) {z : Int} (hi : 0 ≤ zm z ∧ zm z < (n : Int)) (hdg : decode cc pc = .ok (.aastore, 1))
    (kk : ∀ (H1 : Heap) (locs1 : List Loc), AW D A s (ws ++ tl.set j (a, .inl (cA tc, n, .inr (.inr (.inr (.inr (va_up f (zm z).toNat (some v)))))))) H1 locs1 → W p l e Rm s m args below meth c H1 locs1 nc ns Q (F0 m (pc + 1) ls rest)) : W p l e Rm s m args below meth c H locs nc ns Q (F0 m pc ls (.ref v :: .int (zI z) :: .ref a :: rest)) := by
  refine va_astq C.1 C.2.1 C.2.2.2.2.2.2.2.1 hw.1 hw.2.1 hw.2.2 (ws.length + j) tc (ws.length + je) ci (by rw [at_app]; exact he) htc (by rw [at_app]; exact hv) hc (zI_in hi) hdg (fun H1 locs1 h1 h2 h3 => ?_)
  rw [set_app] at h1 h2
  exact kk H1 locs1 ⟨h1, h2, h3⟩
theorem z_obj (C : Cx cc own nL ret D cA adK adV A p s m args meth c) {lv : List (Nat × Value)} (hl : lv_has ls nL lv) {index : Nat} (hlink : Cond.methodLink own index Lib.objectInit ∈ gt) (hfr : 1 ≤ Rm.frames) (hlo : 12 ≤ Rm.locals) {a : Nat} (hdg : decode cc pc = .ok (.invokespecial index, 3))
    (kk : W p l e Rm s m args below meth c H locs nc ns Q (F0 m (pc + 3) ls [])) : W p l e Rm s m args below meth c H locs nc ns Q (F0 m pc ls [.ref a]) := by
  have hts := C.2.2.2.2.2.2.1
  exact W.objInit C.1 C.2.1 C.2.2.2.2.2.1 (hts _ hlink) (hts _ wd_21) (hts _ wd_22) rfl (by rw [C.2.2.1]; exact hl.1) rfl hdg hfr (by show 2 * 0 + 0 + 12 ≤ Rm.locals; omega) kk
/-- a maker's contract out of its walk -/
theorem z_met {y : MethodName} {rm : Room} {mc ms : Nat} {Qc : Array Value → State → Outcome → State → Prop} {W1 : va_W} (hy : plainName y.cls = true) (hcls : y.cls = own) (hname : y.name = "<init>") (av : List Value) (hlen : (lg_sl av).length ≤ nL)
    (body : ∀ (p : Program) (e : Env) (s : State) (m : MethodId) (args : Array Value) (below : List Frame) (meth : Method) (c : Code) (ls : Array Slot), Cx cc own nL ret D cA adK adV A p s m args meth c → meth.name = "<init>" → (∀ q, s.heap.size ≤ q → A q) → lv_has ls nL (lv_args 0 av) → AW D A s W1 s.heap [] → W p l e rm s m args below meth c s.heap [] 0 0 (MQ below Qc args s mc ms A) (F0 m 0 ls [])) :
    Met l y (wsU y cc nL ret) rm (va_Pc av (PrI D cA adK adV A W1)) Qc mc ms A := by
  refine Met.ofW (cc := cc) (maxL := nL) (ret := ret) hy rfl ?_
  intro p e s m args below meth c s₁ B hml hv
  obtain ⟨rfl, hE, hA, hP, hD⟩ := hv
  have hts := atoms_spec (ws := wsU y cc nL ret) B.pre
  have hl := lv_entry av (n := nL) hlen
  rw [lg_entry_eq]
  exact body p e s m av.toArray below meth c _ ⟨B.exec, B.bytes, hml, B.returns, B.notSynchronized, by rw [← hcls]; exact findClass_of_methodNamed B.named, fun w h => hts w (List.mem_cons_of_mem _ h), hE⟩ ((name_of_methodNamed B.named B.method).1.trans hname) hA hl ⟨hP, hD, va_S.rf⟩
theorem z_metA {y : MethodName} {rm : Room} {mc ms : Nat} {Qc : Array Value → State → Outcome → State → Prop} {W1 : va_W} (hy : plainName y.cls = true) (hcls : y.cls = own) (hname : y.name = "<init>") (av : List Value) (hlen : (lg_sl av).length ≤ nL)
    (body : ∀ (p : Program) (e : Env) (s : State) (m : MethodId) (args : Array Value) (below : List Frame) (meth : Method) (c : Code) (ls : Array Slot), Cx cc own nL ret D cA adK adV A p s m args meth c → meth.name = "<init>" → (∀ q, s.heap.size ≤ q → A q) → (∀ C ∈ aoL, va_AO C s) → lv_has ls nL (lv_args 0 av) → AW D A s W1 s.heap [] → W p l e rm s m args below meth c s.heap [] 0 0 (MQ below Qc args s mc ms A) (F0 m 0 ls [])) :
    Met l y (wsU y cc nL ret) rm (va_Pc av (PrA D cA adK adV A W1)) Qc mc ms A := by
  refine Met.ofW (cc := cc) (maxL := nL) (ret := ret) hy rfl ?_
  intro p e s m args below meth c s₁ B hml hv
  obtain ⟨rfl, ⟨hE, hA, hP, hD⟩, hao⟩ := hv
  have hts := atoms_spec (ws := wsU y cc nL ret) B.pre
  have hl := lv_entry av (n := nL) hlen
  rw [lg_entry_eq]
  exact body p e s m av.toArray below meth c _ ⟨B.exec, B.bytes, hml, B.returns, B.notSynchronized, by rw [← hcls]; exact findClass_of_methodNamed B.named, fun w h => hts w (List.mem_cons_of_mem _ h), hE⟩ ((name_of_methodNamed B.named B.method).1.trans hname) hA hao hl ⟨hP, hD, va_S.rf⟩
theorem z_ret {S : Type} {Wp : S → va_W} (C : Cx cc own nL none D cA adK adV A p s m args meth c) (u : S) (hw : AW D A s (Wp u) H locs) (hdg : decode cc pc = .ok (.return_, 1)) : W p l e Rm s m args below meth c H locs nc ns (MQ below (QN D A Wp) args s nc ns A) (F0 m pc ls []) := by
  have hlk := C.2.2.2.2.1
  exact W.vret C.1 C.2.1 C.2.2.2.1 (fun t ht hW => ⟨⟨u, rfl, trivial, by rw [ht]; exact hw.1, hw.2.1⟩, hw.2.2.F ht⟩) hw.2.2.2.2 hdg hlk
variable {y : MethodName} {b : ByteArray} {mL index k : Nat} {As : List Value} {lv : List (Nat × Value)} {rm : Room} {mc ms : Nat}
/-- a maker called: of a nest mate, of any class -/
theorem z_cN {S : Type} {Wp : S → va_W} (C : Cx cc own nL ret D cA adK adV A p s m args meth c) (hA : ∀ q, s.heap.size ≤ q → A q) (hw : AW D A s W0 H locs) {a : Nat} (hM : Met l y (wsU y b mL none) rm (va_Pc (.ref a :: As) (PrI D cA adK adV A W0)) (QN D A Wp) mc ms A) (hmi : MI y b mL none k) (hname : y.name = "<init>") (hlink : (own, index, y) ∈ neL) (hinst : Cond.instanceMethod y ∈ gt) (hrc : rm.cells = mc) (hrs : rm.slots = ms) (hn : As.length = k) (hR : rm.frames + 1 ≤ Rm.frames ∧ 8 + (mL + 11) + rm.locals ≤ Rm.locals) (hl : lv_has ls nL lv) (hst : st = As.reverse ++ .ref a :: rest) (hW : (rest.map fun v => v.category).sum ≤ 8) (hdg : decode cc pc = .ok (.invokespecial index, 3)) (hf : nc + mc ≤ Rm.cells ∧ ns + ms ≤ Rm.slots)
    (kk : ∀ (u : S) (H1 : Heap) (locs1 : List Loc), AW D A s (Wp u) H1 locs1 → W p l e Rm s m args below meth c H1 locs1 (nc + mc) (ns + ms) Q (F0 m (pc + 3) ls rest)) : W p l e Rm s m args below meth c H locs nc ns Q (F0 m pc ls st) := by
  have hts := C.2.2.2.2.2.2.1
  refine va_callv (va_runIN (As := As) (rest := rest) ⟨C.1, C.2.1, C.2.2.1, C.2.2.2.2.2.1, hts⟩ hM ⟨va_cnB k hts (wsU_in hmi.2.2) rfl hrc hrs (C.2.2.2.2.2.2.2.2.2.2.2.1 _ hlink) (hts _ hmi.2.1) hmi.1 hR, hname, hts _ hinst⟩ ⟨PrI.blind, fun U hU hW => ⟨rfl, C.2.2.2.2.2.2.2.at hw.2.2 hU hW, fun q hq => hA q (Nat.le_trans hw.2.2.1 (by rw [← hU]; exact hq)), by rw [hU]; exact hw.1, hw.2.1⟩⟩ rfl hn hl.1 hst (lv_room hW) hdg hf) hw.2.2 (fun q _ h => h) (fun q h => h) (fun u t H1 locs1 ht hvm hp hB hz hk hS => ?_)
  obtain ⟨hB1, hB2⟩ := hB
  rw [ht] at hB1
  exact kk u H1 locs1 ⟨hB1, hB2, hS⟩
theorem z_cI {S : Type} {Wp : S → va_W} (C : Cx cc own nL ret D cA adK adV A p s m args meth c) (hA : ∀ q, s.heap.size ≤ q → A q) (hw : AW D A s W0 H locs) {a : Nat} (hM : Met l y (wsU y b mL none) rm (va_Pc (.ref a :: As) (PrI D cA adK adV A W0)) (QN D A Wp) mc ms A) (hmi : MI y b mL none k) (hname : y.name = "<init>") (hlink : Cond.methodLink own index y ∈ gt) (hinst : Cond.instanceMethod y ∈ gt) (hrc : rm.cells = mc) (hrs : rm.slots = ms) (hn : As.length = k) (hR : rm.frames + 1 ≤ Rm.frames ∧ 8 + (mL + 11) + rm.locals ≤ Rm.locals) (hl : lv_has ls nL lv) (hst : st = As.reverse ++ .ref a :: rest) (hW : (rest.map fun v => v.category).sum ≤ 8) (hdg : decode cc pc = .ok (.invokespecial index, 3)) (hf : nc + mc ≤ Rm.cells ∧ ns + ms ≤ Rm.slots)
    (kk : ∀ (u : S) (H1 : Heap) (locs1 : List Loc), AW D A s (Wp u) H1 locs1 → W p l e Rm s m args below meth c H1 locs1 (nc + mc) (ns + ms) Q (F0 m (pc + 3) ls rest)) : W p l e Rm s m args below meth c H locs nc ns Q (F0 m pc ls st) := by
  have hts := C.2.2.2.2.2.2.1
  refine va_callv (va_runI (As := As) (rest := rest) ⟨C.1, C.2.1, C.2.2.1, C.2.2.2.2.2.1, hts⟩ hM ⟨callB_of k hts (wsU_in hmi.2.2) rfl hrc hrs (hts _ hmi.2.1) (hts _ hlink) hmi.1 hR, hname, hts _ hinst⟩ ⟨PrI.blind, fun U hU hW => ⟨rfl, C.2.2.2.2.2.2.2.at hw.2.2 hU hW, fun q hq => hA q (Nat.le_trans hw.2.2.1 (by rw [← hU]; exact hq)), by rw [hU]; exact hw.1, hw.2.1⟩⟩ rfl hn hl.1 hst (lv_room hW) hdg hf) hw.2.2 (fun q _ h => h) (fun q h => h) (fun u t H1 locs1 ht hvm hp hB hz hk hS => ?_)
  obtain ⟨hB1, hB2⟩ := hB
  rw [ht] at hB1
  exact kk u H1 locs1 ⟨hB1, hB2, hS⟩
theorem z_cA {S : Type} {Wp : S → va_W} (C : Cx cc own nL ret D cA adK adV A p s m args meth c) (hA : ∀ q, s.heap.size ≤ q → A q) (hao : ∀ C ∈ aoL, va_AO C s) (hw : AW D A s W0 H locs) {a : Nat} (hM : Met l y (wsU y b mL none) rm (va_Pc (.ref a :: As) (PrA D cA adK adV A W0)) (QN D A Wp) mc ms A) (hmi : MI y b mL none k) (hname : y.name = "<init>") (hlink : Cond.methodLink own index y ∈ gt) (hinst : Cond.instanceMethod y ∈ gt) (hrc : rm.cells = mc) (hrs : rm.slots = ms) (hn : As.length = k) (hR : rm.frames + 1 ≤ Rm.frames ∧ 8 + (mL + 11) + rm.locals ≤ Rm.locals) (hl : lv_has ls nL lv) (hst : st = As.reverse ++ .ref a :: rest) (hW : (rest.map fun v => v.category).sum ≤ 8) (hdg : decode cc pc = .ok (.invokespecial index, 3)) (hf : nc + mc ≤ Rm.cells ∧ ns + ms ≤ Rm.slots)
    (kk : ∀ (u : S) (H1 : Heap) (locs1 : List Loc), AW D A s (Wp u) H1 locs1 → W p l e Rm s m args below meth c H1 locs1 (nc + mc) (ns + ms) Q (F0 m (pc + 3) ls rest)) : W p l e Rm s m args below meth c H locs nc ns Q (F0 m pc ls st) := by
  have hts := C.2.2.2.2.2.2.1
  refine va_callv (va_runI (As := As) (rest := rest) ⟨C.1, C.2.1, C.2.2.1, C.2.2.2.2.2.1, hts⟩ hM ⟨callB_of k hts (wsU_in hmi.2.2) rfl hrc hrs (hts _ hmi.2.1) (hts _ hlink) hmi.1 hR, hname, hts _ hinst⟩ ⟨PrA.blind, fun U hU hW => ⟨rfl, ⟨C.2.2.2.2.2.2.2.at hw.2.2 hU hW, fun q hq => hA q (Nat.le_trans hw.2.2.1 (by rw [← hU]; exact hq)), by rw [hU]; exact hw.1, hw.2.1⟩, fun C hC => va_AO.moved hW.alike (hao C hC)⟩⟩ rfl hn hl.1 hst (lv_room hW) hdg hf) hw.2.2 (fun q _ h => h) (fun q h => h) (fun u t H1 locs1 ht hvm hp hB hz hk hS => ?_)
  obtain ⟨hB1, hB2⟩ := hB
  rw [ht] at hB1
  exact kk u H1 locs1 ⟨hB1, hB2, hS⟩
end Z
