abbrev rmU (f k : Nat) : Room := { frames := f, cells := 0, slots := 0, locals := k }
/-- ends: an int, a long, nothing, a cell; the first of res is the answer, the second the store -/
def QI (D : va_G) (cA : Nat → ClassId) (ad : Int → Nat) (kf : Int → Nat × Nat) (n : Nat) (R : va_W) (A : Nat → Prop) (res : Int × St) : Array Value → State → Outcome → State → Prop := va_Qi (S := St) (fun v u => v = zI res.1 ∧ u = res.2) (fun u t => Wd D cA ad kf n R A u t.heap) A
def QL (D : va_G) (cA : Nat → ClassId) (ad : Int → Nat) (kf : Int → Nat × Nat) (n : Nat) (R : va_W) (A : Nat → Prop) (res : Int × St) : Array Value → State → Outcome → State → Prop := va_Ql (S := St) (fun v u => v = zJ res.1 ∧ u = res.2) (fun u t => Wd D cA ad kf n R A u t.heap) A
def QV (D : va_G) (cA : Nat → ClassId) (ad : Int → Nat) (kf : Int → Nat × Nat) (n : Nat) (R : va_W) (A : Nat → Prop) (res : Int × St) : Array Value → State → Outcome → State → Prop := va_Qv (S := St) (fun u => u = res.2) (fun u t => Wd D cA ad kf n R A u t.heap) A
def QR (D : va_G) (cA : Nat → ClassId) (ad : Int → Nat) (kf : Int → Nat × Nat) (n : Nat) (R : va_W) (A : Nat → Prop) (res : Int × St) : Array Value → State → Outcome → State → Prop := va_Qr (S := St) (fun u => u = res.2) (fun u a t => a = ad res.1 ∧ Wd D cA ad kf n R A u t.heap) A
theorem At.fin {D : va_G} {cA : Nat → ClassId} {ad : Int → Nat} {kf : Int → Nat × Nat} {n : Nat} {R : va_W} {A : Nat → Prop} {s : State} {σ : St} {H : Heap} {locs : List Loc} (hw : At D cA ad kf n R A s σ H locs) {t : State} (ht : t.heap = H) : Wd D cA ad kf n R A σ t.heap := by rw [ht]; exact hw.1
section R
variable {p : Program} {l : Launch} {e : Env} {Rm : Room} {s : State} {m : MethodId} {args : Array Value} {below : List Frame} {meth : Method} {c : Code} {H : Heap} {locs : List Loc} {Q : State → Prop}
variable {cc : ByteArray} {own : String} {nL : Nat} {ret : Option FieldType} {D : va_G} {cA : Nat → ClassId} {adK adV : Nat → Nat} {A : Nat → Prop}
variable {ad : Int → Nat} {kf : Int → Nat × Nat} {n : Nat} {R : va_W} {σ : St} {pc : Nat} {ls : Array Slot} {rest st : List Value}
theorem y_iret (C : Cx cc own nL (some .int) D cA adK adV A p s m args meth c) (hw : At D cA ad kf n R A s σ H locs) {z : Int} {res : Int × St} (h : some (z, σ) = some res) (hdg : decode cc pc = .ok (.ireturn, 1)) : W p l e Rm s m args below meth c H locs 0 0 (MQ below (QI D cA ad kf n R A res) args s 0 0 A) (F0 m pc ls [.int (zI z)]) := by
  obtain rfl := Option.some.inj h
  have hlk := C.2.2.2.2.1
  exact W.iret C.1 C.2.1 C.2.2.2.1 (fun t ht hW => ⟨⟨zI z, σ, rfl, ⟨rfl, rfl⟩, hw.fin ht⟩, hw.2.F ht⟩) hw.2.2.2 hdg hlk
theorem y_zret (C : Cx cc own nL (some .boolean) D cA adK adV A p s m args meth c) (hw : At D cA ad kf n R A s σ H locs) {z : Int} {res : Int × St} (hz : z = 0 ∨ z = 1) (h : some (z, σ) = some res) (hdg : decode cc pc = .ok (.ireturn, 1)) : W p l e Rm s m args below meth c H locs 0 0 (MQ below (QI D cA ad kf n R A res) args s 0 0 A) (F0 m pc ls [.int (zI z)]) := by
  obtain rfl := Option.some.inj h
  have hlk := C.2.2.2.2.1
  exact W.zret C.1 C.2.1 C.2.2.2.1 (zb_nar hz) (fun t ht hW => ⟨⟨zI z, σ, rfl, ⟨rfl, rfl⟩, hw.fin ht⟩, hw.2.F ht⟩) hw.2.2.2 hdg hlk
theorem y_lret (C : Cx cc own nL (some .long) D cA adK adV A p s m args meth c) (hw : At D cA ad kf n R A s σ H locs) {z : Int} {res : Int × St} (h : some (z, σ) = some res) (hdg : decode cc pc = .ok (.lreturn, 1)) : W p l e Rm s m args below meth c H locs 0 0 (MQ below (QL D cA ad kf n R A res) args s 0 0 A) (F0 m pc ls [.long (zJ z)]) := by
  obtain rfl := Option.some.inj h
  have hlk := C.2.2.2.2.1
  exact W.lret C.1 C.2.1 C.2.2.2.1 (fun t ht hW => ⟨⟨zJ z, σ, rfl, ⟨rfl, rfl⟩, hw.fin ht⟩, hw.2.F ht⟩) hw.2.2.2 hdg hlk
theorem y_vret (C : Cx cc own nL none D cA adK adV A p s m args meth c) (hw : At D cA ad kf n R A s σ H locs) {res : Int × St} (h : some (0, σ) = some res) (hdg : decode cc pc = .ok (.return_, 1)) : W p l e Rm s m args below meth c H locs 0 0 (MQ below (QV D cA ad kf n R A res) args s 0 0 A) (F0 m pc ls []) := by
  obtain rfl := Option.some.inj h
  have hlk := C.2.2.2.2.1
  exact W.vret C.1 C.2.1 C.2.2.2.1 (fun t ht hW => ⟨⟨σ, rfl, rfl, hw.fin ht⟩, hw.2.F ht⟩) hw.2.2.2 hdg hlk
theorem y_aret {Cn : String} (C : Cx cc own nL (some (.object Cn)) D cA adK adV A p s m args meth c) (hw : At D cA ad kf n R A s σ H locs) {z : Int} {res : Int × St} (h : some (z, σ) = some res) (hdg : decode cc pc = .ok (.areturn, 1)) : W p l e Rm s m args below meth c H locs 0 0 (MQ below (QR D cA ad kf n R A res) args s 0 0 A) (F0 m pc ls [.ref (ad z)]) := by
  obtain rfl := Option.some.inj h
  have hlk := C.2.2.2.2.1
  exact W.aret C.1 C.2.1 C.2.2.2.1 (Or.inl ⟨_, rfl⟩) (Or.inr ⟨_, rfl⟩) (fun t ht hW => ⟨⟨σ, ad z, rfl, rfl, rfl, hw.fin ht⟩, hw.2.F ht⟩) hw.2.2.2 hdg hlk
/-- a contract out of the walk of the body -/
theorem y_met {y : MethodName} {rm : Room} {Qc : Array Value → State → Outcome → State → Prop} (hy : plainName y.cls = true) (hcls : y.cls = own) (av : List Value) (hlen : (lg_sl av).length ≤ nL)
    (body : ∀ (p : Program) (e : Env) (s : State) (m : MethodId) (args : Array Value) (below : List Frame) (meth : Method) (c : Code) (ls : Array Slot), Cx cc own nL ret D cA adK adV A p s m args meth c → lv_has ls nL (lv_args 0 av) → At D cA ad kf n R A s σ s.heap [] → W p l e rm s m args below meth c s.heap [] 0 0 (MQ below Qc args s 0 0 A) (F0 m 0 ls [])) :
    Met l y (wsU y cc nL ret) rm (va_Pc av (Pr D cA adK adV ad kf n R A σ)) Qc 0 0 A := by
  refine Met.ofW (cc := cc) (maxL := nL) (ret := ret) hy rfl ?_
  intro p e s m args below meth c s₁ B hml hv
  obtain ⟨rfl, hE, hw⟩ := hv
  have hts := atoms_spec (ws := wsU y cc nL ret) B.pre
  have hl := lv_entry av (n := nL) hlen
  rw [lg_entry_eq]
  exact body p e s m av.toArray below meth c _ ⟨B.exec, B.bytes, hml, B.returns, B.notSynchronized, by rw [← hcls]; exact findClass_of_methodNamed B.named, fun w h => hts w (List.mem_cons_of_mem _ h), hE⟩ hl ⟨hw, va_S.rf⟩
variable {y : MethodName} {b : ByteArray} {mL index k : Nat} {rt : Option FieldType} {fr lo : Nat} {Qc : Array Value → State → Outcome → State → Prop} {As : List Value} {lv : List (Nat × Value)}
/-- invokevirtual on an object of the world -/
theorem y_rV (C : Cx cc own nL ret D cA adK adV A p s m args meth c) (hw : At D cA ad kf n R A s σ H locs) {o : Int} {kd : Nat × Nat} (ho : kf o = kd) (h99 : kd.1 ≠ 99) {ci : Nat} {fs : List Value} (hen : en cA ad kd o (σ o) = .inr (ci, fs)) {q : vw_C} (hc : vwCl[ci]? = some q)
    (hM : Met l y (wsU y b mL rt) (rmU fr lo) (va_Pc (.ref (ad o) :: As) (Pr D cA adK adV ad kf n R A σ)) Qc 0 0 A) (hmi : MI y b mL rt k) (hlink : Cond.methodLink own index y ∈ gt) (hinst : Cond.instanceMethod y ∈ gt) (hsel : Cond.selects q.1 y y ∈ gt) (hn : As.length = k) (hR : (fr + 1 ≤ Rm.frames ∧ 8 + (mL + 11) + lo ≤ Rm.locals)) (hl : lv_has ls nL lv) (hst : st = As.reverse ++ .ref (ad o) :: rest) (hW : (rest.map fun v => v.category).sum ≤ 8) (hdg : decode cc pc = .ok (.invokevirtual index, 3)) :
    va_Run p l e Rm s m args below meth c H locs 0 0 0 0 (F0 m pc ls st) rest (Qc (Value.ref (ad o) :: As).toArray) A := by
  have hi := hw.1.1 o (by rw [ho]; exact h99)
  have hat := wl_at (cA := cA) (ad := ad) (kf := kf) (σ := σ) (R := R) hi
  rw [ho, hen] at hat
  have hts := C.2.2.2.2.2.2.1
  refine va_runV (As := As) (rest := rest) (C := q.1) ⟨C.1, C.2.1, C.2.2.1, C.2.2.2.2.2.1, hts⟩ hM ⟨callB_of k hts (wsU_in hmi.2.2) rfl rfl rfl (hts _ hmi.2.1) (hts _ hlink) hmi.1 hR, hts _ hinst, hts _ hsel⟩ ⟨Pr.blind, va_recv C.2.2.2.2.2.2.2.1 hw.1.2.1 hc hat, fun U hU hW => ⟨rfl, C.2.2.2.2.2.2.2.at hw.2 hU hW, by rw [hU]; exact hw.1⟩⟩ rfl hn hl.1 hst (lv_room hW) hdg ⟨Nat.zero_le _, Nat.zero_le _⟩
/-- invokestatic -/
theorem y_rS (C : Cx cc own nL ret D cA adK adV A p s m args meth c) (hw : At D cA ad kf n R A s σ H locs)
    (hM : Met l y (wsU y b mL rt) (rmU fr lo) (va_Pc As (Pr D cA adK adV ad kf n R A σ)) Qc 0 0 A) (hmi : MI y b mL rt k) (hlink : Cond.methodLink own index y ∈ gt) (hstat : Cond.static y ∈ gt) (hn : As.length = k) (hR : (fr + 1 ≤ Rm.frames ∧ 8 + (mL + 11) + lo ≤ Rm.locals)) (hl : lv_has ls nL lv) (hst : st = As.reverse ++ rest) (hW : (rest.map fun v => v.category).sum ≤ 8) (hdg : decode cc pc = .ok (.invokestatic index, 3)) :
    va_Run p l e Rm s m args below meth c H locs 0 0 0 0 (F0 m pc ls st) rest (Qc As.toArray) A := by
  have hts := C.2.2.2.2.2.2.1
  exact va_runS (As := As) (rest := rest) ⟨C.1, C.2.1, C.2.2.1, C.2.2.2.2.2.1, hts⟩ hM ⟨callB_of k hts (wsU_in hmi.2.2) rfl rfl rfl (hts _ hmi.2.1) (hts _ hlink) hmi.1 hR, hts _ hstat⟩ ⟨Pr.blind, fun U hU hW => ⟨rfl, C.2.2.2.2.2.2.2.at hw.2 hU hW, by rw [hU]; exact hw.1⟩⟩ rfl hn hl.1 hst (lv_room hW) hdg ⟨Nat.zero_le _, Nat.zero_le _⟩
/-- invokestatic of a nest mate -/
theorem y_rN (C : Cx cc own nL ret D cA adK adV A p s m args meth c) (hw : At D cA ad kf n R A s σ H locs)
    (hM : Met l y (wsU y b mL rt) (rmU fr lo) (va_Pc As (Pr D cA adK adV ad kf n R A σ)) Qc 0 0 A) (hmi : MI y b mL rt k) (hlink : (own, index, y) ∈ neL) (hstat : Cond.static y ∈ gt) (hn : As.length = k) (hR : (fr + 1 ≤ Rm.frames ∧ 8 + (mL + 11) + lo ≤ Rm.locals)) (hl : lv_has ls nL lv) (hst : st = As.reverse ++ rest) (hW : (rest.map fun v => v.category).sum ≤ 8) (hdg : decode cc pc = .ok (.invokestatic index, 3)) :
    va_Run p l e Rm s m args below meth c H locs 0 0 0 0 (F0 m pc ls st) rest (Qc As.toArray) A := by
  have hts := C.2.2.2.2.2.2.1
  exact va_runSN (As := As) (rest := rest) ⟨C.1, C.2.1, C.2.2.1, C.2.2.2.2.2.1, hts⟩ hM ⟨va_cnB k hts (wsU_in hmi.2.2) rfl rfl rfl (C.2.2.2.2.2.2.2.2.2.2.2.1 _ hlink) (hts _ hmi.2.1) hmi.1 hR, hts _ hstat, trivial⟩ ⟨Pr.blind, fun U hU hW => ⟨rfl, C.2.2.2.2.2.2.2.at hw.2 hU hW, by rw [hU]; exact hw.1⟩⟩ rfl hn hl.1 hst (lv_room hW) hdg ⟨Nat.zero_le _, Nat.zero_le _⟩
variable {a : Array Value} {res : Int × St}
theorem y_ci (hw : At D cA ad kf n R A s σ H locs) (hr : va_Run p l e Rm s m args below meth c H locs 0 0 0 0 (F0 m pc ls st) rest (QI D cA ad kf n R A res a) A)
    (kk : ∀ (H1 : Heap) (locs1 : List Loc), At D cA ad kf n R A s res.2 H1 locs1 → W p l e Rm s m args below meth c H1 locs1 0 0 Q (F0 m (pc + 3) ls (.int (zI res.1) :: rest))) : W p l e Rm s m args below meth c H locs 0 0 Q (F0 m pc ls st) := by
  refine va_calli hr hw.2 (fun q _ h => h) (fun q h => h) (fun v u t H1 locs1 ht hvm hp hB hz hk hS => ?_)
  obtain ⟨rfl, rfl⟩ := hp
  rw [ht] at hB
  exact kk H1 locs1 ⟨hB, hS⟩
theorem y_cl (hw : At D cA ad kf n R A s σ H locs) (hr : va_Run p l e Rm s m args below meth c H locs 0 0 0 0 (F0 m pc ls st) rest (QL D cA ad kf n R A res a) A)
    (kk : ∀ (H1 : Heap) (locs1 : List Loc), At D cA ad kf n R A s res.2 H1 locs1 → W p l e Rm s m args below meth c H1 locs1 0 0 Q (F0 m (pc + 3) ls (.long (zJ res.1) :: rest))) : W p l e Rm s m args below meth c H locs 0 0 Q (F0 m pc ls st) := by
  refine va_calll hr hw.2 (fun q _ h => h) (fun q h => h) (fun v u t H1 locs1 ht hvm hp hB hz hk hS => ?_)
  obtain ⟨rfl, rfl⟩ := hp
  rw [ht] at hB
  exact kk H1 locs1 ⟨hB, hS⟩
theorem y_cv (hw : At D cA ad kf n R A s σ H locs) (hr : va_Run p l e Rm s m args below meth c H locs 0 0 0 0 (F0 m pc ls st) rest (QV D cA ad kf n R A res a) A)
    (kk : ∀ (H1 : Heap) (locs1 : List Loc), At D cA ad kf n R A s res.2 H1 locs1 → W p l e Rm s m args below meth c H1 locs1 0 0 Q (F0 m (pc + 3) ls rest)) : W p l e Rm s m args below meth c H locs 0 0 Q (F0 m pc ls st) := by
  refine va_callv hr hw.2 (fun q _ h => h) (fun q h => h) (fun u t H1 locs1 ht hvm hp hB hz hk hS => ?_)
  obtain rfl := hp
  rw [ht] at hB
  exact kk H1 locs1 ⟨hB, hS⟩
theorem y_cr (hw : At D cA ad kf n R A s σ H locs) (hr : va_Run p l e Rm s m args below meth c H locs 0 0 0 0 (F0 m pc ls st) rest (QR D cA ad kf n R A res a) A)
    (kk : ∀ (H1 : Heap) (locs1 : List Loc), At D cA ad kf n R A s res.2 H1 locs1 → W p l e Rm s m args below meth c H1 locs1 0 0 Q (F0 m (pc + 3) ls (.ref (ad res.1) :: rest))) : W p l e Rm s m args below meth c H locs 0 0 Q (F0 m pc ls st) := by
  refine va_callr hr hw.2 (fun q _ h => h) (fun q h => h) (fun u ra t H1 locs1 ht hvm hp hB hz hk hS => ?_)
  obtain rfl := hp
  obtain ⟨rfl, hB⟩ := hB
  rw [ht] at hB
  exact kk H1 locs1 ⟨hB, hS⟩
/-- Math -/
theorem y_max (C : Cx cc own nL ret D cA adK adV A p s m args meth c) (hl : lv_has ls nL lv) (hlink : Cond.methodLink own index Lib.Math.max.name ∈ gt) (hstat : Cond.static Lib.Math.max.name ∈ gt) (hini : Cond.initialized "java/lang/Math" ∈ gt) (hcode : Cond.code Lib.Math.max.name Lib.Math.max.code 2 (some .int) ∈ gt) (hfr : 1 ≤ Rm.frames) (hlo : (rest.map fun v => v.category).sum + 13 ≤ Rm.locals) {x y : Int} (hdg : decode cc pc = .ok (.invokestatic index, 3))
    (kk : W p l e Rm s m args below meth c H locs 0 0 Q (F0 m (pc + 3) ls (.int (zI (if zm x < zm y then y else x)) :: rest))) : W p l e Rm s m args below meth c H locs 0 0 Q (F0 m pc ls (.int (zI y) :: .int (zI x) :: rest)) := by
  have hts := C.2.2.2.2.2.2.1
  refine va_mmax C.1 C.2.1 (C.2.2.1.trans hl.1.symm) C.2.2.2.2.2.1 (hts _ hlink) (hts _ hstat) (hts _ hini) (hts _ hcode) hfr hlo (Nat.zero_le _) (Nat.zero_le _) hdg ?_
  have : (if zI x < zI y then zI y else zI x) = zI (if zm x < zm y then y else x) := by
    by_cases h : zm x < zm y
    · rw [if_pos h, if_pos ((zI_lt x y).mpr h)]
    · rw [if_neg h, if_neg (fun q => h ((zI_lt x y).mp q))]
  rw [this]; exact kk
theorem y_min (C : Cx cc own nL ret D cA adK adV A p s m args meth c) (hl : lv_has ls nL lv) (hlink : Cond.methodLink own index Lib.Math.min.name ∈ gt) (hstat : Cond.static Lib.Math.min.name ∈ gt) (hini : Cond.initialized "java/lang/Math" ∈ gt) (hcode : Cond.code Lib.Math.min.name Lib.Math.min.code 2 (some .int) ∈ gt) (hfr : 1 ≤ Rm.frames) (hlo : (rest.map fun v => v.category).sum + 13 ≤ Rm.locals) {x y : Int} (hdg : decode cc pc = .ok (.invokestatic index, 3))
    (kk : W p l e Rm s m args below meth c H locs 0 0 Q (F0 m (pc + 3) ls (.int (zI (if zm y < zm x then y else x)) :: rest))) : W p l e Rm s m args below meth c H locs 0 0 Q (F0 m pc ls (.int (zI y) :: .int (zI x) :: rest)) := by
  have hts := C.2.2.2.2.2.2.1
  refine va_mmin C.1 C.2.1 (C.2.2.1.trans hl.1.symm) C.2.2.2.2.2.1 (hts _ hlink) (hts _ hstat) (hts _ hini) (hts _ hcode) hfr hlo (Nat.zero_le _) (Nat.zero_le _) hdg ?_
  have : (if zI y < zI x then zI y else zI x) = zI (if zm y < zm x then y else x) := by
    by_cases h : zm y < zm x
    · rw [if_pos h, if_pos ((zI_lt y x).mpr h)]
    · rw [if_neg h, if_neg (fun q => h ((zI_lt y x).mp q))]
  rw [this]; exact kk
theorem y_maxl (C : Cx cc own nL ret D cA adK adV A p s m args meth c) (hl : lv_has ls nL lv) (hlink : Cond.methodLink own index Lib.MathLoose.max_long.x ∈ gt) (hstat : Cond.static Lib.MathLoose.max_long.x ∈ gt) (hini : Cond.initialized "java/lang/Math" ∈ gt) (hcode : Cond.code Lib.MathLoose.max_long.x Lib.MathLoose.max_long.code 4 (some .long) ∈ gt) (hfr : 1 ≤ Rm.frames) (hlo : (rest.map fun v => v.category).sum + 15 ≤ Rm.locals) {x y : Int} (hdg : decode cc pc = .ok (.invokestatic index, 3))
    (kk : W p l e Rm s m args below meth c H locs 0 0 Q (F0 m (pc + 3) ls (.long (zJ (if zl y < zl x then x else y)) :: rest))) : W p l e Rm s m args below meth c H locs 0 0 Q (F0 m pc ls (.long (zJ y) :: .long (zJ x) :: rest)) := by
  have hts := C.2.2.2.2.2.2.1
  refine va_mmax_long C.1 C.2.1 (C.2.2.1.trans hl.1.symm) C.2.2.2.2.2.1 (hts _ hlink) (hts _ hstat) (hts _ hini) (hts _ hcode) hfr hlo (Nat.zero_le _) (Nat.zero_le _) hdg ?_
  have : (if zJ y < zJ x then zJ x else zJ y) = zJ (if zl y < zl x then x else y) := by
    by_cases h : zl y < zl x
    · rw [if_pos h, if_pos ((zJ_lt y x).mpr h)]
    · rw [if_neg h, if_neg (fun q => h ((zJ_lt y x).mp q))]
  rw [this]; exact kk
end R
