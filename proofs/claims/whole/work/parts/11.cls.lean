/-! per class: fields; methods -/
set_option maxRecDepth 100000 in
theorem inX0 : ∀ w ∈ u_ws RX0 TX0 7, w ∈ gt := List.forall_mem_cons.mpr ⟨wd_98, List.forall_mem_cons.mpr ⟨wd_100, List.forall_mem_cons.mpr ⟨wd_102, List.forall_mem_cons.mpr ⟨wd_104, List.forall_mem_cons.mpr ⟨wd_106, List.forall_mem_cons.mpr ⟨wd_108, List.forall_mem_cons.mpr ⟨wd_110, fun _ h => absurd h List.not_mem_nil⟩⟩⟩⟩⟩⟩⟩
theorem trX0 (j : Nat) : (TX0 j).1 = RX0 := by
  unfold TX0
  split <;> rfl
theorem g0 {p : Program} {l : Launch} {e : Env} {Rm : Room} {s : State} {m : MethodId} {args : Array Value} {below : List Frame} {meth : Method} {c : Code} {H : Heap} {locs : List Loc} {Q : State → Prop} {cc : ByteArray} {own : String} {nL : Nat} {ret : Option FieldType} {D : va_G} {cA : Nat → ClassId} {adK adV : Nat → Nat} {A : Nat → Prop} {ad : Int → Nat} {kf : Int → Nat × Nat} {n : Nat} {R : va_W} {σ : St} {pc : Nat} {ls : Array Slot} {rest : List Value} (C : Cx cc own nL ret D cA adK adV A p s m args meth c) (hw : At D cA ad kf n R A s σ H locs) {o : Int} (ho : kf o = (0, 0)) (j : Nat) (hj : j < 7) {index : Nat} (hm : Cond.fieldLink own index RX0 (TX0 j).2.1 (TX0 j).2.2.1 ∈ gt) {v : Value} (hv : (fX0 ad o (σ o))[j]? = some v) (hdg : decode cc pc = .ok (.getfield index, 3)) (kk : W p l e Rm s m args below meth c H locs 0 0 Q (F0 m (pc + 3) ls (v :: rest))) : W p l e Rm s m args below meth c H locs 0 0 Q (F0 m pc ls (.ref (ad o) :: rest)) :=
  y_get C hw ho (by decide) rfl rfl inX0 j hj hm (trX0 j) hv hdg kk
theorem q0 {p : Program} {l : Launch} {e : Env} {Rm : Room} {s : State} {m : MethodId} {args : Array Value} {below : List Frame} {meth : Method} {c : Code} {H : Heap} {locs : List Loc} {Q : State → Prop} {cc : ByteArray} {own : String} {nL : Nat} {ret : Option FieldType} {D : va_G} {cA : Nat → ClassId} {adK adV : Nat → Nat} {A : Nat → Prop} {ad : Int → Nat} {kf : Int → Nat × Nat} {n : Nat} {R : va_W} {σ : St} {pc : Nat} {ls : Array Slot} {rest : List Value} (C : Cx cc own nL ret D cA adK adV A p s m args meth c) (hw : At D cA ad kf n R A s σ H locs) {o : Int} (ho : kf o = (0, 0)) (j : Nat) (hj : j < 7) {index : Nat} (hm : Cond.fieldLink own index RX0 (TX0 j).2.1 (TX0 j).2.2.1 ∈ gt) (hfin : (TX0 j).2.2.2 = false) {v : Value} (hn : narrow (tyX0 j) v = v) (hfit : fits (tyX0 j) v = true) (hl : j < 7) (z j' : Int) (hj' : (j : Int) = j') (hset : (fX0 ad o (σ o)).set j v = fX0 ad o (up (σ o) j' z)) (hdg : decode cc pc = .ok (.putfield index, 3)) (kk : ∀ (H1 : Heap) (locs1 : List Loc), At D cA ad kf n R A s (su σ o j' z) H1 locs1 → W p l e Rm s m args below meth c H1 locs1 0 0 Q (F0 m (pc + 3) ls rest)) : W p l e Rm s m args below meth c H locs 0 0 Q (F0 m pc ls (v :: .ref (ad o) :: rest)) := by
  subst hj'
  exact y_put C hw ho (by decide) rfl rfl inX0 tyX0 tyX0_ok nmX0 j hj hm (trX0 j) hfin hn hfit hl z (by rw [hset]; rfl) hdg kk
set_option maxRecDepth 100000 in
theorem inX1 : ∀ w ∈ u_ws RX1 TX1 5, w ∈ gt := List.forall_mem_cons.mpr ⟨wd_125, List.forall_mem_cons.mpr ⟨wd_127, List.forall_mem_cons.mpr ⟨wd_129, List.forall_mem_cons.mpr ⟨wd_131, List.forall_mem_cons.mpr ⟨wd_133, fun _ h => absurd h List.not_mem_nil⟩⟩⟩⟩⟩
theorem trX1 (j : Nat) : (TX1 j).1 = RX1 := by
  unfold TX1
  split <;> rfl
theorem g1 {p : Program} {l : Launch} {e : Env} {Rm : Room} {s : State} {m : MethodId} {args : Array Value} {below : List Frame} {meth : Method} {c : Code} {H : Heap} {locs : List Loc} {Q : State → Prop} {cc : ByteArray} {own : String} {nL : Nat} {ret : Option FieldType} {D : va_G} {cA : Nat → ClassId} {adK adV : Nat → Nat} {A : Nat → Prop} {ad : Int → Nat} {kf : Int → Nat × Nat} {n : Nat} {R : va_W} {σ : St} {pc : Nat} {ls : Array Slot} {rest : List Value} (C : Cx cc own nL ret D cA adK adV A p s m args meth c) (hw : At D cA ad kf n R A s σ H locs) {o : Int} (ho : kf o = (1, 0)) (j : Nat) (hj : j < 5) {index : Nat} (hm : Cond.fieldLink own index RX1 (TX1 j).2.1 (TX1 j).2.2.1 ∈ gt) {v : Value} (hv : (fX1 ad o (σ o))[j]? = some v) (hdg : decode cc pc = .ok (.getfield index, 3)) (kk : W p l e Rm s m args below meth c H locs 0 0 Q (F0 m (pc + 3) ls (v :: rest))) : W p l e Rm s m args below meth c H locs 0 0 Q (F0 m pc ls (.ref (ad o) :: rest)) :=
  y_get C hw ho (by decide) rfl rfl inX1 j hj hm (trX1 j) hv hdg kk
theorem q1 {p : Program} {l : Launch} {e : Env} {Rm : Room} {s : State} {m : MethodId} {args : Array Value} {below : List Frame} {meth : Method} {c : Code} {H : Heap} {locs : List Loc} {Q : State → Prop} {cc : ByteArray} {own : String} {nL : Nat} {ret : Option FieldType} {D : va_G} {cA : Nat → ClassId} {adK adV : Nat → Nat} {A : Nat → Prop} {ad : Int → Nat} {kf : Int → Nat × Nat} {n : Nat} {R : va_W} {σ : St} {pc : Nat} {ls : Array Slot} {rest : List Value} (C : Cx cc own nL ret D cA adK adV A p s m args meth c) (hw : At D cA ad kf n R A s σ H locs) {o : Int} (ho : kf o = (1, 0)) (j : Nat) (hj : j < 5) {index : Nat} (hm : Cond.fieldLink own index RX1 (TX1 j).2.1 (TX1 j).2.2.1 ∈ gt) (hfin : (TX1 j).2.2.2 = false) {v : Value} (hn : narrow (tyX1 j) v = v) (hfit : fits (tyX1 j) v = true) (hl : j < 5) (z j' : Int) (hj' : (j : Int) = j') (hset : (fX1 ad o (σ o)).set j v = fX1 ad o (up (σ o) j' z)) (hdg : decode cc pc = .ok (.putfield index, 3)) (kk : ∀ (H1 : Heap) (locs1 : List Loc), At D cA ad kf n R A s (su σ o j' z) H1 locs1 → W p l e Rm s m args below meth c H1 locs1 0 0 Q (F0 m (pc + 3) ls rest)) : W p l e Rm s m args below meth c H locs 0 0 Q (F0 m pc ls (v :: .ref (ad o) :: rest)) := by
  subst hj'
  exact y_put C hw ho (by decide) rfl rfl inX1 tyX1 tyX1_ok nmX1 j hj hm (trX1 j) hfin hn hfit hl z (by rw [hset]; rfl) hdg kk
set_option maxRecDepth 100000 in
theorem inX2 : ∀ w ∈ u_ws RX2 TX2 9, w ∈ gt := List.forall_mem_cons.mpr ⟨wd_160, List.forall_mem_cons.mpr ⟨wd_162, List.forall_mem_cons.mpr ⟨wd_164, List.forall_mem_cons.mpr ⟨wd_166, List.forall_mem_cons.mpr ⟨wd_168, List.forall_mem_cons.mpr ⟨wd_170, List.forall_mem_cons.mpr ⟨wd_172, List.forall_mem_cons.mpr ⟨wd_174, List.forall_mem_cons.mpr ⟨wd_176, fun _ h => absurd h List.not_mem_nil⟩⟩⟩⟩⟩⟩⟩⟩⟩
theorem trX2 (j : Nat) : (TX2 j).1 = RX2 := by
  unfold TX2
  split <;> rfl
theorem g2 {p : Program} {l : Launch} {e : Env} {Rm : Room} {s : State} {m : MethodId} {args : Array Value} {below : List Frame} {meth : Method} {c : Code} {H : Heap} {locs : List Loc} {Q : State → Prop} {cc : ByteArray} {own : String} {nL : Nat} {ret : Option FieldType} {D : va_G} {cA : Nat → ClassId} {adK adV : Nat → Nat} {A : Nat → Prop} {ad : Int → Nat} {kf : Int → Nat × Nat} {n : Nat} {R : va_W} {σ : St} {pc : Nat} {ls : Array Slot} {rest : List Value} (C : Cx cc own nL ret D cA adK adV A p s m args meth c) (hw : At D cA ad kf n R A s σ H locs) {o : Int} (ho : kf o = (2, 0)) (j : Nat) (hj : j < 9) {index : Nat} (hm : Cond.fieldLink own index RX2 (TX2 j).2.1 (TX2 j).2.2.1 ∈ gt) {v : Value} (hv : (fX2 ad o (σ o))[j]? = some v) (hdg : decode cc pc = .ok (.getfield index, 3)) (kk : W p l e Rm s m args below meth c H locs 0 0 Q (F0 m (pc + 3) ls (v :: rest))) : W p l e Rm s m args below meth c H locs 0 0 Q (F0 m pc ls (.ref (ad o) :: rest)) :=
  y_get C hw ho (by decide) rfl rfl inX2 j hj hm (trX2 j) hv hdg kk
theorem q2 {p : Program} {l : Launch} {e : Env} {Rm : Room} {s : State} {m : MethodId} {args : Array Value} {below : List Frame} {meth : Method} {c : Code} {H : Heap} {locs : List Loc} {Q : State → Prop} {cc : ByteArray} {own : String} {nL : Nat} {ret : Option FieldType} {D : va_G} {cA : Nat → ClassId} {adK adV : Nat → Nat} {A : Nat → Prop} {ad : Int → Nat} {kf : Int → Nat × Nat} {n : Nat} {R : va_W} {σ : St} {pc : Nat} {ls : Array Slot} {rest : List Value} (C : Cx cc own nL ret D cA adK adV A p s m args meth c) (hw : At D cA ad kf n R A s σ H locs) {o : Int} (ho : kf o = (2, 0)) (j : Nat) (hj : j < 9) {index : Nat} (hm : Cond.fieldLink own index RX2 (TX2 j).2.1 (TX2 j).2.2.1 ∈ gt) (hfin : (TX2 j).2.2.2 = false) {v : Value} (hn : narrow (tyX2 j) v = v) (hfit : fits (tyX2 j) v = true) (hl : j < 9) (z j' : Int) (hj' : (j : Int) = j') (hset : (fX2 ad o (σ o)).set j v = fX2 ad o (up (σ o) j' z)) (hdg : decode cc pc = .ok (.putfield index, 3)) (kk : ∀ (H1 : Heap) (locs1 : List Loc), At D cA ad kf n R A s (su σ o j' z) H1 locs1 → W p l e Rm s m args below meth c H1 locs1 0 0 Q (F0 m (pc + 3) ls rest)) : W p l e Rm s m args below meth c H locs 0 0 Q (F0 m pc ls (v :: .ref (ad o) :: rest)) := by
  subst hj'
  exact y_put C hw ho (by decide) rfl rfl inX2 tyX2 tyX2_ok nmX2 j hj hm (trX2 j) hfin hn hfit hl z (by rw [hset]; rfl) hdg kk
set_option maxRecDepth 100000 in
theorem inX3 : ∀ w ∈ u_ws RX3 TX3 13, w ∈ gt := List.forall_mem_cons.mpr ⟨wd_243, List.forall_mem_cons.mpr ⟨wd_245, List.forall_mem_cons.mpr ⟨wd_247, List.forall_mem_cons.mpr ⟨wd_249, List.forall_mem_cons.mpr ⟨wd_251, List.forall_mem_cons.mpr ⟨wd_253, List.forall_mem_cons.mpr ⟨wd_255, List.forall_mem_cons.mpr ⟨wd_257, List.forall_mem_cons.mpr ⟨wd_259, List.forall_mem_cons.mpr ⟨wd_261, List.forall_mem_cons.mpr ⟨wd_263, List.forall_mem_cons.mpr ⟨wd_265, List.forall_mem_cons.mpr ⟨wd_267, fun _ h => absurd h List.not_mem_nil⟩⟩⟩⟩⟩⟩⟩⟩⟩⟩⟩⟩⟩
theorem trX3 (j : Nat) : (TX3 j).1 = RX3 := by
  unfold TX3
  split <;> rfl
theorem g3 {p : Program} {l : Launch} {e : Env} {Rm : Room} {s : State} {m : MethodId} {args : Array Value} {below : List Frame} {meth : Method} {c : Code} {H : Heap} {locs : List Loc} {Q : State → Prop} {cc : ByteArray} {own : String} {nL : Nat} {ret : Option FieldType} {D : va_G} {cA : Nat → ClassId} {adK adV : Nat → Nat} {A : Nat → Prop} {ad : Int → Nat} {kf : Int → Nat × Nat} {n : Nat} {R : va_W} {σ : St} {pc : Nat} {ls : Array Slot} {rest : List Value} (C : Cx cc own nL ret D cA adK adV A p s m args meth c) (hw : At D cA ad kf n R A s σ H locs) {o : Int} (ho : kf o = (3, 0)) (j : Nat) (hj : j < 13) {index : Nat} (hm : Cond.fieldLink own index RX3 (TX3 j).2.1 (TX3 j).2.2.1 ∈ gt) {v : Value} (hv : (fX3 ad o (σ o))[j]? = some v) (hdg : decode cc pc = .ok (.getfield index, 3)) (kk : W p l e Rm s m args below meth c H locs 0 0 Q (F0 m (pc + 3) ls (v :: rest))) : W p l e Rm s m args below meth c H locs 0 0 Q (F0 m pc ls (.ref (ad o) :: rest)) :=
  y_get C hw ho (by decide) rfl rfl inX3 j hj hm (trX3 j) hv hdg kk
theorem q3 {p : Program} {l : Launch} {e : Env} {Rm : Room} {s : State} {m : MethodId} {args : Array Value} {below : List Frame} {meth : Method} {c : Code} {H : Heap} {locs : List Loc} {Q : State → Prop} {cc : ByteArray} {own : String} {nL : Nat} {ret : Option FieldType} {D : va_G} {cA : Nat → ClassId} {adK adV : Nat → Nat} {A : Nat → Prop} {ad : Int → Nat} {kf : Int → Nat × Nat} {n : Nat} {R : va_W} {σ : St} {pc : Nat} {ls : Array Slot} {rest : List Value} (C : Cx cc own nL ret D cA adK adV A p s m args meth c) (hw : At D cA ad kf n R A s σ H locs) {o : Int} (ho : kf o = (3, 0)) (j : Nat) (hj : j < 13) {index : Nat} (hm : Cond.fieldLink own index RX3 (TX3 j).2.1 (TX3 j).2.2.1 ∈ gt) (hfin : (TX3 j).2.2.2 = false) {v : Value} (hn : narrow (tyX3 j) v = v) (hfit : fits (tyX3 j) v = true) (hl : j < 13) (z j' : Int) (hj' : (j : Int) = j') (hset : (fX3 ad o (σ o)).set j v = fX3 ad o (up (σ o) j' z)) (hdg : decode cc pc = .ok (.putfield index, 3)) (kk : ∀ (H1 : Heap) (locs1 : List Loc), At D cA ad kf n R A s (su σ o j' z) H1 locs1 → W p l e Rm s m args below meth c H1 locs1 0 0 Q (F0 m (pc + 3) ls rest)) : W p l e Rm s m args below meth c H locs 0 0 Q (F0 m pc ls (v :: .ref (ad o) :: rest)) := by
  subst hj'
  exact y_put C hw ho (by decide) rfl rfl inX3 tyX3 tyX3_ok nmX3 j hj hm (trX3 j) hfin hn hfit hl z (by rw [hset]; rfl) hdg kk
set_option maxRecDepth 100000 in
theorem inX4 : ∀ w ∈ u_ws RX4 TX4 9, w ∈ gt := List.forall_mem_cons.mpr ⟨wd_46, List.forall_mem_cons.mpr ⟨wd_48, List.forall_mem_cons.mpr ⟨wd_50, List.forall_mem_cons.mpr ⟨wd_52, List.forall_mem_cons.mpr ⟨wd_54, List.forall_mem_cons.mpr ⟨wd_56, List.forall_mem_cons.mpr ⟨wd_58, List.forall_mem_cons.mpr ⟨wd_60, List.forall_mem_cons.mpr ⟨wd_62, fun _ h => absurd h List.not_mem_nil⟩⟩⟩⟩⟩⟩⟩⟩⟩
theorem trX4 (j : Nat) : (TX4 j).1 = RX4 := by
  unfold TX4
  split <;> rfl
theorem g4 {p : Program} {l : Launch} {e : Env} {Rm : Room} {s : State} {m : MethodId} {args : Array Value} {below : List Frame} {meth : Method} {c : Code} {H : Heap} {locs : List Loc} {Q : State → Prop} {cc : ByteArray} {own : String} {nL : Nat} {ret : Option FieldType} {D : va_G} {cA : Nat → ClassId} {adK adV : Nat → Nat} {A : Nat → Prop} {ad : Int → Nat} {kf : Int → Nat × Nat} {n : Nat} {R : va_W} {σ : St} {pc : Nat} {ls : Array Slot} {rest : List Value} (C : Cx cc own nL ret D cA adK adV A p s m args meth c) (hw : At D cA ad kf n R A s σ H locs) {o : Int} (ho : kf o = (4, 0)) (j : Nat) (hj : j < 9) {index : Nat} (hm : Cond.fieldLink own index RX4 (TX4 j).2.1 (TX4 j).2.2.1 ∈ gt) {v : Value} (hv : (fX4 ad o (σ o))[j]? = some v) (hdg : decode cc pc = .ok (.getfield index, 3)) (kk : W p l e Rm s m args below meth c H locs 0 0 Q (F0 m (pc + 3) ls (v :: rest))) : W p l e Rm s m args below meth c H locs 0 0 Q (F0 m pc ls (.ref (ad o) :: rest)) :=
  y_get C hw ho (by decide) rfl rfl inX4 j hj hm (trX4 j) hv hdg kk
theorem q4 {p : Program} {l : Launch} {e : Env} {Rm : Room} {s : State} {m : MethodId} {args : Array Value} {below : List Frame} {meth : Method} {c : Code} {H : Heap} {locs : List Loc} {Q : State → Prop} {cc : ByteArray} {own : String} {nL : Nat} {ret : Option FieldType} {D : va_G} {cA : Nat → ClassId} {adK adV : Nat → Nat} {A : Nat → Prop} {ad : Int → Nat} {kf : Int → Nat × Nat} {n : Nat} {R : va_W} {σ : St} {pc : Nat} {ls : Array Slot} {rest : List Value} (C : Cx cc own nL ret D cA adK adV A p s m args meth c) (hw : At D cA ad kf n R A s σ H locs) {o : Int} (ho : kf o = (4, 0)) (j : Nat) (hj : j < 9) {index : Nat} (hm : Cond.fieldLink own index RX4 (TX4 j).2.1 (TX4 j).2.2.1 ∈ gt) (hfin : (TX4 j).2.2.2 = false) {v : Value} (hn : narrow (tyX4 j) v = v) (hfit : fits (tyX4 j) v = true) (hl : j < 9) (z j' : Int) (hj' : (j : Int) = j') (hset : (fX4 ad o (σ o)).set j v = fX4 ad o (up (σ o) j' z)) (hdg : decode cc pc = .ok (.putfield index, 3)) (kk : ∀ (H1 : Heap) (locs1 : List Loc), At D cA ad kf n R A s (su σ o j' z) H1 locs1 → W p l e Rm s m args below meth c H1 locs1 0 0 Q (F0 m (pc + 3) ls rest)) : W p l e Rm s m args below meth c H locs 0 0 Q (F0 m pc ls (v :: .ref (ad o) :: rest)) := by
  subst hj'
  exact y_put C hw ho (by decide) rfl rfl inX4 tyX4 tyX4_ok nmX4 j hj hm (trX4 j) hfin hn hfit hl z (by rw [hset]; rfl) hdg kk
set_option maxRecDepth 100000 in
theorem inX5 : ∀ w ∈ u_ws RX5 TX5 6, w ∈ gt := List.forall_mem_cons.mpr ⟨wd_281, List.forall_mem_cons.mpr ⟨wd_283, List.forall_mem_cons.mpr ⟨wd_285, List.forall_mem_cons.mpr ⟨wd_287, List.forall_mem_cons.mpr ⟨wd_289, List.forall_mem_cons.mpr ⟨wd_291, fun _ h => absurd h List.not_mem_nil⟩⟩⟩⟩⟩⟩
theorem trX5 (j : Nat) : (TX5 j).1 = RX5 := by
  unfold TX5
  split <;> rfl
theorem g5 {p : Program} {l : Launch} {e : Env} {Rm : Room} {s : State} {m : MethodId} {args : Array Value} {below : List Frame} {meth : Method} {c : Code} {H : Heap} {locs : List Loc} {Q : State → Prop} {cc : ByteArray} {own : String} {nL : Nat} {ret : Option FieldType} {D : va_G} {cA : Nat → ClassId} {adK adV : Nat → Nat} {A : Nat → Prop} {ad : Int → Nat} {kf : Int → Nat × Nat} {n : Nat} {R : va_W} {σ : St} {pc : Nat} {ls : Array Slot} {rest : List Value} (C : Cx cc own nL ret D cA adK adV A p s m args meth c) (hw : At D cA ad kf n R A s σ H locs) {o : Int} (ho : kf o = (5, 0)) (j : Nat) (hj : j < 6) {index : Nat} (hm : Cond.fieldLink own index RX5 (TX5 j).2.1 (TX5 j).2.2.1 ∈ gt) {v : Value} (hv : (fX5 ad o (σ o))[j]? = some v) (hdg : decode cc pc = .ok (.getfield index, 3)) (kk : W p l e Rm s m args below meth c H locs 0 0 Q (F0 m (pc + 3) ls (v :: rest))) : W p l e Rm s m args below meth c H locs 0 0 Q (F0 m pc ls (.ref (ad o) :: rest)) :=
  y_get C hw ho (by decide) rfl rfl inX5 j hj hm (trX5 j) hv hdg kk
theorem q5 {p : Program} {l : Launch} {e : Env} {Rm : Room} {s : State} {m : MethodId} {args : Array Value} {below : List Frame} {meth : Method} {c : Code} {H : Heap} {locs : List Loc} {Q : State → Prop} {cc : ByteArray} {own : String} {nL : Nat} {ret : Option FieldType} {D : va_G} {cA : Nat → ClassId} {adK adV : Nat → Nat} {A : Nat → Prop} {ad : Int → Nat} {kf : Int → Nat × Nat} {n : Nat} {R : va_W} {σ : St} {pc : Nat} {ls : Array Slot} {rest : List Value} (C : Cx cc own nL ret D cA adK adV A p s m args meth c) (hw : At D cA ad kf n R A s σ H locs) {o : Int} (ho : kf o = (5, 0)) (j : Nat) (hj : j < 6) {index : Nat} (hm : Cond.fieldLink own index RX5 (TX5 j).2.1 (TX5 j).2.2.1 ∈ gt) (hfin : (TX5 j).2.2.2 = false) {v : Value} (hn : narrow (tyX5 j) v = v) (hfit : fits (tyX5 j) v = true) (hl : j < 6) (z j' : Int) (hj' : (j : Int) = j') (hset : (fX5 ad o (σ o)).set j v = fX5 ad o (up (σ o) j' z)) (hdg : decode cc pc = .ok (.putfield index, 3)) (kk : ∀ (H1 : Heap) (locs1 : List Loc), At D cA ad kf n R A s (su σ o j' z) H1 locs1 → W p l e Rm s m args below meth c H1 locs1 0 0 Q (F0 m (pc + 3) ls rest)) : W p l e Rm s m args below meth c H locs 0 0 Q (F0 m pc ls (v :: .ref (ad o) :: rest)) := by
  subst hj'
  exact y_put C hw ho (by decide) rfl rfl inX5 tyX5 tyX5_ok nmX5 j hj hm (trX5 j) hfin hn hfit hl z (by rw [hset]; rfl) hdg kk
set_option maxRecDepth 100000 in
theorem inX6 : ∀ w ∈ u_ws RX6 TX6 8, w ∈ gt := List.forall_mem_cons.mpr ⟨wd_206, List.forall_mem_cons.mpr ⟨wd_208, List.forall_mem_cons.mpr ⟨wd_210, List.forall_mem_cons.mpr ⟨wd_212, List.forall_mem_cons.mpr ⟨wd_214, List.forall_mem_cons.mpr ⟨wd_216, List.forall_mem_cons.mpr ⟨wd_218, List.forall_mem_cons.mpr ⟨wd_220, fun _ h => absurd h List.not_mem_nil⟩⟩⟩⟩⟩⟩⟩⟩
theorem trX6 (j : Nat) : (TX6 j).1 = RX6 := by
  unfold TX6
  split <;> rfl
theorem g6 {p : Program} {l : Launch} {e : Env} {Rm : Room} {s : State} {m : MethodId} {args : Array Value} {below : List Frame} {meth : Method} {c : Code} {H : Heap} {locs : List Loc} {Q : State → Prop} {cc : ByteArray} {own : String} {nL : Nat} {ret : Option FieldType} {D : va_G} {cA : Nat → ClassId} {adK adV : Nat → Nat} {A : Nat → Prop} {ad : Int → Nat} {kf : Int → Nat × Nat} {n : Nat} {R : va_W} {σ : St} {pc : Nat} {ls : Array Slot} {rest : List Value} (C : Cx cc own nL ret D cA adK adV A p s m args meth c) (hw : At D cA ad kf n R A s σ H locs) {o : Int} (ho : kf o = (6, 0)) (j : Nat) (hj : j < 8) {index : Nat} (hm : Cond.fieldLink own index RX6 (TX6 j).2.1 (TX6 j).2.2.1 ∈ gt) {v : Value} (hv : (fX6 ad o (σ o))[j]? = some v) (hdg : decode cc pc = .ok (.getfield index, 3)) (kk : W p l e Rm s m args below meth c H locs 0 0 Q (F0 m (pc + 3) ls (v :: rest))) : W p l e Rm s m args below meth c H locs 0 0 Q (F0 m pc ls (.ref (ad o) :: rest)) :=
  y_get C hw ho (by decide) rfl rfl inX6 j hj hm (trX6 j) hv hdg kk
theorem q6 {p : Program} {l : Launch} {e : Env} {Rm : Room} {s : State} {m : MethodId} {args : Array Value} {below : List Frame} {meth : Method} {c : Code} {H : Heap} {locs : List Loc} {Q : State → Prop} {cc : ByteArray} {own : String} {nL : Nat} {ret : Option FieldType} {D : va_G} {cA : Nat → ClassId} {adK adV : Nat → Nat} {A : Nat → Prop} {ad : Int → Nat} {kf : Int → Nat × Nat} {n : Nat} {R : va_W} {σ : St} {pc : Nat} {ls : Array Slot} {rest : List Value} (C : Cx cc own nL ret D cA adK adV A p s m args meth c) (hw : At D cA ad kf n R A s σ H locs) {o : Int} (ho : kf o = (6, 0)) (j : Nat) (hj : j < 8) {index : Nat} (hm : Cond.fieldLink own index RX6 (TX6 j).2.1 (TX6 j).2.2.1 ∈ gt) (hfin : (TX6 j).2.2.2 = false) {v : Value} (hn : narrow (tyX6 j) v = v) (hfit : fits (tyX6 j) v = true) (hl : j < 8) (z j' : Int) (hj' : (j : Int) = j') (hset : (fX6 ad o (σ o)).set j v = fX6 ad o (up (σ o) j' z)) (hdg : decode cc pc = .ok (.putfield index, 3)) (kk : ∀ (H1 : Heap) (locs1 : List Loc), At D cA ad kf n R A s (su σ o j' z) H1 locs1 → W p l e Rm s m args below meth c H1 locs1 0 0 Q (F0 m (pc + 3) ls rest)) : W p l e Rm s m args below meth c H locs 0 0 Q (F0 m pc ls (v :: .ref (ad o) :: rest)) := by
  subst hj'
  exact y_put C hw ho (by decide) rfl rfl inX6 tyX6 tyX6_ok nmX6 j hj hm (trX6 j) hfin hn hfit hl z (by rw [hset]; rfl) hdg kk
set_option maxRecDepth 100000 in
theorem inX7 : ∀ w ∈ u_ws RX7 TX7 14, w ∈ gt := List.forall_mem_cons.mpr ⟨wd_308, List.forall_mem_cons.mpr ⟨wd_310, List.forall_mem_cons.mpr ⟨wd_312, List.forall_mem_cons.mpr ⟨wd_314, List.forall_mem_cons.mpr ⟨wd_316, List.forall_mem_cons.mpr ⟨wd_318, List.forall_mem_cons.mpr ⟨wd_320, List.forall_mem_cons.mpr ⟨wd_322, List.forall_mem_cons.mpr ⟨wd_324, List.forall_mem_cons.mpr ⟨wd_326, List.forall_mem_cons.mpr ⟨wd_328, List.forall_mem_cons.mpr ⟨wd_330, List.forall_mem_cons.mpr ⟨wd_332, List.forall_mem_cons.mpr ⟨wd_334, fun _ h => absurd h List.not_mem_nil⟩⟩⟩⟩⟩⟩⟩⟩⟩⟩⟩⟩⟩⟩
theorem trX7 (j : Nat) : (TX7 j).1 = RX7 := by
  unfold TX7
  split <;> rfl
theorem g7 {p : Program} {l : Launch} {e : Env} {Rm : Room} {s : State} {m : MethodId} {args : Array Value} {below : List Frame} {meth : Method} {c : Code} {H : Heap} {locs : List Loc} {Q : State → Prop} {cc : ByteArray} {own : String} {nL : Nat} {ret : Option FieldType} {D : va_G} {cA : Nat → ClassId} {adK adV : Nat → Nat} {A : Nat → Prop} {ad : Int → Nat} {kf : Int → Nat × Nat} {n : Nat} {R : va_W} {σ : St} {pc : Nat} {ls : Array Slot} {rest : List Value} (C : Cx cc own nL ret D cA adK adV A p s m args meth c) (hw : At D cA ad kf n R A s σ H locs) {o : Int} (ho : kf o = (7, 0)) (j : Nat) (hj : j < 14) {index : Nat} (hm : Cond.fieldLink own index RX7 (TX7 j).2.1 (TX7 j).2.2.1 ∈ gt) {v : Value} (hv : (fX7 ad o (σ o))[j]? = some v) (hdg : decode cc pc = .ok (.getfield index, 3)) (kk : W p l e Rm s m args below meth c H locs 0 0 Q (F0 m (pc + 3) ls (v :: rest))) : W p l e Rm s m args below meth c H locs 0 0 Q (F0 m pc ls (.ref (ad o) :: rest)) :=
  y_get C hw ho (by decide) rfl rfl inX7 j hj hm (trX7 j) hv hdg kk
theorem q7 {p : Program} {l : Launch} {e : Env} {Rm : Room} {s : State} {m : MethodId} {args : Array Value} {below : List Frame} {meth : Method} {c : Code} {H : Heap} {locs : List Loc} {Q : State → Prop} {cc : ByteArray} {own : String} {nL : Nat} {ret : Option FieldType} {D : va_G} {cA : Nat → ClassId} {adK adV : Nat → Nat} {A : Nat → Prop} {ad : Int → Nat} {kf : Int → Nat × Nat} {n : Nat} {R : va_W} {σ : St} {pc : Nat} {ls : Array Slot} {rest : List Value} (C : Cx cc own nL ret D cA adK adV A p s m args meth c) (hw : At D cA ad kf n R A s σ H locs) {o : Int} (ho : kf o = (7, 0)) (j : Nat) (hj : j < 14) {index : Nat} (hm : Cond.fieldLink own index RX7 (TX7 j).2.1 (TX7 j).2.2.1 ∈ gt) (hfin : (TX7 j).2.2.2 = false) {v : Value} (hn : narrow (tyX7 j) v = v) (hfit : fits (tyX7 j) v = true) (hl : j < 14) (z j' : Int) (hj' : (j : Int) = j') (hset : (fX7 ad o (σ o)).set j v = fX7 ad o (up (σ o) j' z)) (hdg : decode cc pc = .ok (.putfield index, 3)) (kk : ∀ (H1 : Heap) (locs1 : List Loc), At D cA ad kf n R A s (su σ o j' z) H1 locs1 → W p l e Rm s m args below meth c H1 locs1 0 0 Q (F0 m (pc + 3) ls rest)) : W p l e Rm s m args below meth c H locs 0 0 Q (F0 m pc ls (v :: .ref (ad o) :: rest)) := by
  subst hj'
  exact y_put C hw ho (by decide) rfl rfl inX7 tyX7 tyX7_ok nmX7 j hj hm (trX7 j) hfin hn hfit hl z (by rw [hset]; rfl) hdg kk
set_option maxRecDepth 100000 in
theorem inX8 : ∀ w ∈ u_ws RX8 TX8 50, w ∈ gt := List.forall_mem_cons.mpr ⟨wd_921, List.forall_mem_cons.mpr ⟨wd_923, List.forall_mem_cons.mpr ⟨wd_925, List.forall_mem_cons.mpr ⟨wd_927, List.forall_mem_cons.mpr ⟨wd_929, List.forall_mem_cons.mpr ⟨wd_931, List.forall_mem_cons.mpr ⟨wd_933, List.forall_mem_cons.mpr ⟨wd_935, List.forall_mem_cons.mpr ⟨wd_937, List.forall_mem_cons.mpr ⟨wd_939, List.forall_mem_cons.mpr ⟨wd_941, List.forall_mem_cons.mpr ⟨wd_943, List.forall_mem_cons.mpr ⟨wd_945, List.forall_mem_cons.mpr ⟨wd_947, List.forall_mem_cons.mpr ⟨wd_949, List.forall_mem_cons.mpr ⟨wd_951, List.forall_mem_cons.mpr ⟨wd_953, List.forall_mem_cons.mpr ⟨wd_955, List.forall_mem_cons.mpr ⟨wd_957, List.forall_mem_cons.mpr ⟨wd_959, List.forall_mem_cons.mpr ⟨wd_961, List.forall_mem_cons.mpr ⟨wd_963, List.forall_mem_cons.mpr ⟨wd_965, List.forall_mem_cons.mpr ⟨wd_967, List.forall_mem_cons.mpr ⟨wd_969, List.forall_mem_cons.mpr ⟨wd_971, List.forall_mem_cons.mpr ⟨wd_973, List.forall_mem_cons.mpr ⟨wd_975, List.forall_mem_cons.mpr ⟨wd_977, List.forall_mem_cons.mpr ⟨wd_979, List.forall_mem_cons.mpr ⟨wd_981, List.forall_mem_cons.mpr ⟨wd_983, List.forall_mem_cons.mpr ⟨wd_985, List.forall_mem_cons.mpr ⟨wd_987, List.forall_mem_cons.mpr ⟨wd_989, List.forall_mem_cons.mpr ⟨wd_991, List.forall_mem_cons.mpr ⟨wd_993, List.forall_mem_cons.mpr ⟨wd_995, List.forall_mem_cons.mpr ⟨wd_997, List.forall_mem_cons.mpr ⟨wd_999, List.forall_mem_cons.mpr ⟨wd_1001, List.forall_mem_cons.mpr ⟨wd_1003, List.forall_mem_cons.mpr ⟨wd_1005, List.forall_mem_cons.mpr ⟨wd_1007, List.forall_mem_cons.mpr ⟨wd_1009, List.forall_mem_cons.mpr ⟨wd_1011, List.forall_mem_cons.mpr ⟨wd_1013, List.forall_mem_cons.mpr ⟨wd_1015, List.forall_mem_cons.mpr ⟨wd_1017, List.forall_mem_cons.mpr ⟨wd_1019, fun _ h => absurd h List.not_mem_nil⟩⟩⟩⟩⟩⟩⟩⟩⟩⟩⟩⟩⟩⟩⟩⟩⟩⟩⟩⟩⟩⟩⟩⟩⟩⟩⟩⟩⟩⟩⟩⟩⟩⟩⟩⟩⟩⟩⟩⟩⟩⟩⟩⟩⟩⟩⟩⟩⟩⟩
theorem trX8 (j : Nat) : (TX8 j).1 = RX8 := by
  unfold TX8
  split <;> rfl
theorem g8 {p : Program} {l : Launch} {e : Env} {Rm : Room} {s : State} {m : MethodId} {args : Array Value} {below : List Frame} {meth : Method} {c : Code} {H : Heap} {locs : List Loc} {Q : State → Prop} {cc : ByteArray} {own : String} {nL : Nat} {ret : Option FieldType} {D : va_G} {cA : Nat → ClassId} {adK adV : Nat → Nat} {A : Nat → Prop} {ad : Int → Nat} {kf : Int → Nat × Nat} {n : Nat} {R : va_W} {σ : St} {pc : Nat} {ls : Array Slot} {rest : List Value} (C : Cx cc own nL ret D cA adK adV A p s m args meth c) (hw : At D cA ad kf n R A s σ H locs) {o : Int} (ho : kf o = (8, 0)) (j : Nat) (hj : j < 50) {index : Nat} (hm : Cond.fieldLink own index RX8 (TX8 j).2.1 (TX8 j).2.2.1 ∈ gt) {v : Value} (hv : (fX8 ad o (σ o))[j]? = some v) (hdg : decode cc pc = .ok (.getfield index, 3)) (kk : W p l e Rm s m args below meth c H locs 0 0 Q (F0 m (pc + 3) ls (v :: rest))) : W p l e Rm s m args below meth c H locs 0 0 Q (F0 m pc ls (.ref (ad o) :: rest)) :=
  y_get C hw ho (by decide) rfl rfl inX8 j hj hm (trX8 j) hv hdg kk
theorem q8 {p : Program} {l : Launch} {e : Env} {Rm : Room} {s : State} {m : MethodId} {args : Array Value} {below : List Frame} {meth : Method} {c : Code} {H : Heap} {locs : List Loc} {Q : State → Prop} {cc : ByteArray} {own : String} {nL : Nat} {ret : Option FieldType} {D : va_G} {cA : Nat → ClassId} {adK adV : Nat → Nat} {A : Nat → Prop} {ad : Int → Nat} {kf : Int → Nat × Nat} {n : Nat} {R : va_W} {σ : St} {pc : Nat} {ls : Array Slot} {rest : List Value} (C : Cx cc own nL ret D cA adK adV A p s m args meth c) (hw : At D cA ad kf n R A s σ H locs) {o : Int} (ho : kf o = (8, 0)) (j : Nat) (hj : j < 50) {index : Nat} (hm : Cond.fieldLink own index RX8 (TX8 j).2.1 (TX8 j).2.2.1 ∈ gt) (hfin : (TX8 j).2.2.2 = false) {v : Value} (hn : narrow (tyX8 j) v = v) (hfit : fits (tyX8 j) v = true) (hl : j < 50) (z j' : Int) (hj' : (j : Int) = j') (hset : (fX8 ad o (σ o)).set j v = fX8 ad o (up (σ o) j' z)) (hdg : decode cc pc = .ok (.putfield index, 3)) (kk : ∀ (H1 : Heap) (locs1 : List Loc), At D cA ad kf n R A s (su σ o j' z) H1 locs1 → W p l e Rm s m args below meth c H1 locs1 0 0 Q (F0 m (pc + 3) ls rest)) : W p l e Rm s m args below meth c H locs 0 0 Q (F0 m pc ls (v :: .ref (ad o) :: rest)) := by
  subst hj'
  exact y_put C hw ho (by decide) rfl rfl inX8 tyX8 tyX8_ok nmX8 j hj hm (trX8 j) hfin hn hfit hl z (by rw [hset]; rfl) hdg kk
def nx (x : St) (f : St → Option (Int × St)) : Option (Int × St) := f x
def nz (x : Int) (f : Int → Option (Int × St)) : Option (Int × St) := f x
theorem nx_some {x : St} {f : St → Option (Int × St)} {y : Int × St} (h : nx x f = some y) : ∃ z, z = x ∧ f z = some y := ⟨x, rfl, h⟩
theorem nz_some {x : Int} {f : Int → Option (Int × St)} {y : Int × St} (h : nz x f = some y) : ∃ z, z = x ∧ f z = some y := ⟨x, rfl, h⟩
theorem rv_nar {ad : Int → Nat} {z : Int} {Cn : String} : narrow (.object Cn) (rv ad z) = rv ad z := by
  unfold rv
  split <;> rfl
theorem rv_fit {ad : Int → Nat} {z : Int} {Cn : String} : fits (.object Cn) (rv ad z) = true := by
  unfold rv
  split <;> rfl
theorem kx_0 : kX 0 = (7, 0) := by decide
theorem kx_1 : kX 1 = (4, 0) := by decide
theorem kx_3 : kX 3 = (30, 2) := by decide
theorem kx_4 : kX 4 = (31, 4) := by decide
theorem kx_5 : kX 5 = (32, 4) := by decide
theorem kx_6 : kX 6 = (33, 8) := by decide
theorem kx_7 : kX 7 = (0, 0) := by decide
theorem kx_9 : kX 9 = (1, 0) := by decide
theorem kx_15 : kX 15 = (22, 4) := by decide
theorem kx_16 : kX 16 = (2, 0) := by decide
theorem kx_22 : kX 22 = (34, 2) := by decide
theorem kx_107 : kX 107 = (3, 0) := by decide
theorem km_0 : kM 0 = (8, 0) := by decide
theorem km_1 : kM 1 = (20, 3) := by decide
theorem km_2 : kM 2 = (20, 30) := by decide
theorem km_3 : kM 3 = (20, 3) := by decide
theorem km_4 : kM 4 = (20, 3) := by decide
theorem km_5 : kM 5 = (20, 3) := by decide
theorem km_6 : kM 6 = (20, 3) := by decide
theorem km_7 : kM 7 = (20, 3) := by decide
theorem km_8 : kM 8 = (20, 4) := by decide
theorem km_9 : kM 9 = (20, 32) := by decide
theorem km_10 : kM 10 = (20, 32) := by decide
theorem km_11 : kM 11 = (20, 4) := by decide
theorem km_12 : kM 12 = (20, 4) := by decide
theorem km_13 : kM 13 = (20, 300) := by decide
theorem km_14 : kM 14 = (20, 4) := by decide
theorem km_15 : kM 15 = (20, 120) := by decide
theorem km_16 : kM 16 = (20, 310) := by decide
theorem km_17 : kM 17 = (20, 31200) := by decide
theorem km_18 : kM 18 = (20, 24) := by decide
theorem km_19 : kM 19 = (20, 24) := by decide
theorem km_20 : kM 20 = (21, 24) := by decide
theorem km_21 : kM 21 = (20, 4) := by decide
theorem km_22 : kM 22 = (20, 4) := by decide
theorem km_23 : kM 23 = (20, 10) := by decide
theorem km_24 : kM 24 = (20, 10) := by decide
theorem km_25 : kM 25 = (20, 8) := by decide
theorem km_26 : kM 26 = (20, 8) := by decide
theorem km_27 : kM 27 = (22, 4) := by decide
theorem km_28 : kM 28 = (20, 32) := by decide
theorem km_29 : kM 29 = (20, 200) := by decide
theorem km_30 : kM 30 = (21, 2) := by decide
theorem y_tabIn {nc ns : Nat} {p : Program} {l : Launch} {e : Env} {Rm : Room} {s : State} {m : MethodId} {args : Array Value} {below : List Frame} {meth : Method} {c : Code} {H : Heap} {locs : List Loc} {Q : State → Prop} {cc : ByteArray} {own : String} {nL : Nat} {ret : Option FieldType} {D : va_G} {cA : Nat → ClassId} {adK adV : Nat → Nat} {A : Nat → Prop} {pc : Nat} {ls : Array Slot} {rest : List Value} (C : Cx cc own nL ret D cA adK adV A p s m args meth c) {dflt lo hi : Int} {offs : Array Int} {len : Nat} {a v off : Int} {tgt : Nat} (hdg : decode cc pc = .ok (.tableswitch dflt lo hi offs, len)) (hv : zm a = v) (h1 : ¬ v < lo) (h2 : ¬ hi < v) (ho : offs[(v - lo).toNat]? = some off) (ht : (pc : Int) + off = (tgt : Int)) (k : W p l e Rm s m args below meth c H locs nc ns Q (F0 m tgt ls rest)) : W p l e Rm s m args below meth c H locs nc ns Q (F0 m pc ls (.int (zI a) :: rest)) := by
  subst hv
  exact lv_tableIn C.1 C.2.1 hdg h1 h2 ho ht k
theorem y_tabOut {nc ns : Nat} {p : Program} {l : Launch} {e : Env} {Rm : Room} {s : State} {m : MethodId} {args : Array Value} {below : List Frame} {meth : Method} {c : Code} {H : Heap} {locs : List Loc} {Q : State → Prop} {cc : ByteArray} {own : String} {nL : Nat} {ret : Option FieldType} {D : va_G} {cA : Nat → ClassId} {adK adV : Nat → Nat} {A : Nat → Prop} {pc : Nat} {ls : Array Slot} {rest : List Value} (C : Cx cc own nL ret D cA adK adV A p s m args meth c) {dflt lo hi : Int} {offs : Array Int} {len : Nat} {a : Int} {tgt : Nat} (hdg : decode cc pc = .ok (.tableswitch dflt lo hi offs, len)) (h : zm a < lo ∨ hi < zm a) (ht : (pc : Int) + dflt = (tgt : Int)) (k : W p l e Rm s m args below meth c H locs nc ns Q (F0 m tgt ls rest)) : W p l e Rm s m args below meth c H locs nc ns Q (F0 m pc ls (.int (zI a) :: rest)) := lv_tableOut C.1 C.2.1 hdg h ht k
theorem mi_X0_init : MI yX0_init cX0_init 1 none 0 := ⟨⟨by decide, by decide, by decide +kernel⟩, wd_3, wd_77⟩
theorem mi_X0_copyFrom : MI yX0_copyFrom cX0_copyFrom 3 none 1 := ⟨⟨by decide, by decide, by decide +kernel⟩, wd_3, wd_480⟩
theorem mi_X0_isKept : MI yX0_isKept cX0_isKept 2 (some .boolean) 1 := ⟨⟨by decide, by decide, by decide +kernel⟩, wd_3, wd_572⟩
theorem mi_X0_bears : MI yX0_bears cX0_bears 2 (some .int) 1 := ⟨⟨by decide, by decide, by decide +kernel⟩, wd_3, wd_615⟩
theorem mi_X0_rungAfter : MI yX0_rungAfter cX0_rungAfter 3 (some .int) 2 := ⟨⟨by decide, by decide, by decide +kernel⟩, wd_3, wd_565⟩
theorem mi_X0_readFrom : MI yX0_readFrom cX0_readFrom 4 none 1 := ⟨⟨by decide, by decide, by decide +kernel⟩, wd_3, wd_358⟩
theorem mi_X0_readRung : MI yX0_readRung cX0_readRung 2 none 1 := ⟨⟨by decide, by decide, by decide +kernel⟩, wd_3, wd_441⟩
theorem mi_X0_readStep : MI yX0_readStep cX0_readStep 5 (some .int) 2 := ⟨⟨by decide, by decide, by decide +kernel⟩, wd_3, wd_461⟩
theorem mi_X0_stepTold : MI yX0_stepTold cX0_stepTold 1 (some .int) 1 := ⟨⟨by decide, by decide, by decide +kernel⟩, wd_3, wd_464⟩
theorem mi_X0_setStep : MI yX0_setStep cX0_setStep 3 none 2 := ⟨⟨by decide, by decide, by decide +kernel⟩, wd_3, wd_472⟩
theorem mi_X1_init : MI yX1_init cX1_init 1 none 0 := ⟨⟨by decide, by decide, by decide +kernel⟩, wd_4, wd_117⟩
theorem mi_X1_reckon : MI yX1_reckon cX1_reckon 4 none 2 := ⟨⟨by decide, by decide, by decide +kernel⟩, wd_4, wd_713⟩
theorem mi_X1_reckonRung : MI yX1_reckonRung cX1_reckonRung 5 none 3 := ⟨⟨by decide, by decide, by decide +kernel⟩, wd_4, wd_717⟩
theorem mi_X1_oddsOf : MI yX1_oddsOf cX1_oddsOf 3 (some .int) 2 := ⟨⟨by decide, by decide, by decide +kernel⟩, wd_4, wd_747⟩
theorem mi_X1_goTo : MI yX1_goTo cX1_goTo 4 none 2 := ⟨⟨by decide, by decide, by decide +kernel⟩, wd_4, wd_739⟩
theorem mi_X1_paid : MI yX1_paid cX1_paid 4 (some .int) 1 := ⟨⟨by decide, by decide, by decide +kernel⟩, wd_4, wd_762⟩
theorem mi_X1_askedFor : MI yX1_askedFor cX1_askedFor 3 (some .int) 0 := ⟨⟨by decide, by decide, by decide +kernel⟩, wd_4, wd_766⟩
theorem mi_X1_passMonth : MI yX1_passMonth cX1_passMonth 6 (some .int) 2 := ⟨⟨by decide, by decide, by decide +kernel⟩, wd_4, wd_724⟩
theorem mi_X1_passYear : MI yX1_passYear cX1_passYear 6 none 1 := ⟨⟨by decide, by decide, by decide +kernel⟩, wd_4, wd_743⟩
theorem mi_X2_init : MI yX2_init cX2_init 1 none 0 := ⟨⟨by decide, by decide, by decide +kernel⟩, wd_5, wd_140⟩
theorem mi_X2_rises : MI yX2_rises cX2_rises 2 (some .boolean) 1 := ⟨⟨by decide, by decide, by decide +kernel⟩, wd_5, wd_682⟩
theorem mi_X2_addScrape : MI yX2_addScrape cX2_addScrape 4 none 3 := ⟨⟨by decide, by decide, by decide +kernel⟩, wd_5, wd_686⟩
theorem mi_X2_addYear : MI yX2_addYear cX2_addYear 3 none 2 := ⟨⟨by decide, by decide, by decide +kernel⟩, wd_5, wd_774⟩
theorem mi_X2_highestRung : MI yX2_highestRung cX2_highestRung 3 (some .int) 0 := ⟨⟨by decide, by decide, by decide +kernel⟩, wd_5, wd_786⟩
theorem mi_X2_draw : MI yX2_draw cX2_draw 2 (some .int) 1 := ⟨⟨by decide, by decide, by decide +kernel⟩, wd_5, wd_839⟩
theorem mi_X2_copyFrom : MI yX2_copyFrom cX2_copyFrom 3 none 1 := ⟨⟨by decide, by decide, by decide +kernel⟩, wd_5, wd_860⟩
theorem mi_X3_init : MI yX3_init cX3_init 3 none 2 := ⟨⟨by decide, by decide, by decide +kernel⟩, wd_7, wd_226⟩
theorem mi_X3_begin : MI yX3_begin cX3_begin 4 none 3 := ⟨⟨by decide, by decide, by decide +kernel⟩, wd_7, wd_674⟩
theorem mi_X3_forget : MI yX3_forget cX3_forget 1 none 0 := ⟨⟨by decide, by decide, by decide +kernel⟩, wd_7, wd_484⟩
theorem mi_X3_know : MI yX3_know cX3_know 4 none 1 := ⟨⟨by decide, by decide, by decide +kernel⟩, wd_7, wd_595⟩
theorem mi_X3_costWith : MI yX3_costWith cX3_costWith 3 (some .int) 2 := ⟨⟨by decide, by decide, by decide +kernel⟩, wd_7, wd_637⟩
theorem mi_X3_isPained : MI yX3_isPained cX3_isPained 3 (some .boolean) 2 := ⟨⟨by decide, by decide, by decide +kernel⟩, wd_7, wd_654⟩
theorem mi_X3_openYear : MI yX3_openYear cX3_openYear 6 none 3 := ⟨⟨by decide, by decide, by decide +kernel⟩, wd_7, wd_603⟩
theorem mi_X3_inside : MI yX3_inside cX3_inside 3 (some .int) 2 := ⟨⟨by decide, by decide, by decide +kernel⟩, wd_7, wd_632⟩
theorem mi_X3_isAsked : MI yX3_isAsked cX3_isAsked 4 (some .boolean) 3 := ⟨⟨by decide, by decide, by decide +kernel⟩, wd_7, wd_694⟩
theorem mi_X3_leastAsked : MI yX3_leastAsked cX3_leastAsked 4 (some .int) 2 := ⟨⟨by decide, by decide, by decide +kernel⟩, wd_7, wd_662⟩
theorem mi_X3_chanceAsked : MI yX3_chanceAsked cX3_chanceAsked 3 (some .int) 2 := ⟨⟨by decide, by decide, by decide +kernel⟩, wd_7, wd_733⟩
theorem mi_X3_houseBears : MI yX3_houseBears cX3_houseBears 3 (some .int) 2 := ⟨⟨by decide, by decide, by decide +kernel⟩, wd_7, wd_728⟩
theorem mi_X3_reckonCost : MI yX3_reckonCost cX3_reckonCost 6 none 2 := ⟨⟨by decide, by decide, by decide +kernel⟩, wd_7, wd_599⟩
theorem mi_X3_sumScrapes : MI yX3_sumScrapes cX3_sumScrapes 5 none 1 := ⟨⟨by decide, by decide, by decide +kernel⟩, wd_7, wd_607⟩
theorem mi_X3_costsLater : MI yX3_costsLater cX3_costsLater 3 (some .int) 2 := ⟨⟨by decide, by decide, by decide +kernel⟩, wd_7, wd_624⟩
theorem mi_X3_reckonMonth : MI yX3_reckonMonth cX3_reckonMonth 7 none 2 := ⟨⟨by decide, by decide, by decide +kernel⟩, wd_7, wd_620⟩
theorem mi_X4_init : MI yX4_init cX4_init 1 none 0 := ⟨⟨by decide, by decide, by decide +kernel⟩, wd_2, wd_27⟩
theorem mi_X4_add : MI yX4_add cX4_add 2 none 1 := ⟨⟨by decide, by decide, by decide +kernel⟩, wd_2, wd_349⟩
theorem mi_X4_open : MI yX4_open cX4_open 1 none 0 := ⟨⟨by decide, by decide, by decide +kernel⟩, wd_2, wd_362⟩
theorem mi_X4_goesOn : MI yX4_goesOn cX4_goesOn 1 (some .boolean) 0 := ⟨⟨by decide, by decide, by decide +kernel⟩, wd_2, wd_384⟩
theorem mi_X4_fail : MI yX4_fail cX4_fail 3 none 2 := ⟨⟨by decide, by decide, by decide +kernel⟩, wd_2, wd_445⟩
theorem mi_X4_step : MI yX4_step cX4_step 1 none 0 := ⟨⟨by decide, by decide, by decide +kernel⟩, wd_2, wd_366⟩
theorem mi_X4_isWord : MI yX4_isWord cX4_isWord 3 (some .boolean) 1 := ⟨⟨by decide, by decide, by decide +kernel⟩, wd_2, wd_389⟩
theorem mi_X4_number : MI yX4_number cX4_number 4 (some .int) 2 := ⟨⟨by decide, by decide, by decide +kernel⟩, wd_2, wd_450⟩
theorem mi_X4_closeClause : MI yX4_closeClause cX4_closeClause 1 none 0 := ⟨⟨by decide, by decide, by decide +kernel⟩, wd_2, wd_457⟩
theorem mi_X4_passLetters : MI yX4_passLetters cX4_passLetters 1 none 0 := ⟨⟨by decide, by decide, by decide +kernel⟩, wd_2, wd_373⟩
theorem mi_X4_passFigures : MI yX4_passFigures cX4_passFigures 1 none 0 := ⟨⟨by decide, by decide, by decide +kernel⟩, wd_2, wd_380⟩
theorem mi_X4_isLetter : MI yX4_isLetter cX4_isLetter 1 (some .boolean) 1 := ⟨⟨by decide, by decide, by decide +kernel⟩, wd_2, wd_369⟩
theorem mi_X4_isFigure : MI yX4_isFigure cX4_isFigure 1 (some .boolean) 1 := ⟨⟨by decide, by decide, by decide +kernel⟩, wd_2, wd_376⟩
theorem mi_X5_init : MI yX5_init cX5_init 1 none 0 := ⟨⟨by decide, by decide, by decide +kernel⟩, wd_8, wd_273⟩
theorem mi_X5_barOn : MI yX5_barOn cX5_barOn 5 (some .int) 2 := ⟨⟨by decide, by decide, by decide +kernel⟩, wd_8, wd_628⟩
theorem mi_X5_readFrom : MI yX5_readFrom cX5_readFrom 3 none 1 := ⟨⟨by decide, by decide, by decide +kernel⟩, wd_8, wd_523⟩
theorem mi_X5_readBar : MI yX5_readBar cX5_readBar 2 none 1 := ⟨⟨by decide, by decide, by decide +kernel⟩, wd_8, wd_532⟩
theorem mi_X6_init : MI yX6_init cX6_init 1 none 0 := ⟨⟨by decide, by decide, by decide +kernel⟩, wd_6, wd_185⟩
theorem mi_X6_chance : MI yX6_chance cX6_chance 3 (some .int) 2 := ⟨⟨by decide, by decide, by decide +kernel⟩, wd_6, wd_611⟩
theorem mi_X6_sumDrawn : MI yX6_sumDrawn cX6_sumDrawn 4 (some .int) 1 := ⟨⟨by decide, by decide, by decide +kernel⟩, wd_6, wd_847⟩
theorem mi_X6_readFrom : MI yX6_readFrom cX6_readFrom 3 none 1 := ⟨⟨by decide, by decide, by decide +kernel⟩, wd_6, wd_494⟩
theorem mi_X6_readScrape : MI yX6_readScrape cX6_readScrape 3 none 1 := ⟨⟨by decide, by decide, by decide +kernel⟩, wd_6, wd_502⟩
theorem mi_X6_readPains : MI yX6_readPains cX6_readPains 2 none 1 := ⟨⟨by decide, by decide, by decide +kernel⟩, wd_6, wd_511⟩
theorem mi_X6_spare : MI yX6_spare cX6_spare 2 none 0 := ⟨⟨by decide, by decide, by decide +kernel⟩, wd_6, wd_515⟩
theorem mi_X7_init : MI yX7_init cX7_init 2 none 0 := ⟨⟨by decide, by decide, by decide +kernel⟩, wd_1, wd_19⟩
theorem mi_X7_feed : MI yX7_feed cX7_feed 5 (some .int) 2 := ⟨⟨by decide, by decide, by decide +kernel⟩, wd_1, wd_340⟩
theorem mi_X7_house : MI yX7_house cX7_house 4 (some .int) 1 := ⟨⟨by decide, by decide, by decide +kernel⟩, wd_1, wd_353⟩
theorem mi_X7_sort : MI yX7_sort cX7_sort 2 (some .int) 0 := ⟨⟨by decide, by decide, by decide +kernel⟩, wd_1, wd_489⟩
theorem mi_X7_rule : MI yX7_rule cX7_rule 2 (some .int) 0 := ⟨⟨by decide, by decide, by decide +kernel⟩, wd_1, wd_519⟩
theorem mi_X7_fault : MI yX7_fault cX7_fault 1 (some .int) 0 := ⟨⟨by decide, by decide, by decide +kernel⟩, wd_1, wd_541⟩
theorem mi_X7_told : MI yX7_told cX7_told 3 (some .int) 2 := ⟨⟨by decide, by decide, by decide +kernel⟩, wd_1, wd_545⟩
theorem mi_X7_pays : MI yX7_pays cX7_pays 3 (some .int) 2 := ⟨⟨by decide, by decide, by decide +kernel⟩, wd_1, wd_553⟩
theorem mi_X7_next : MI yX7_next cX7_next 4 (some .int) 3 := ⟨⟨by decide, by decide, by decide +kernel⟩, wd_1, wd_561⟩
theorem mi_X7_scrapes : MI yX7_scrapes cX7_scrapes 5 (some .int) 2 := ⟨⟨by decide, by decide, by decide +kernel⟩, wd_1, wd_579⟩
theorem mi_X7_cost : MI yX7_cost cX7_cost 6 (some .int) 5 := ⟨⟨by decide, by decide, by decide +kernel⟩, wd_1, wd_587⟩
theorem mi_X7_in : MI yX7_in cX7_in 10 (some .int) 8 := ⟨⟨by decide, by decide, by decide +kernel⟩, wd_1, wd_641⟩
theorem mi_X7_takes : MI yX7_takes cX7_takes 6 (some .int) 5 := ⟨⟨by decide, by decide, by decide +kernel⟩, wd_1, wd_650⟩
theorem mi_X7_bar : MI yX7_bar cX7_bar 10 (some .int) 8 := ⟨⟨by decide, by decide, by decide +kernel⟩, wd_1, wd_658⟩
theorem mi_X7_fixed : MI yX7_fixed cX7_fixed 7 (some .int) 6 := ⟨⟨by decide, by decide, by decide +kernel⟩, wd_1, wd_666⟩
theorem mi_X7_scrape : MI yX7_scrape cX7_scrape 4 (some .int) 3 := ⟨⟨by decide, by decide, by decide +kernel⟩, wd_1, wd_678⟩
theorem mi_X7_judge : MI yX7_judge cX7_judge 9 (some .int) 5 := ⟨⟨by decide, by decide, by decide +kernel⟩, wd_1, wd_690⟩
theorem mi_X7_standing : MI yX7_standing cX7_standing 7 (some .int) 6 := ⟨⟨by decide, by decide, by decide +kernel⟩, wd_1, wd_701⟩
theorem mi_X7_odds : MI yX7_odds cX7_odds 7 (some .int) 6 := ⟨⟨by decide, by decide, by decide +kernel⟩, wd_1, wd_752⟩
theorem mi_X7_even : MI yX7_even cX7_even 9 (some .int) 6 := ⟨⟨by decide, by decide, by decide +kernel⟩, wd_1, wd_758⟩
theorem mi_X7_year : MI yX7_year cX7_year 3 (some .int) 2 := ⟨⟨by decide, by decide, by decide +kernel⟩, wd_1, wd_770⟩
theorem mi_X7_clear : MI yX7_clear cX7_clear 2 (some .int) 0 := ⟨⟨by decide, by decide, by decide +kernel⟩, wd_1, wd_778⟩
theorem mi_X7_think : MI yX7_think cX7_think 7 (some .int) 3 := ⟨⟨by decide, by decide, by decide +kernel⟩, wd_1, wd_782⟩
theorem mi_X7_buy : MI yX7_buy cX7_buy 9 (some .int) 6 := ⟨⟨by decide, by decide, by decide +kernel⟩, wd_1, wd_801⟩
theorem mi_X7_keepRung : MI yX7_keepRung cX7_keepRung 5 (some .int) 4 := ⟨⟨by decide, by decide, by decide +kernel⟩, wd_1, wd_805⟩
theorem mi_X7_leave : MI yX7_leave cX7_leave 6 (some .int) 4 := ⟨⟨by decide, by decide, by decide +kernel⟩, wd_1, wd_810⟩
theorem mi_X7_pad : MI yX7_pad cX7_pad 15 (some .int) 9 := ⟨⟨by decide, by decide, by decide +kernel⟩, wd_1, wd_815⟩
theorem mi_X7_setting : MI yX7_setting cX7_setting 8 (some .int) 3 := ⟨⟨by decide, by decide, by decide +kernel⟩, wd_1, wd_821⟩
theorem mi_X7_seed : MI yX7_seed cX7_seed 3 (some .int) 1 := ⟨⟨by decide, by decide, by decide +kernel⟩, wd_1, wd_831⟩
theorem mi_X7_lives : MI yX7_lives cX7_lives 13 (some .int) 4 := ⟨⟨by decide, by decide, by decide +kernel⟩, wd_1, wd_835⟩
theorem mi_X7_count : MI yX7_count cX7_count 2 (some .int) 1 := ⟨⟨by decide, by decide, by decide +kernel⟩, wd_1, wd_852⟩
theorem mi_X7_keep : MI yX7_keep cX7_keep 2 (some .int) 1 := ⟨⟨by decide, by decide, by decide +kernel⟩, wd_1, wd_856⟩
theorem mi_X7_goBack : MI yX7_goBack cX7_goBack 2 (some .int) 1 := ⟨⟨by decide, by decide, by decide +kernel⟩, wd_1, wd_864⟩
theorem mi_X7_isOut : MI yX7_isOut cX7_isOut 3 (some .boolean) 3 := ⟨⟨by decide, by decide, by decide +kernel⟩, wd_1, wd_343⟩
theorem mi_X7_isNoYear : MI yX7_isNoYear cX7_isNoYear 2 (some .boolean) 2 := ⟨⟨by decide, by decide, by decide +kernel⟩, wd_1, wd_644⟩
theorem mi_X7_oneMore : MI yX7_oneMore cX7_oneMore 1 (some .int) 1 := ⟨⟨by decide, by decide, by decide +kernel⟩, wd_1, wd_697⟩
theorem mi_X7_isHouse : MI yX7_isHouse cX7_isHouse 2 (some .boolean) 1 := ⟨⟨by decide, by decide, by decide +kernel⟩, wd_1, wd_549⟩
theorem mi_X7_isRung : MI yX7_isRung cX7_isRung 3 (some .boolean) 2 := ⟨⟨by decide, by decide, by decide +kernel⟩, wd_1, wd_557⟩
theorem mi_X7_isSort : MI yX7_isSort cX7_isSort 2 (some .boolean) 1 := ⟨⟨by decide, by decide, by decide +kernel⟩, wd_1, wd_583⟩
theorem mi_X7_isRule : MI yX7_isRule cX7_isRule 2 (some .boolean) 1 := ⟨⟨by decide, by decide, by decide +kernel⟩, wd_1, wd_670⟩
theorem mi_X7_isWay : MI yX7_isWay cX7_isWay 2 (some .boolean) 1 := ⟨⟨by decide, by decide, by decide +kernel⟩, wd_1, wd_705⟩
theorem mi_X7_closeText : MI yX7_closeText cX7_closeText 2 (some .int) 1 := ⟨⟨by decide, by decide, by decide +kernel⟩, wd_1, wd_476⟩
theorem mi_X7_planOf : MI yX7_planOf cX7_planOf 5 (some (.object "RungHouse$Plan")) 3 := ⟨⟨by decide, by decide, by decide +kernel⟩, wd_1, wd_591⟩
theorem mi_X7_wayOf : MI yX7_wayOf cX7_wayOf 5 (some (.object "RungHouse$Plan")) 4 := ⟨⟨by decide, by decide, by decide +kernel⟩, wd_1, wd_709⟩
theorem mi_X7_weighSorts : MI yX7_weighSorts cX7_weighSorts 7 none 2 := ⟨⟨by decide, by decide, by decide +kernel⟩, wd_1, wd_791⟩
theorem mi_X7_painedTrial : MI yX7_painedTrial cX7_painedTrial 6 (some .int) 2 := ⟨⟨by decide, by decide, by decide +kernel⟩, wd_1, wd_827⟩
theorem mi_X8_init : MI yX8_init cX8_init 1 none 0 := ⟨⟨by decide, by decide, by decide +kernel⟩, wd_9, wd_869⟩
theorem mi_X8_within : MI yX8_within cX8_within 6 (some .boolean) 3 := ⟨⟨by decide, by decide, by decide +kernel⟩, wd_9, wd_1029⟩
theorem mi_X8_has : MI yX8_has cX8_has 2 (some .boolean) 2 := ⟨⟨by decide, by decide, by decide +kernel⟩, wd_9, wd_1069⟩
theorem mi_X8_isHouse : MI yX8_isHouse cX8_isHouse 2 (some .boolean) 1 := ⟨⟨by decide, by decide, by decide +kernel⟩, wd_9, wd_1099⟩
theorem mi_X8_isRung : MI yX8_isRung cX8_isRung 3 (some .boolean) 2 := ⟨⟨by decide, by decide, by decide +kernel⟩, wd_9, wd_1107⟩
theorem mi_X8_isSort : MI yX8_isSort cX8_isSort 2 (some .boolean) 1 := ⟨⟨by decide, by decide, by decide +kernel⟩, wd_9, wd_1141⟩
theorem mi_X8_isTime : MI yX8_isTime cX8_isTime 1 (some .boolean) 1 := ⟨⟨by decide, by decide, by decide +kernel⟩, wd_9, wd_1170⟩
theorem mi_X8_feed : MI yX8_feed cX8_feed 5 (some .int) 2 := ⟨⟨by decide, by decide, by decide +kernel⟩, wd_9, wd_1025⟩
theorem mi_X8_here : MI yX8_here cX8_here 1 (some .int) 0 := ⟨⟨by decide, by decide, by decide +kernel⟩, wd_9, wd_1041⟩
theorem mi_X8_fails : MI yX8_fails cX8_fails 3 (some .int) 2 := ⟨⟨by decide, by decide, by decide +kernel⟩, wd_9, wd_1073⟩
theorem mi_X8_readWord : MI yX8_readWord cX8_readWord 2 none 0 := ⟨⟨by decide, by decide, by decide +kernel⟩, wd_9, wd_1049⟩
theorem mi_X8_code : MI yX8_code cX8_code 4 (some .long) 4 := ⟨⟨by decide, by decide, by decide +kernel⟩, wd_9, wd_1063⟩
theorem mi_X8_longer : MI yX8_longer cX8_longer 3 (some .long) 2 := ⟨⟨by decide, by decide, by decide +kernel⟩, wd_9, wd_1066⟩
theorem mi_X8_takeNumber : MI yX8_takeNumber cX8_takeNumber 4 (some .int) 2 := ⟨⟨by decide, by decide, by decide +kernel⟩, wd_9, wd_1077⟩
theorem mi_X8_takeStop : MI yX8_takeStop cX8_takeStop 1 (some .int) 0 := ⟨⟨by decide, by decide, by decide +kernel⟩, wd_9, wd_1083⟩
theorem mi_X8_houseClause : MI yX8_houseClause cX8_houseClause 5 (some .int) 0 := ⟨⟨by decide, by decide, by decide +kernel⟩, wd_9, wd_1059⟩
theorem mi_X8_takeHouse : MI yX8_takeHouse cX8_takeHouse 4 (some .int) 0 := ⟨⟨by decide, by decide, by decide +kernel⟩, wd_9, wd_1045⟩
theorem mi_X8_copyHouse : MI yX8_copyHouse cX8_copyHouse 4 none 2 := ⟨⟨by decide, by decide, by decide +kernel⟩, wd_9, wd_1087⟩
theorem mi_X8_house : MI yX8_house cX8_house 3 (some .int) 1 := ⟨⟨by decide, by decide, by decide +kernel⟩, wd_9, wd_1036⟩
theorem mi_X8_fault : MI yX8_fault cX8_fault 1 (some .int) 0 := ⟨⟨by decide, by decide, by decide +kernel⟩, wd_9, wd_1091⟩
theorem mi_X8_told : MI yX8_told cX8_told 3 (some .int) 2 := ⟨⟨by decide, by decide, by decide +kernel⟩, wd_9, wd_1095⟩
theorem mi_X8_pays : MI yX8_pays cX8_pays 3 (some .int) 2 := ⟨⟨by decide, by decide, by decide +kernel⟩, wd_9, wd_1103⟩
theorem mi_X8_nextOf : MI yX8_nextOf cX8_nextOf 5 (some .int) 3 := ⟨⟨by decide, by decide, by decide +kernel⟩, wd_9, wd_1116⟩
theorem mi_X8_next : MI yX8_next cX8_next 4 (some .int) 3 := ⟨⟨by decide, by decide, by decide +kernel⟩, wd_9, wd_1111⟩
theorem mi_X8_takeScrape : MI yX8_takeScrape cX8_takeScrape 4 (some .int) 0 := ⟨⟨by decide, by decide, by decide +kernel⟩, wd_9, wd_1129⟩
theorem mi_X8_takePains : MI yX8_takePains cX8_takePains 2 (some .int) 0 := ⟨⟨by decide, by decide, by decide +kernel⟩, wd_9, wd_1133⟩
theorem mi_X8_takeSort : MI yX8_takeSort cX8_takeSort 3 (some .int) 0 := ⟨⟨by decide, by decide, by decide +kernel⟩, wd_9, wd_1125⟩
theorem mi_X8_sort : MI yX8_sort cX8_sort 2 (some .int) 0 := ⟨⟨by decide, by decide, by decide +kernel⟩, wd_9, wd_1120⟩
theorem mi_X8_sumOdds : MI yX8_sumOdds cX8_sumOdds 5 (some .int) 2 := ⟨⟨by decide, by decide, by decide +kernel⟩, wd_9, wd_1146⟩
theorem mi_X8_oddsOf : MI yX8_oddsOf cX8_oddsOf 4 (some .int) 3 := ⟨⟨by decide, by decide, by decide +kernel⟩, wd_9, wd_1150⟩
theorem mi_X8_scrapes : MI yX8_scrapes cX8_scrapes 4 (some .int) 2 := ⟨⟨by decide, by decide, by decide +kernel⟩, wd_9, wd_1137⟩
theorem mi_X8_takeSpan : MI yX8_takeSpan cX8_takeSpan 4 (some .int) 2 := ⟨⟨by decide, by decide, by decide +kernel⟩, wd_9, wd_1163⟩
theorem mi_X8_takeRule : MI yX8_takeRule cX8_takeRule 7 (some .int) 0 := ⟨⟨by decide, by decide, by decide +kernel⟩, wd_9, wd_1158⟩
theorem mi_X8_rule : MI yX8_rule cX8_rule 2 (some .int) 0 := ⟨⟨by decide, by decide, by decide +kernel⟩, wd_9, wd_1154⟩
theorem mi_X8_isRule : MI yX8_isRule cX8_isRule 2 (some .boolean) 1 := ⟨⟨by decide, by decide, by decide +kernel⟩, wd_9, wd_1245⟩
theorem mi_X8_asksBy : MI yX8_asksBy cX8_asksBy 7 (some .boolean) 4 := ⟨⟨by decide, by decide, by decide +kernel⟩, wd_9, wd_1191⟩
theorem mi_X8_place : MI yX8_place cX8_place 5 (some .int) 5 := ⟨⟨by decide, by decide, by decide +kernel⟩, wd_9, wd_1182⟩
theorem mi_X8_more : MI yX8_more cX8_more 2 (some .int) 1 := ⟨⟨by decide, by decide, by decide +kernel⟩, wd_9, wd_1199⟩
theorem mi_X8_bears : MI yX8_bears cX8_bears 2 (some .int) 1 := ⟨⟨by decide, by decide, by decide +kernel⟩, wd_9, wd_1195⟩
theorem mi_X8_asks : MI yX8_asks cX8_asks 8 (some .boolean) 6 := ⟨⟨by decide, by decide, by decide +kernel⟩, wd_9, wd_1187⟩
theorem mi_X8_fillYear : MI yX8_fillYear cX8_fillYear 13 none 3 := ⟨⟨by decide, by decide, by decide +kernel⟩, wd_9, wd_1179⟩
theorem mi_X8_canPain : MI yX8_canPain cX8_canPain 1 (some .boolean) 0 := ⟨⟨by decide, by decide, by decide +kernel⟩, wd_9, wd_1203⟩
theorem mi_X8_painsAt : MI yX8_painsAt cX8_painsAt 3 (some .int) 2 := ⟨⟨by decide, by decide, by decide +kernel⟩, wd_9, wd_1211⟩
theorem mi_X8_plainAt : MI yX8_plainAt cX8_plainAt 3 (some .int) 2 := ⟨⟨by decide, by decide, by decide +kernel⟩, wd_9, wd_1215⟩
theorem mi_X8_isPained : MI yX8_isPained cX8_isPained 3 (some .boolean) 2 := ⟨⟨by decide, by decide, by decide +kernel⟩, wd_9, wd_1207⟩
theorem mi_X8_work : MI yX8_work cX8_work 7 none 4 := ⟨⟨by decide, by decide, by decide +kernel⟩, wd_9, wd_1175⟩
theorem mi_X8_cost : MI yX8_cost cX8_cost 6 (some .int) 5 := ⟨⟨by decide, by decide, by decide +kernel⟩, wd_9, wd_1167⟩
theorem mi_X8_isWhen : MI yX8_isWhen cX8_isWhen 3 (some .boolean) 2 := ⟨⟨by decide, by decide, by decide +kernel⟩, wd_9, wd_1223⟩
theorem mi_X8_painOf : MI yX8_painOf cX8_painOf 2 (some .int) 1 := ⟨⟨by decide, by decide, by decide +kernel⟩, wd_9, wd_1228⟩
theorem mi_X8_in : MI yX8_in cX8_in 9 (some .int) 8 := ⟨⟨by decide, by decide, by decide +kernel⟩, wd_9, wd_1219⟩
theorem mi_X8_takes : MI yX8_takes cX8_takes 6 (some .int) 5 := ⟨⟨by decide, by decide, by decide +kernel⟩, wd_9, wd_1232⟩
theorem mi_X8_bar : MI yX8_bar cX8_bar 10 (some .int) 8 := ⟨⟨by decide, by decide, by decide +kernel⟩, wd_9, wd_1236⟩
theorem mi_X8_fixed : MI yX8_fixed cX8_fixed 7 (some .int) 6 := ⟨⟨by decide, by decide, by decide +kernel⟩, wd_9, wd_1241⟩
theorem mi_X8_scrape : MI yX8_scrape cX8_scrape 4 (some .int) 3 := ⟨⟨by decide, by decide, by decide +kernel⟩, wd_9, wd_1249⟩
theorem mi_X8_judge : MI yX8_judge cX8_judge 8 (some .int) 5 := ⟨⟨by decide, by decide, by decide +kernel⟩, wd_9, wd_1254⟩
theorem mi_X8_liveYear : MI yX8_liveYear cX8_liveYear 12 none 1 := ⟨⟨by decide, by decide, by decide +kernel⟩, wd_9, wd_1271⟩
theorem mi_X8_stand : MI yX8_stand cX8_stand 8 none 1 := ⟨⟨by decide, by decide, by decide +kernel⟩, wd_9, wd_1266⟩
theorem mi_X8_isBy : MI yX8_isBy cX8_isBy 2 (some .boolean) 1 := ⟨⟨by decide, by decide, by decide +kernel⟩, wd_9, wd_1262⟩
theorem mi_X8_standing : MI yX8_standing cX8_standing 7 (some .int) 6 := ⟨⟨by decide, by decide, by decide +kernel⟩, wd_9, wd_1258⟩
theorem mi_X8_odds : MI yX8_odds cX8_odds 7 (some .int) 6 := ⟨⟨by decide, by decide, by decide +kernel⟩, wd_9, wd_1276⟩
theorem mi_X8_evenAt : MI yX8_evenAt cX8_evenAt 8 (some .int) 2 := ⟨⟨by decide, by decide, by decide +kernel⟩, wd_9, wd_1285⟩
theorem mi_X8_even : MI yX8_even cX8_even 7 (some .int) 6 := ⟨⟨by decide, by decide, by decide +kernel⟩, wd_9, wd_1280⟩
theorem mi_X8_year : MI yX8_year cX8_year 3 (some .int) 2 := ⟨⟨by decide, by decide, by decide +kernel⟩, wd_9, wd_1289⟩
theorem mi_X8_clear : MI yX8_clear cX8_clear 2 (some .int) 0 := ⟨⟨by decide, by decide, by decide +kernel⟩, wd_9, wd_1294⟩
theorem mi_X8_weigh : MI yX8_weigh cX8_weigh 7 none 2 := ⟨⟨by decide, by decide, by decide +kernel⟩, wd_9, wd_1302⟩
theorem mi_X8_think : MI yX8_think cX8_think 7 (some .int) 3 := ⟨⟨by decide, by decide, by decide +kernel⟩, wd_9, wd_1298⟩
theorem mi_X8_buy : MI yX8_buy cX8_buy 7 (some .int) 6 := ⟨⟨by decide, by decide, by decide +kernel⟩, wd_9, wd_1308⟩
theorem mi_X8_keepRung : MI yX8_keepRung cX8_keepRung 6 (some .int) 4 := ⟨⟨by decide, by decide, by decide +kernel⟩, wd_9, wd_1312⟩
theorem mi_X8_leave : MI yX8_leave cX8_leave 6 (some .int) 4 := ⟨⟨by decide, by decide, by decide +kernel⟩, wd_9, wd_1316⟩
theorem mi_X8_pad : MI yX8_pad cX8_pad 14 (some .int) 9 := ⟨⟨by decide, by decide, by decide +kernel⟩, wd_9, wd_1320⟩
theorem mi_X8_isEven : MI yX8_isEven cX8_isEven 4 (some .boolean) 3 := ⟨⟨by decide, by decide, by decide +kernel⟩, wd_9, wd_1330⟩
theorem mi_X8_pained : MI yX8_pained cX8_pained 4 (some .int) 1 := ⟨⟨by decide, by decide, by decide +kernel⟩, wd_9, wd_1334⟩
theorem mi_X8_setting : MI yX8_setting cX8_setting 10 (some .int) 3 := ⟨⟨by decide, by decide, by decide +kernel⟩, wd_9, wd_1324⟩
theorem mi_X8_seed : MI yX8_seed cX8_seed 3 (some .int) 1 := ⟨⟨by decide, by decide, by decide +kernel⟩, wd_9, wd_1338⟩
theorem mi_X8_draw : MI yX8_draw cX8_draw 2 (some .int) 1 := ⟨⟨by decide, by decide, by decide +kernel⟩, wd_9, wd_1350⟩
theorem mi_X8_drawScrape : MI yX8_drawScrape cX8_drawScrape 5 (some .int) 1 := ⟨⟨by decide, by decide, by decide +kernel⟩, wd_9, wd_1346⟩
theorem mi_X8_lives : MI yX8_lives cX8_lives 13 (some .int) 4 := ⟨⟨by decide, by decide, by decide +kernel⟩, wd_9, wd_1342⟩
theorem mi_X8_count : MI yX8_count cX8_count 2 (some .int) 1 := ⟨⟨by decide, by decide, by decide +kernel⟩, wd_9, wd_1358⟩
theorem mi_X8_keep : MI yX8_keep cX8_keep 4 (some .int) 1 := ⟨⟨by decide, by decide, by decide +kernel⟩, wd_9, wd_1362⟩
theorem mi_X8_goBack : MI yX8_goBack cX8_goBack 4 (some .int) 1 := ⟨⟨by decide, by decide, by decide +kernel⟩, wd_9, wd_1366⟩
