/-! the world of a system: its cells at the addresses ad, beside a rest R that stays -/
def wl (cA : Nat → ClassId) (ad : Int → Nat) (kf : Int → Nat × Nat) (n : Nat) (σ : St) : va_W := (List.range n).map (fun (k : Nat) => (ad (k : Int), en cA ad (kf (k : Int)) (k : Int) (σ (k : Int))))
theorem wl_len {cA : Nat → ClassId} {ad : Int → Nat} {kf : Int → Nat × Nat} {n : Nat} {σ : St} : (wl cA ad kf n σ).length = n := by simp [wl]
theorem wl_at {cA : Nat → ClassId} {ad : Int → Nat} {kf : Int → Nat × Nat} {n : Nat} {σ : St} {R : va_W} {o : Int} (h : 0 ≤ o ∧ o < n) : (wl cA ad kf n σ ++ R)[o.toNat]? = some (ad o, en cA ad (kf o) o (σ o)) := by
  obtain ⟨k, rfl⟩ := Int.eq_ofNat_of_zero_le h.1
  have hk : k < n := by omega
  rw [List.getElem?_append_left (by rw [wl_len]; simpa using hk)]
  simp [wl, hk]
theorem wl_set {cA : Nat → ClassId} {ad : Int → Nat} {kf : Int → Nat × Nat} {n : Nat} {σ σ' : St} {R : va_W} {o : Int} (h : 0 ≤ o ∧ o < n) (hσ : ∀ q, q ≠ o → σ' q = σ q) : (wl cA ad kf n σ ++ R).set o.toNat (ad o, en cA ad (kf o) o (σ' o)) = wl cA ad kf n σ' ++ R := by
  obtain ⟨k, rfl⟩ := Int.eq_ofNat_of_zero_le h.1
  have hk : k < n := by omega
  have hl : ((k : Int)).toNat = k := by omega
  rw [hl, List.set_append_left _ _ (by rw [wl_len]; exact hk)]
  congr 1
  apply List.ext_getElem?
  intro i
  rw [List.getElem?_set]
  by_cases hi : k = i
  · subst hi
    rw [if_pos rfl, if_pos (by rw [wl_len]; exact hk)]
    simp [wl, hk]
  · rw [if_neg hi]
    have hne : (i : Int) ≠ (k : Int) := by omega
    simp only [wl, List.getElem?_map, hσ _ hne]
    by_cases hin : i < n
    · simp [hin, hσ _ hne]
    · simp [hin]
def Wd (D : va_G) (cA : Nat → ClassId) (ad : Int → Nat) (kf : Int → Nat × Nat) (n : Nat) (R : va_W) (A : Nat → Prop) (σ : St) (H : Heap) : Prop :=
  (∀ o : Int, (kf o).1 ≠ 99 → 0 ≤ o ∧ o < (n : Int)) ∧ va_P D vwCl (wl cA ad kf n σ ++ R) H ∧ va_D A (wl cA ad kf n σ ++ R)
/-- String constants: owner, entry, text -/
def stL : List (String × Nat × String) := [("RungHouse$House", 56, "rung"), ("RungHouse$House", 86, "kept"), ("RungHouse$House", 97, "up"), ("RungHouse$House", 98, "down"), ("RungHouse$House", 99, "first"), ("RungHouse$House", 100, "enter"), ("RungHouse$Sort", 47, "scrape"), ("RungHouse$Sort", 57, "pains"), ("RungHouse$Rule", 40, "bar"), ("RungHouse$Rule", 64, "rungs"), ("RungHouse$Rule", 66, "months")]
def stO (i : Nat) : String × Nat × String := stL.getD i ("", 0, "")
def stN : List Nat := [4, 4, 2, 4, 5, 5, 6, 5, 3, 5, 6]
def stB : List (List Int32) := [[114, 117, 110, 103], [107, 101, 112, 116], [117, 112], [100, 111, 119, 110], [102, 105, 114, 115, 116], [101, 110, 116, 101, 114], [115, 99, 114, 97, 112, 101], [112, 97, 105, 110, 115], [98, 97, 114], [114, 117, 110, 103, 115], [109, 111, 110, 116, 104, 115]]
/-- links between nest mates: owner, entry, method -/
def neL : List (String × Nat × MethodName) := [("RungHouse", 9, ⟨"RungHouse$Reader", "<init>", "()V"⟩), ("RungHouse", 40, ⟨"RungHouse$House", "<init>", "()V"⟩), ("RungHouse", 47, ⟨"RungHouse$LongRun", "<init>", "()V"⟩), ("RungHouse", 58, ⟨"RungHouse$Memory", "<init>", "()V"⟩), ("RungHouse", 77, ⟨"RungHouse$Sort", "<init>", "()V"⟩), ("RungHouse", 85, ⟨"RungHouse$Rule", "<init>", "()V"⟩), ("RungHouse$Reader", 69, ⟨"RungHouse", "isOut", "(III)Z"⟩), ("RungHouse$LongRun", 81, ⟨"RungHouse", "oneMore", "(I)I"⟩)]
/-- what every method of the two systems needs of the tables and of the old heap -/
def Ev (D : va_G) (cA : Nat → ClassId) (adK adV : Nat → Nat) (A : Nat → Prop) (U : State) : Prop :=
  va_K D vwCl (tysL cA) U ∧ vk_S 11 stN stB adK adV A U U.heap ∧ va_Z "java/lang/String" "COMPACT_STRINGS" "Z" (.int 1) A U U.heap ∧ (∀ i, i < 11 → vk_R (stO i).1 (stO i).2.1 (stO i).2.2 (adK i) U) ∧ (∀ q ∈ neL, va_Nw (.methodLinkNest q.1 q.2.1 q.2.2 "RungHouse") U) ∧ ∃ fm : Value, (fm = .null ∨ ∃ a, fm = .ref a) ∧ va_Z "jdk/internal/util/Preconditions" "SIOOBE_FORMATTER" "Ljava/util/function/BiFunction;" fm A U U.heap
theorem Ev.calling {D : va_G} {cA : Nat → ClassId} {adK adV : Nat → Nat} {A : Nat → Prop} {U : State} (h : Ev D cA adK adV A U) (g : JFrame) (mk : MethodId) (a : Array Value) : Ev D cA adK adV A (U.calling g mk a) :=
  ⟨va_K.moved (u := U) (U := U.calling g mk a) (Vm.Alike.refl U.vm) h.1, vk_S.moved (u := U) (U := U.calling g mk a) (Vm.Alike.refl U.vm) h.2.1, va_Z.moved (u := U) (U := U.calling g mk a) (Vm.Alike.refl U.vm) h.2.2.1, fun i hi => vk_R.same rfl (h.2.2.2.1 i hi), fun q hq => va_Nw.same rfl (show U.vm = (U.calling g mk a).vm from rfl) (h.2.2.2.2.1 q hq), by
    obtain ⟨fm, h1, h2⟩ := h.2.2.2.2.2
    exact ⟨fm, h1, va_Z.moved (u := U) (U := U.calling g mk a) (Vm.Alike.refl U.vm) h2⟩⟩
theorem Ev.at {D : va_G} {cA : Nat → ClassId} {adK adV : Nat → Nat} {A : Nat → Prop} {s U : State} {H : Heap} {locs : List Loc} (h : Ev D cA adK adV A s) (hS : va_S A s.heap H locs) (hU : U.heap = H) (hW : s.WarmedH U.vm) : Ev D cA adK adV A U := by
  refine ⟨va_K.moved hW.alike h.1, ?_, ?_, fun i hi => (h.2.2.2.1 i hi).warm hW, fun q hq => va_Nw.warmM hW (h.2.2.2.2.1 q hq), ?_⟩
  · rw [hU]; exact (vk_S.moved hW.alike h.2.1).kept hS.2.1
  · rw [hU]; exact (va_Z.moved hW.alike h.2.2.1).kept hS.2.1
  · obtain ⟨fm, h1, h2⟩ := h.2.2.2.2.2
    refine ⟨fm, h1, ?_⟩
    rw [hU]; exact (va_Z.moved hW.alike h2).kept hS.2.1
/-- a world, and the frame since the method's start -/
def At (D : va_G) (cA : Nat → ClassId) (ad : Int → Nat) (kf : Int → Nat × Nat) (n : Nat) (R : va_W) (A : Nat → Prop) (s : State) (σ : St) (H : Heap) (locs : List Loc) : Prop := Wd D cA ad kf n R A σ H ∧ va_S A s.heap H locs
/-- what a method's start gives -/
def Pr (D : va_G) (cA : Nat → ClassId) (adK adV : Nat → Nat) (ad : Int → Nat) (kf : Int → Nat × Nat) (n : Nat) (R : va_W) (A : Nat → Prop) (σ : St) (U : State) : Prop := Ev D cA adK adV A U ∧ Wd D cA ad kf n R A σ U.heap
theorem Pr.blind {D : va_G} {cA : Nat → ClassId} {adK adV : Nat → Nat} {ad : Int → Nat} {kf : Int → Nat × Nat} {n : Nat} {R : va_W} {A : Nat → Prop} {σ : St} {av : List Value} : FrameBlind (va_Pc av (Pr D cA adK adV ad kf n R A σ)) :=
  fun a U g mk q => ⟨q.1, q.2.1.calling g mk a, q.2.2⟩
/-- a method's own frame: its code, its class, the table's words -/
def Cx (cc : ByteArray) (own : String) (nL : Nat) (ret : Option FieldType) (D : va_G) (cA : Nat → ClassId) (adK adV : Nat → Nat) (A : Nat → Prop) (p : Program) (s : State) (m : MethodId) (args : Array Value) (meth : Method) (c : Code) : Prop :=
  p.tables.exec = Jvm.exec ∧ c.code = cc ∧ c.maxLocals = nL ∧ meth.sig.returnType = ret ∧ meth.locks = false ∧ s.vm.findClass own = some m.cls ∧ (∀ w ∈ gt, w.before args s = true) ∧ Ev D cA adK adV A s
/-- the words of a method's contract -/
def wsU (y : MethodName) (b : ByteArray) (n : Nat) (r : Option FieldType) : List Cond := .code y b n r :: gt
theorem gt_good {w : Cond} (h : w ∈ gt) : goodWord w = true := (List.mem_filter.mp h).2
theorem wsU_in {y : MethodName} {b : ByteArray} {n : Nat} {r : Option FieldType} (hc : Cond.code y b n r ∈ gt) : GoodIn gt (wsU y b n r) := by
  intro w hw
  have h : w ∈ gt := by
    rcases List.mem_cons.mp hw with rfl | h
    · exact hc
    · exact h
  exact ⟨h, good_of_word (gt_good h)⟩
/-- what is known of a method of ours -/
def MI (y : MethodName) (b : ByteArray) (n : Nat) (r : Option FieldType) (k : Nat) : Prop := (y.cls ≠ "java/lang/invoke/MethodHandle" ∧ y.cls ≠ "java/lang/invoke/VarHandle" ∧ (parseMethodDescriptor y.desc).map (fun d => d.parameters.length) = some k) ∧ Cond.initialized y.cls ∈ gt ∧ Cond.code y b n r ∈ gt
section R
variable {p : Program} {l : Launch} {e : Env} {Rm : Room} {s : State} {m : MethodId} {args : Array Value} {below : List Frame} {meth : Method} {c : Code} {H : Heap} {locs : List Loc} {Q : State → Prop}
variable {cc : ByteArray} {own : String} {nL : Nat} {ret : Option FieldType} {D : va_G} {cA : Nat → ClassId} {adK adV : Nat → Nat} {A : Nat → Prop}
variable {ad : Int → Nat} {kf : Int → Nat × Nat} {n : Nat} {R : va_W} {σ : St} {pc : Nat} {ls : Array Slot} {rest : List Value}
/-- getfield of an object of the world -/
theorem y_get (C : Cx cc own nL ret D cA adK adV A p s m args meth c) (hw : At D cA ad kf n R A s σ H locs) {o : Int} {kd : Nat × Nat} (ho : kf o = kd) (h99 : kd.1 ≠ 99) {ci : Nat} {fs : List Value} (hen : en cA ad kd o (σ o) = .inr (ci, fs)) {Cn ref : String} {T : u_T} {N : Nat} (hc : vwCl[ci]? = some (Cn, T, N)) (hin : ∀ w ∈ u_ws Cn T N, w ∈ gt) (j : Nat) (hj : j < N) {index : Nat} (hm : Cond.fieldLink own index ref (T j).2.1 (T j).2.2.1 ∈ gt) (hr : (T j).1 = ref) {v : Value} (hv : fs[j]? = some v) (hdg : decode cc pc = .ok (.getfield index, 3))
    (kk : W p l e Rm s m args below meth c H locs 0 0 Q (F0 m (pc + 3) ls (v :: rest))) : W p l e Rm s m args below meth c H locs 0 0 Q (F0 m pc ls (.ref (ad o) :: rest)) := by
  have hi := hw.1.1 o (by rw [ho]; exact h99)
  have hat := wl_at (cA := cA) (ad := ad) (kf := kf) (σ := σ) (R := R) hi
  rw [ho, hen] at hat
  exact va_get C.1 C.2.1 C.2.2.2.2.2.2.1 hin C.2.2.2.2.2.1 C.2.2.2.2.2.2.2.1 hw.1.2.1 o.toNat hat hc j hj (C.2.2.2.2.2.2.1 _ hm) (fun x hx => by rw [← hr]; exact hx) hv hdg kk
/-- putfield of an object of the world -/
theorem y_put (C : Cx cc own nL ret D cA adK adV A p s m args meth c) (hw : At D cA ad kf n R A s σ H locs) {o : Int} {kd : Nat × Nat} (ho : kf o = kd) (h99 : kd.1 ≠ 99) {ci : Nat} {fs : List Value} (hen : en cA ad kd o (σ o) = .inr (ci, fs)) {Cn ref : String} {T : u_T} {N : Nat} (hc : vwCl[ci]? = some (Cn, T, N)) (hin : ∀ w ∈ u_ws Cn T N, w ∈ gt) (ty0 : Nat → FieldType) (hty : ∀ k, k < N → parseFieldDescriptor (T k).2.2.1 = some (ty0 k)) (hnm : ∀ a, a < N → ∀ b, b < N → a ≠ b → (T a).2.1 ≠ (T b).2.1)
    (j : Nat) (hj : j < N) {index : Nat} (hm : Cond.fieldLink own index ref (T j).2.1 (T j).2.2.1 ∈ gt) (hr : (T j).1 = ref) (hfin : (T j).2.2.2 = false) {v : Value} (hn : narrow (ty0 j) v = v) (hfit : fits (ty0 j) v = true) (hl : j < fs.length) (z : Int) (hset : en cA ad kd o (up (σ o) (j : Int) z) = .inr (ci, fs.set j v)) (hdg : decode cc pc = .ok (.putfield index, 3))
    (kk : ∀ (H1 : Heap) (locs1 : List Loc), At D cA ad kf n R A s (su σ o (j : Int) z) H1 locs1 → W p l e Rm s m args below meth c H1 locs1 0 0 Q (F0 m (pc + 3) ls rest)) : W p l e Rm s m args below meth c H locs 0 0 Q (F0 m pc ls (v :: .ref (ad o) :: rest)) := by
  have hi := hw.1.1 o (by rw [ho]; exact h99)
  have hat := wl_at (cA := cA) (ad := ad) (kf := kf) (σ := σ) (R := R) hi
  rw [ho, hen] at hat
  have hs := wl_set (cA := cA) (ad := ad) (kf := kf) (σ := σ) (σ' := su σ o (j : Int) z) (R := R) hi (fun q hq => su_ne σ _ _ hq)
  rw [su_self, ho, hset] at hs
  refine va_put C.1 C.2.1 C.2.2.2.2.2.2.1 hin ty0 hty hnm C.2.2.2.2.2.1 C.2.2.2.2.2.2.2.1 hw.1.2.1 hw.1.2.2 hw.2 o.toNat hat hc j hj (C.2.2.2.2.2.2.1 _ hm) (fun x hx => by rw [← hr]; exact hx) hfin (hty j hj) hn hfit hl hdg (fun H1 locs1 hP hD hS => ?_)
  rw [hs] at hP hD
  exact kk H1 locs1 ⟨⟨hw.1.1, hP, hD⟩, hS⟩
/-- int array -/
theorem y_iald (C : Cx cc own nL ret D cA adK adV A p s m args meth c) (hw : At D cA ad kf n R A s σ H locs) {o : Int} {N : Nat} (ho : kf o = (20, N)) {i i' : Int} (hi' : zm i = i') (hi : 0 ≤ i' ∧ i' < (N : Int)) (hdg : decode cc pc = .ok (.iaload, 1))
    (kk : W p l e Rm s m args below meth c H locs 0 0 Q (F0 m (pc + 1) ls (.int (zI (σ o i')) :: rest))) : W p l e Rm s m args below meth c H locs 0 0 Q (F0 m pc ls (.int (zI i) :: .ref (ad o) :: rest)) := by
  subst hi'
  have hr := hw.1.1 o (by rw [ho]; exact (by decide : (20 : Nat) ≠ 99))
  have hat := wl_at (cA := cA) (ad := ad) (kf := kf) (σ := σ) (R := R) hr
  rw [ho] at hat
  refine va_iald C.1 C.2.1 C.2.2.2.2.2.2.2.1 hw.1.2.1 o.toNat 0 hat rfl (zI_in hi) hdg ?_
  rw [zI_clamp]
  have : (((zm i).toNat : Nat) : Int) = zm i := Int.toNat_of_nonneg hi.1
  rw [this]
  exact kk
theorem y_iast (C : Cx cc own nL ret D cA adK adV A p s m args meth c) (hw : At D cA ad kf n R A s σ H locs) {o : Int} {N : Nat} (ho : kf o = (20, N)) {i i' z : Int} (hi' : zm i = i') (hi : 0 ≤ i' ∧ i' < (N : Int)) (hdg : decode cc pc = .ok (.iastore, 1))
    (kk : ∀ (H1 : Heap) (locs1 : List Loc), At D cA ad kf n R A s (su σ o i' z) H1 locs1 → W p l e Rm s m args below meth c H1 locs1 0 0 Q (F0 m (pc + 1) ls rest)) : W p l e Rm s m args below meth c H locs 0 0 Q (F0 m pc ls (.int (zI z) :: .int (zI i) :: .ref (ad o) :: rest)) := by
  subst hi'
  have hr := hw.1.1 o (by rw [ho]; exact (by decide : (20 : Nat) ≠ 99))
  have hat := wl_at (cA := cA) (ad := ad) (kf := kf) (σ := σ) (R := R) hr
  rw [ho] at hat
  have hs := wl_set (cA := cA) (ad := ad) (kf := kf) (σ := σ) (σ' := su σ o (zm i) z) (R := R) hr (fun q hq => su_ne σ _ _ hq)
  rw [su_self, ho] at hs
  refine va_iast C.1 C.2.1 C.2.2.2.2.2.2.2.1 hw.1.2.1 hw.1.2.2 hw.2 o.toNat 0 hat rfl (zI_in hi) hdg (fun H1 locs1 hP hD hS => ?_)
  have hf : upd (fun j : Nat => zI (σ o (j : Int))) (zI i).toNatClampNeg (zI z) = fun j : Nat => zI (up (σ o) (zm i) z (j : Int)) := by
    funext j
    rw [zI_clamp]
    have h1 : (((zm i).toNat : Nat) : Int) = zm i := Int.toNat_of_nonneg hi.1
    by_cases hj : j = (zm i).toNat
    · subst hj
      simp [upd, up, h1]
    · have : (j : Int) ≠ zm i := by omega
      simp [upd, up, hj, this]
  rw [hf] at hP hD
  have hs' : (wl cA ad kf n σ ++ R).set o.toNat (ad o, .inl (cA 0, N, .inl (fun j : Nat => zI (up (σ o) (zm i) z (j : Int))))) = wl cA ad kf n (su σ o (zm i) z) ++ R := hs
  rw [hs'] at hP hD
  exact kk H1 locs1 ⟨⟨hw.1.1, hP, hD⟩, hS⟩
end R
