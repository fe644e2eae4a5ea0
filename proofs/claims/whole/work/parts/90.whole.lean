/-! the start: what the Statement gives of the tables and of the old heap -/
def tmS (i : Nat) : Term := .string (stO i).1 (stO i).2.1
def flS : List Cond := flatC (Jvm.Cond.and given_1 narrow_1)
set_option maxRecDepth 100000 in
theorem fs_ex : ∀ i, i < 11 → Cond.exactly (tmS i) "java/lang/String" ∈ flS := by decide +kernel
set_option maxRecDepth 100000 in
theorem fs_co : ∀ i, i < 11 → Cond.eq (.field (tmS i) "java/lang/String" "coder" "B") (.int 0) ∈ flS := by decide +kernel
set_option maxRecDepth 100000 in
theorem fs_ar : ∀ i, i < 11 → Cond.arrayOf (.field (tmS i) "java/lang/String" "value" "[B") .byte ∈ flS := by decide +kernel
set_option maxRecDepth 100000 in
theorem fs_le : ∀ i, i < 11 → Cond.eq (.length (.field (tmS i) "java/lang/String" "value" "[B")) (.int (Int32.ofNat (stN.getD i 0))) ∈ flS := by decide +kernel
set_option maxRecDepth 100000 in
theorem fs_el : ∀ i, i < 11 → ∀ j, j < stN.getD i 0 → Cond.eq (.elem (.field (tmS i) "java/lang/String" "value" "[B") (.int (Int32.ofNat j))) (.int ((stB.getD i []).getD j 0)) ∈ flS := by decide +kernel
set_option maxRecDepth 100000 in
theorem fs_ne : ∀ i, i < 11 → ∀ j, j < 11 → i ≠ j → Cond.not (Cond.eq (tmS i) (tmS j)) ∈ flS ∨ Cond.not (Cond.eq (tmS j) (tmS i)) ∈ flS := by decide +kernel
set_option maxRecDepth 100000 in
theorem fs_cs : Cond.eq (.static "java/lang/String" "COMPACT_STRINGS" "Z") (.int 1) ∈ flS := by decide +kernel
set_option maxRecDepth 100000 in
theorem fs_fm : Cond.isRef (.static "jdk/internal/util/Preconditions" "SIOOBE_FORMATTER" "Ljava/util/function/BiFunction;") ∈ flS := by decide +kernel
theorem known_start {s : State} {args : Array Value} (hgt : ∀ w ∈ gt, w.before args s = true) : ∃ (dC : Nat → ClassId) (dI : Nat → Nat → Nat), ∀ (k : Nat) (q : vw_C), vwCl[k]? = some q → u_Kn s q.1 q.2.1 q.2.2 (dC k) (dI k) := by
  obtain ⟨c0, i0, h0⟩ := u_known (C := RX0) (T := TX0) (N := 7) (n := 7) hgt inX0 (hgt _ wd_74)
  obtain ⟨c1, i1, h1⟩ := u_known (C := RX1) (T := TX1) (N := 5) (n := 5) hgt inX1 (hgt _ wd_114)
  obtain ⟨c2, i2, h2⟩ := u_known (C := RX2) (T := TX2) (N := 9) (n := 9) hgt inX2 (hgt _ wd_137)
  obtain ⟨c3, i3, h3⟩ := u_known (C := RX3) (T := TX3) (N := 13) (n := 13) hgt inX3 (hgt _ wd_223)
  obtain ⟨c4, i4, h4⟩ := u_known (C := RX4) (T := TX4) (N := 9) (n := 9) hgt inX4 (hgt _ wd_24)
  obtain ⟨c5, i5, h5⟩ := u_known (C := RX5) (T := TX5) (N := 6) (n := 6) hgt inX5 (hgt _ wd_270)
  obtain ⟨c6, i6, h6⟩ := u_known (C := RX6) (T := TX6) (N := 8) (n := 8) hgt inX6 (hgt _ wd_182)
  obtain ⟨c7, i7, h7⟩ := u_known (C := RX7) (T := TX7) (N := 14) (n := 14) hgt inX7 (hgt _ wd_16)
  obtain ⟨c8, i8, h8⟩ := u_known (C := RX8) (T := TX8) (N := 50) (n := 50) hgt inX8 (hgt _ wd_866)
  refine ⟨fun k => [c0, c1, c2, c3, c4, c5, c6, c7, c8].getD k c0, fun k => [i0, i1, i2, i3, i4, i5, i6, i7, i8].getD k i0, ?_⟩
  intro k q hq
  match k, hq with
  | 0, hq => cases hq; exact h0
  | 1, hq => cases hq; exact h1
  | 2, hq => cases hq; exact h2
  | 3, hq => cases hq; exact h3
  | 4, hq => cases hq; exact h4
  | 5, hq => cases hq; exact h5
  | 6, hq => cases hq; exact h6
  | 7, hq => cases hq; exact h7
  | 8, hq => cases hq; exact h8
  | k + 9, hq => simp at hq
theorem arrO_start {s : State} {args : Array Value} {C : String} (h : (Cond.arrayOver (.object C)).before args s = true) : ∃ c : ClassId, ArrOfT s c (.object C) ∧ va_RA s c (.object C) := by
  obtain ⟨comp, c, k, h1, h2, h3, h4, h5⟩ := Cond.arrayOver_spec h
  exact ⟨c, fun N z => ⟨(fun k h => by cases h), k, h3, comp, h4⟩, k, comp, h3, h4, h1, h5⟩
theorem arrs_start {s : State} {args : Array Value} (hts : ∀ w ∈ lw_tbl, w.before args s = true) : ∃ cA : Nat → ClassId, ∀ (k : Nat) (q : ClassId × FieldType), (tysL cA)[k]? = some q → ArrOfT s q.1 q.2 ∧ va_RA s q.1 q.2 := by
  obtain ⟨c0, k0, m0, a1, a2, a3⟩ := Cond.arrayClass_spec (hts _ (List.mem_filter.mp wd_65).1)
  obtain ⟨c1, k1, m1, b1, b2, b3⟩ := Cond.arrayClass_spec (hts _ (List.mem_filter.mp wd_180).1)
  obtain ⟨c2, k2, m2, d1, d2, d3⟩ := Cond.arrayClass_spec (hts _ (List.mem_filter.mp wd_179).1)
  obtain ⟨c3, h3⟩ := arrO_start (hts _ wd_67)
  obtain ⟨c4, h4⟩ := arrO_start (hts _ wd_69)
  obtain ⟨c5, h5⟩ := arrO_start (hts _ wd_71)
  obtain ⟨c6, h6⟩ := arrO_start (hts _ wd_73)
  obtain ⟨c7, h7⟩ := arrO_start (hts _ wd_181)
  refine ⟨fun k => [c0, c1, c2, c3, c4, c5, c6, c7].getD k c0, ?_⟩
  intro k q hq
  match k, hq with
  | 0, hq => cases hq; exact ⟨fun N z => ⟨(fun k h => by cases h), k0, a2, m0, a3⟩, a1⟩
  | 1, hq => cases hq; exact ⟨fun N z => ⟨(fun k h => by cases h), k1, b2, m1, b3⟩, b1⟩
  | 2, hq => cases hq; exact ⟨fun N z => ⟨(fun k h => by cases h), k2, d2, m2, d3⟩, d1⟩
  | 3, hq => cases hq; exact h3
  | 4, hq => cases hq; exact h4
  | 5, hq => cases hq; exact h5
  | 6, hq => cases hq; exact h6
  | 7, hq => cases hq; exact h7
  | k + 8, hq => simp [tysL] at hq
theorem sref_all : ∀ i, i < 11 → Cond.stringRef (stO i).1 (stO i).2.1 (stO i).2.2 ∈ lw_tbl := by
  intro i hi
  match i, hi with
  | 0, _ => exact wd_385
  | 1, _ => exact wd_453
  | 2, _ => exact wd_465
  | 3, _ => exact wd_466
  | 4, _ => exact wd_467
  | 5, _ => exact wd_468
  | 6, _ => exact wd_497
  | 7, _ => exact wd_507
  | 8, _ => exact wd_526
  | 9, _ => exact wd_535
  | 10, _ => exact wd_536
theorem nest_all : ∀ q ∈ neL, (Cond.methodLinkNest q.1 q.2.1 q.2.2 "RungHouse" : Cond) ∈ lw_tbl :=
  List.forall_mem_cons.mpr ⟨wd_25, List.forall_mem_cons.mpr ⟨wd_75, List.forall_mem_cons.mpr ⟨wd_115, List.forall_mem_cons.mpr ⟨wd_138, List.forall_mem_cons.mpr ⟨wd_183, List.forall_mem_cons.mpr ⟨wd_271, List.forall_mem_cons.mpr ⟨wd_452, List.forall_mem_cons.mpr ⟨wd_735, fun _ h => absurd h List.not_mem_nil⟩⟩⟩⟩⟩⟩⟩⟩
theorem over_all : ∀ C ∈ aoL, Cond.arrayOver (.object C) ∈ lw_tbl :=
  List.forall_mem_cons.mpr ⟨wd_67, List.forall_mem_cons.mpr ⟨wd_69, List.forall_mem_cons.mpr ⟨wd_71, List.forall_mem_cons.mpr ⟨wd_73, List.forall_mem_cons.mpr ⟨wd_181, fun _ h => absurd h List.not_mem_nil⟩⟩⟩⟩⟩
theorem ev_start {s : State} {args : Array Value} {A : Nat → Prop} (hts : ∀ w ∈ lw_tbl, w.before args s = true) (hs : ∀ c ∈ flS, c.before args s = true) (hA : ∀ a : Nat, a < s.heap.size → ¬ A a) : ∃ (D : va_G) (cA : Nat → ClassId) (adK adV : Nat → Nat), Ev D cA adK adV A s := by
  have hgt : ∀ w ∈ gt, w.before args s = true := fun w h => hts w (List.mem_filter.mp h).1
  obtain ⟨dC, dI, hK⟩ := known_start hgt
  obtain ⟨cA, hC⟩ := arrs_start hts
  obtain ⟨adK, adV, hS, hE⟩ := vk_Sof (args := args) (s := s) (N := 11) (tm := tmS) (len := stN) (byt := stB) (A := A) (by decide +kernel) (fun i hi => hs _ (fs_ex i hi)) (fun i hi => hs _ (fs_co i hi)) (fun i hi => hs _ (fs_ar i hi)) (fun i hi => hs _ (fs_le i hi)) (fun i hi j hj => hs _ (fs_el i hi j hj)) (fun i j hi hj hne => (fs_ne i hi j hj hne).imp (hs _) (hs _)) hA
  obtain ⟨fm, hv, hr⟩ := Cond.isRef_spec (hs _ fs_fm)
  refine ⟨(dC, dI), cA, adK, adV, ⟨hK, hC⟩, hS, ?_, ?_, ?_, fm, ?_, ?_⟩
  · exact va_Zof (args := args) (hts _ wd_399) (hgt _ wd_10) (va_eqi (hs _ fs_cs)) hA
  · intro i hi
    exact vk_R.of (A := args) (hts _ (sref_all i hi)) (hE i hi)
  · intro q hq
    exact va_Nw.of (A := args) rfl (hts _ (nest_all q hq))
  · cases fm with
    | null => exact Or.inl rfl
    | ref a => exact Or.inr ⟨a, rfl⟩
    | _ => cases hr
  · exact va_Zof (args := args) (hts _ wd_415) (hgt _ wd_12) hv hA
set_option maxHeartbeats 4000000 in
set_option maxRecDepth 100000 in
/-- THE LAW, from its entry -/
theorem whole_start {p : Program} {e : Env} {s : State} {m : MethodId} {below : List Frame} {meth : Method} {c : Code} (l : Launch) {b L : Nat} {xs : Nat → Int32} (hL : L ≤ 5120) (C0 : lw_At p s m meth c b L xs) : W p l e room_1 s m #[Value.ref b] below meth c s.heap [] 0 0 (lw_Z below #[Value.ref b] s) (entryFrame m ([Value.ref b] : List Value).toArray 4) := by
  obtain ⟨hx, hb, hr, hml, hown, hts, hX, hbl, hlocks, hgv⟩ := id C0
  have hs : ∀ c ∈ flS, c.before #[Value.ref b] s = true := flat_of_before _ hgv
  obtain ⟨A, hAe⟩ : ∃ A : Nat → Prop, A = fun q : Nat => s.heap.size ≤ q := ⟨_, rfl⟩
  have hA : ∀ q : Nat, s.heap.size ≤ q → A q := fun q h => by rw [hAe]; exact h
  have hAq : ∀ q : Nat, A q → s.heap.size ≤ q := fun q h => by rw [hAe] at h; exact h
  have hAo : ∀ a : Nat, a < s.heap.size → ¬ A a := fun a h q => absurd (hAq a q) (Nat.not_le.mpr h)
  obtain ⟨D, cA, adK, adV, hE⟩ := ev_start (A := A) hts hs hAo
  have C : Cx cL_law RL 4 (some .boolean) D cA adK adV A p s m #[Value.ref b] meth c := ⟨hx, hb, hml, hr, hlocks, hown, fun w h => hts w (List.mem_filter.mp h).1, hE⟩
  have hao : ∀ C ∈ aoL, va_AO C s := fun C hC => va_AO.of (A := #[Value.ref b]) (hts _ (over_all C hC))
  have hw : AW D A s [] s.heap [] := ⟨fun k q h => by simp at h, ⟨fun i j p q h => by simp at h, fun k q h => by simp at h⟩, va_S.rf⟩
  have hl := lv_entry ([.ref b]) (n := 4) (Nat.le_of_ble_eq_true rfl)
  rw [lg_entry_eq]
  generalize (lg_sl ([.ref b]) ++ List.replicate (4 - (lg_sl ([.ref b])).length) Slot.unset).toArray = ls at hl ⊢
  have hl : lv_has ls 4 [(0, .ref b)] := hl
  refine z_new (ci := 7) C hA hw inX7 tyX7 tyX7_ok wd_15 wd_16 wd_1 rfl [.null, .null, .null, .null, .null, .null, .null, .null, .null, .null, .null, .int 0, .int 0, .int 0] (by decide +kernel) (Nat.le_of_ble_eq_true rfl) (Nat.le_of_ble_eq_true rfl) dL_law_0 (fun h0 H hw => ?_)
  refine y_dup C dL_law_3 rfl ?_
  refine z_cA (rest := [.ref h0]) C hA hao hw (ci_X7_init (ws := []) (h0 := h0)) mi_X7_init rfl wd_17 wd_18 rfl rfl rfl ⟨Nat.le_of_ble_eq_true rfl, Nat.le_of_ble_eq_true rfl⟩ hl rfl (Nat.le_of_ble_eq_true rfl) dL_law_4 ⟨Nat.le_of_ble_eq_true rfl, Nat.le_of_ble_eq_true rfl⟩ (fun u H locs hw => ?_)
  have hw : AW D A s (wl cA (adh h0 u) kX 151 σX0) H locs := hw
  refine y_astore_n (lv' := [(1, .ref h0), (0, .ref b)]) C dL_law_7 hl (by decide) rfl (fun ls hl => ?_)
  refine z_new (ci := 8) C hA hw inX8 tyX8 tyX8_ok wd_865 wd_866 wd_9 rfl [.null, .null, .null, .null, .null, .null, .null, .int 0, .null, .null, .null, .null, .null, .null, .int 0, .int 0, .int 0, .long 0, .int 0, .int 0, .int 0, .int 0, .int 0, .int 0, .null, .null, .null, .null, .int 0, .int 0, .int 0, .int 0, .int 0, .int 0, .null, .null, .null, .null, .null, .long 0, .null, .null, .int 0, .null, .null, .null, .null, .int 0, .null, .null] (by decide +kernel) (Nat.le_of_ble_eq_true rfl) (Nat.le_of_ble_eq_true rfl) dL_law_8 (fun h1 H hw => ?_)
  refine y_dup C dL_law_11 rfl ?_
  refine z_cI (rest := [.ref h1]) C hA hw (ci_X8_init (ws := wl cA (adh h0 u) kX 151 σX0) (h0 := h1)) mi_X8_init rfl wd_867 wd_868 rfl rfl rfl ⟨Nat.le_of_ble_eq_true rfl, Nat.le_of_ble_eq_true rfl⟩ hl rfl (Nat.le_of_ble_eq_true rfl) dL_law_12 ⟨Nat.le_of_ble_eq_true rfl, Nat.le_of_ble_eq_true rfl⟩ (fun v H locs hw => ?_)
  refine y_astore_n (lv' := [(2, .ref h1), (1, .ref h0), (0, .ref b)]) C dL_law_15 hl (by decide) rfl (fun ls hl => ?_)
  refine y_iconst C dL_law_16 ?_
  refine y_istore_n (lv' := [(3, .int (zI 0)), (2, .ref h1), (1, .ref h0), (0, .ref b)]) C dL_law_17 hl (by decide) rfl (fun ls hl => ?_)
  refine W.widen (k := 600000) (n := 7302250) (Nat.le_of_ble_eq_true rfl) (Nat.le_of_ble_eq_true rfl) ?_
  exact law_loop (adX := adh h0 u) (adM := adh h1 v) lawOK C hAq hX hbl (hAo b hbl) hL 513 0 σX0 τM0 H locs ls (by decide) (by decide) (by omega) inv0 ⟨⟨fun o h => kX_in o h, hw.1, hw.2.1⟩, hw.2.2⟩ (lv_sub hl [3, 2, 1, 0] rfl)
set_option maxHeartbeats 4000000 in
theorem lw_walk (l : Launch) (b : Addr) (xs : List Int32) : MetFree l x (headSpec (Jvm.Cond.code x code maxLocals ret :: tables_1) room_1) (lw_P b xs) (fun _ _ _ _ _ => True) lw_Q := by
  refine MetFree.of_bodyS (code := code) (maxLocals := maxLocals) (ret := ret) (by decide) ?_ ?_
  · intro args s m h hn
    obtain ⟨meth, c, h1, h2, h3, h4, h5, h6, -, -⟩ := Cond.code_spec hn (atoms_spec (ws := Jvm.Cond.code x code maxLocals ret :: tables_1) h _ List.mem_cons_self)
    exact ⟨meth, c, h1, h2, h3, h4, h5, h6⟩
  · intro p e s m args below meth c s₁ B hml0 hP _
    obtain ⟨rfl, hx, hbd, hgv⟩ := hP
    obtain ⟨scr, harrAt, hlist, hof, hsmall⟩ := hx
    obtain ⟨hcb, hkn, -, -⟩ := State.arrayAt?_spec harrAt
    have hown : s.vm.findClass R_law = some m.cls := findClass_of_methodNamed B.named
    have hts0 : ∀ c ∈ (Jvm.Cond.code x code maxLocals ret :: tables_1), c.before #[Value.ref b] s = true := atoms_spec (ws := Jvm.Cond.code x code maxLocals ret :: tables_1) B.pre
    have hts : ∀ w ∈ lw_tbl, w.before #[Value.ref b] s = true := k2_hts_sels lw_privs (fun w hw => hts0 w (List.mem_cons_of_mem _ hw)) lw_privs_ok
    have hml : c.maxLocals = 4 := B.maxLocals_eq (hts0 _ List.mem_cons_self)
    have X₀ : Stand p l e room_1 s m #[Value.ref b] below meth c s₁ [] 0 0 := Stand.of_body B
    have hh0 : s₁.heap = s.heap := by rw [B.state]; rfl
    have hsz : scr.slots.size = xs.length := by rw [← Array.length_toList, hlist, List.length_map]
    have hval : ∀ j : Nat, j < xs.length → scr.slots[j]? = some (.int (xs.getD j 0)) := fun j hj => by
      rw [← Array.getElem?_toList, hlist]
      simp [hj]
    have hbl : b < s.heap.size := (Array.getElem?_eq_some_iff.mp hcb).1
    have hX : va_X b xs.length (fun j => xs.getD j 0) s s.heap := ⟨scr, hcb, hof, hkn, hsz, hval⟩
    have K : W p l e room_1 s m #[Value.ref b] below meth c s₁.heap [] 0 0 (lw_Z below #[Value.ref b] s) (entryFrame m ([Value.ref b] : List Value).toArray 4) := by
      rw [hh0]
      exact whole_start l hbd ⟨B.exec, B.bytes, B.returns, hml, hown, hts, hX, hbl, B.notSynchronized, hgv⟩
    obtain ⟨t, a1, o, b1, b2, b3⟩ := K s₁ rfl X₀
    exact ⟨t, o, a1, b1, b2, b3⟩
theorem lw_pre_spec {args : Array Value} {s : State} (h : (Jvm.Cond.and given_1 narrow_1).before args s = true) (hr : rest_1_c.before args s = true) : ∃ (b : Addr) (xs : List Int32), lw_P b xs args s := by
  have hs := flat_of_before _ h
  have hq := flat_of_before _ hr
  have hc : (Cond.count 1).before args s = true := hs _ (by decide +kernel)
  have harr : (Cond.arrayOf (.arg 0) .int).before args s = true := hs _ (by decide +kernel)
  have hle : (Cond.le (.length (.arg 0)) (.int 5120)).before args s = true := hs _ (by decide +kernel)
  have hlen : (Cond.isInt (.length (.arg 0))).before args s = true := hq _ (by decide +kernel)
  have hall : (Cond.all (.arg 0) (.isInt (.elem (.arg 0) (.index 0)))).before args s = true := hq _ (by decide +kernel)
  obtain ⟨b, xs, hb, hx⟩ := State.ints_of_pre rfl harr hlen hall
  have hsm : xs.length < 2 ^ 31 := hx.choose_spec.2.2.2
  have hev : (Term.length (.arg 0)).eval args s none [] s = some (.int xs.length.toInt32) := hx.length_eval hb
  have hv := Cond.le_ints hev (show (Term.int 5120).eval args s none [] s = some (.int 5120) from rfl)
  have hd : xs.length.toInt32 ≤ 5120 := by
    simpa [Cond.before, Cond.holds, hv] using hle
  have hN : xs.length ≤ 5120 := (Int32.ofNat_le_ofNat hsm (by decide)).mp (show Int32.ofNat xs.length ≤ Int32.ofNat 5120 from hd)
  exact ⟨b, xs, Cond.one_arg hc (show args[0]? = some (.ref b) from hb), hx, hN, h⟩
theorem lw_comes (l : Launch) : Comes l x (Jvm.Cond.code x code maxLocals ret :: tables_1) room_1 (fun tb e args s => Calls_1 tb e args s ∧ rest_1 tb e args s ∧ Pre_1 tb e args s)
    (fun _ _ args s o t => lw_Q args s o t) := by
  intro p e ha hc hk s m args below hf hfit hheap happ hpre
  obtain ⟨b, xs, hP⟩ := lw_pre_spec hpre.2.2 hpre.2.1
  obtain ⟨k, o, h1, h2, h3, hQ⟩ := lw_walk l b xs p e ha hc hk s m args below hf ((Spec.applies_iff_loose hf).mp happ).1 hP trivial
  exact ⟨k, o, h1, h2, h3, hQ⟩
theorem lw_frame {s t : State} {o : Outcome} {args : Array Value} (h : Framed s o t [] 600000 7302250) :
    Framed s o t (fieldLocs frame_1_writes args s ++ arrayLocs frame_1_arrays args s ++ staticLocs frame_1_statics s) 600000 7302250 := h
theorem lw_limb (L : Cond) (hL : ∀ (args : Array Value) (s t : State), L.after args s (.returned (some (.int 1))) t = true) :
    ArmFor flags0 classFile x code maxLocals ret World_1 tables_1 room_1 Calls_1 rest_1 Pre_1
      (fun tb e a s o t => postC L tb e a s o t ∧ Framed s o t (fieldLocs frame_1_writes a s ++ arrayLocs frame_1_arrays a s ++ staticLocs frame_1_statics s) 600000 7302250) := by
  intro l _ _ _ p e ha hc hk s m args below hf hfit hheap happ hpre
  obtain ⟨k, o, h1, h2, h3, rfl, hF⟩ := lw_comes l p e ha hc hk s m args below hf hfit hheap happ hpre
  exact ⟨k, _, h1, h2, h3, hL args s _, lw_frame hF⟩
theorem i_vc : Claimed_1_1 ∧ Claimed_1_2 := ⟨lw_limb limb_1_1 (fun args s t => by simp [limb_1_1, Cond.after, Cond.holds, Cond.value]), lw_limb limb_1_2 (fun args s t => Cond.after_iff.mpr (by
  first | (rw [show limb_1_2 = Cond.eq .result (.int 1) from rfl, Cond.eq_ints (x := 1) (y := 1) rfl rfl]; simp; done) | (simp [limb_1_2, Cond.value, Term.eval]; done)))⟩
