/-! THE CLAIM OUT OF ONE WALK OF THE LAW'S BODY. Your part is whole_start (and what it stands on); all else here is the same for every law, but numbers. -/
def R_law : String := "RungHouseLaw"
def lw_P (b : Addr) (xs : List Int32) (args : Array Value) (s : State) : Prop := args = #[.ref b] ∧ s.IntsAt b xs ∧ xs.length ≤ 5120 ∧ (Jvm.Cond.and given_1 narrow_1).before args s = true
def lw_Q (_ : Array Value) (s : State) (o : Outcome) (t : State) : Prop := o = .returned (some (.int 1)) ∧ Framed s o t [] 600000 7302250
def lw_Z (below : List Frame) (a : Array Value) (s : State) : State → Prop := fun t => ∃ o, t.status = .running ∧ Ended t below o ∧ lw_Q a s o t
/-- the law's own end, with 1 on the stack, nothing written that was there before, its room as the claim has it -/
theorem lw_ret {p : Program} {l : Launch} {e : Env} {s : State} {m : MethodId} {below : List Frame} {meth : Method} {c : Code} {b : Nat} (hx : p.tables.exec = Jvm.exec) (hb : c.code = code) (hr : meth.sig.returnType = ret) (hlocks : meth.locks = false) {pc : Nat} {H : Heap} {ls : Array Slot} (hdg : decode code pc = .ok (.ireturn, 1)) : W p l e room_1 s m #[Value.ref b] below meth c H [] 600000 7302250 (lw_Z below #[Value.ref b] s) (F0 m pc ls [.int 1]) := by
  intro T hT X
  obtain ⟨fs, hret, hrun, hended, hW, hframe⟩ := X.leave (v := some (.int 1)) (hlocks := hlocks) (fun h => by rw [hr] at h; cases h)
  have hmeth' : T.vm.method? m = some meth := X.method'
  refine ⟨T.setFrames fs, ?_, .returned (some (.int 1)), hrun, hended, rfl, ⟨_, rfl⟩, hW, hframe⟩
  jvm_step X.here [X.here.top, hx, hb, hdg, hmeth', hr, ret, narrow_b1]
  (try refine ⟨rfl, ?_⟩); (try refine ⟨rfl, ?_⟩)
  first | (intro acts; rw [hret _ acts rfl rfl rfl]) | rw [hret _ _ rfl rfl rfl]
  exact Steps.refl _
/-- what holds at the law's entry: the machine, the code, the tables' words (any of lw_tbl by 'hts w (by decide +kernel)'), the script of L ints xs at the cell b, what the Statement gives of the start (any of its parts by flat_of_before) -/
def lw_At (p : Program) (s : State) (m : MethodId) (meth : Method) (c : Code) (b L : Nat) (xs : Nat → Int32) : Prop :=
  p.tables.exec = Jvm.exec ∧ c.code = code ∧ meth.sig.returnType = ret ∧ c.maxLocals = 4 ∧ s.vm.findClass R_law = some m.cls ∧ (∀ w ∈ lw_tbl, w.before #[Value.ref b] s = true) ∧ va_X b L xs s s.heap ∧ b < s.heap.size ∧ meth.locks = false ∧ (Jvm.Cond.and given_1 narrow_1).before #[Value.ref b] s = true

theorem zand31 (a : Int) : 0 ≤ zm (zand a 31) ∧ zm (zand a 31) ≤ 31 := by
  obtain ⟨j, hj, e⟩ := pk_andE (zI a) (m := zI 31) 5 (by decide)
  have h : zand a 31 = (j : Int) := by
    unfold zand
    rw [e]
    exact nI_toInt (by omega)
  rw [h, zm_eq (by omega) (by omega)]
  omega
section LL
variable {p : Program} {l : Launch} {e : Env} {s : State} {m : MethodId} {below : List Frame} {meth : Method} {c : Code} {D : va_G} {cA : Nat → ClassId} {adK adV : Nat → Nat} {A : Nat → Prop} {adX adM : Int → Nat} {b L : Nat} {xs : Nat → Int32}
set_option maxRecDepth 100000 in
set_option maxHeartbeats 4000000 in
theorem law_loop {Inv : St → St → Prop} (OK : LawOK Inv) (C : Cx cL_law RL 4 (some .boolean) D cA adK adV A p s m #[Value.ref b] meth c) (hAq : ∀ q, A q → s.heap.size ≤ q) (hX : va_X b L xs s s.heap) (hbl : b < s.heap.size) (hbA : ¬ A b) (hL : L ≤ 5120) : ∀ (n : Nat) (i : Int) (σ τ : St) (H : Heap) (locs : List Loc) (ls : Array Slot), 0 ≤ i → i ≤ 5130 → (L : Int) - i < 10 * (n : Int) → Inv σ τ → At D cA adX kX 151 (wl cA adM kM 31 τ) A s σ H locs → lv_has ls 4 [(0, .ref b), (1, .ref (adX 0)), (2, .ref (adM 0)), (3, .int (zI i))] → W p l e room_1 s m #[Value.ref b] below meth c H locs 600000 7302250 (lw_Z below #[Value.ref b] s) (F0 m 18 ls []) := by
  intro n
  induction n with
  | zero =>
    intro i σ τ H locs ls h0 h1 hn hI hw hl
    have hL' : (L : Int) ≤ 5120 := by omega
    refine y_iload_n C dL_law_18 (lv_at hl 3 rfl) ?_
    refine y_aload_n C dL_law_19 (lv_at hl 0 rfl) ?_
    refine y_slenL C hX hbl hbA hw.2 dL_law_20 ?_
    refine y_bipush C dL_law_21 (by decide) ?_
    refine y_isub C dL_law_23 ?_
    refine y_icmp_gt (tgt := 1796) C (a' := i) (b' := (L : Int) - 10) (zm_eq (by omega) (by omega)) (zm_eq (by omega) (by omega)) dL_law_24 (by decide) (fun _ => ?_) (fun q => absurd (by omega) q)
    refine va_forget (fun q hq => hAq _ (hw.2.2.2 q hq)) ?_
    refine y_iconst C dL_law_1796 ?_
    exact lw_ret C.1 C.2.1 C.2.2.2.1 C.2.2.2.2.1 dL_law_1797
  | succ n ih =>
    intro i σ τ H locs ls h0 h1 hn hI hw hl
    have hL' : (L : Int) ≤ 5120 := by omega
    refine y_iload_n C dL_law_18 (lv_at hl 3 rfl) ?_
    refine y_aload_n C dL_law_19 (lv_at hl 0 rfl) ?_
    refine y_slenL C hX hbl hbA hw.2 dL_law_20 ?_
    refine y_bipush C dL_law_21 (by decide) ?_
    refine y_isub C dL_law_23 ?_
    refine y_icmp_gt (tgt := 1796) C (a' := i) (b' := (L : Int) - 10) (zm_eq (by omega) (by omega)) (zm_eq (by omega) (by omega)) dL_law_24 (by decide) (fun _ => ?_) (fun hgt => ?_)
    · refine va_forget (fun q hq => hAq _ (hw.2.2.2 q hq)) ?_
      refine y_iconst C dL_law_1796 ?_
      exact lw_ret C.1 C.2.1 C.2.2.2.1 C.2.2.2.2.1 dL_law_1797
    have hN : ∀ (σ τ : St) (H : Heap) (locs : List Loc), Inv σ τ → At D cA adX kX 151 (wl cA adM kM 31 τ) A s σ H locs → ∀ ls : Array Slot, lv_has ls 4 [(0, .ref b), (1, .ref (adX 0)), (2, .ref (adM 0)), (3, .int (zI i))] → W p l e room_1 s m #[Value.ref b] below meth c H locs 600000 7302250 (lw_Z below #[Value.ref b] s) (F0 m 1790 ls []) := by
      intro σ τ H locs hI hw ls hl
      refine y_iinc (lv' := [(3, .int (zI (i + 10))), (0, .ref b), (1, .ref (adX 0)), (2, .ref (adM 0))]) C dL_law_1790 hl (k := 3) rfl (by decide) rfl (fun ls hl => ?_)
      refine y_goto (tgt := 18) C dL_law_1793 (by decide) ?_
      exact ih (i + 10) σ τ H locs ls (by omega) (by omega) (by omega) hI hw (lv_sub hl [1, 2, 3, 0] rfl)
    refine y_aload_n C dL_law_27 (lv_at hl 0 rfl) ?_
    refine y_iload_n C dL_law_28 (lv_at hl 3 rfl) ?_
    refine y_sld C hX hbl hbA hw.2 (i' := i) (zm_eq (by omega) (by omega)) (by omega) dL_law_29 ?_
    refine y_bipush C dL_law_30 (by decide) ?_
    refine y_iand C dL_law_32 ?_
    by_cases hc0 : zm (zand (sv xs i) 31) = 0
    · refine y_tabIn (tgt := 176) C dL_law_33 hc0 (by decide) (by decide) rfl (by decide) ?_
      exact lc_0 C hX hbl hbA hL (OK.1) ⟨h0, by omega⟩ hN hI hw hl
    by_cases hc1 : zm (zand (sv xs i) 31) = 1
    · refine y_tabIn (tgt := 239) C dL_law_33 hc1 (by decide) (by decide) rfl (by decide) ?_
      exact lc_1 C hX hbl hbA hL (OK.2.1) ⟨h0, by omega⟩ hN hI hw hl
    by_cases hc2 : zm (zand (sv xs i) 31) = 2
    · refine y_tabIn (tgt := 262) C dL_law_33 hc2 (by decide) (by decide) rfl (by decide) ?_
      exact lc_2 C hX hbl hbA hL (OK.2.2.1) ⟨h0, by omega⟩ hN hI hw hl
    by_cases hc3 : zm (zand (sv xs i) 31) = 3
    · refine y_tabIn (tgt := 275) C dL_law_33 hc3 (by decide) (by decide) rfl (by decide) ?_
      exact lc_3 C hX hbl hbA hL (OK.2.2.2.1) ⟨h0, by omega⟩ hN hI hw hl
    by_cases hc4 : zm (zand (sv xs i) 31) = 4
    · refine y_tabIn (tgt := 288) C dL_law_33 hc4 (by decide) (by decide) rfl (by decide) ?_
      exact lc_4 C hX hbl hbA hL (OK.2.2.2.2.1) ⟨h0, by omega⟩ hN hI hw hl
    by_cases hc5 : zm (zand (sv xs i) 31) = 5
    · refine y_tabIn (tgt := 301) C dL_law_33 hc5 (by decide) (by decide) rfl (by decide) ?_
      exact lc_5 C hX hbl hbA hL (OK.2.2.2.2.2.1) ⟨h0, by omega⟩ hN hI hw hl
    by_cases hc6 : zm (zand (sv xs i) 31) = 6
    · refine y_tabIn (tgt := 334) C dL_law_33 hc6 (by decide) (by decide) rfl (by decide) ?_
      exact lc_6 C hX hbl hbA hL (OK.2.2.2.2.2.2.1) ⟨h0, by omega⟩ hN hI hw hl
    by_cases hc7 : zm (zand (sv xs i) 31) = 7
    · refine y_tabIn (tgt := 367) C dL_law_33 hc7 (by decide) (by decide) rfl (by decide) ?_
      exact lc_7 C hX hbl hbA hL (OK.2.2.2.2.2.2.2.1) ⟨h0, by omega⟩ hN hI hw hl
    by_cases hc8 : zm (zand (sv xs i) 31) = 8
    · refine y_tabIn (tgt := 410) C dL_law_33 hc8 (by decide) (by decide) rfl (by decide) ?_
      exact lc_8 C hX hbl hbA hL (OK.2.2.2.2.2.2.2.2.1) ⟨h0, by omega⟩ hN hI hw hl
    by_cases hc9 : zm (zand (sv xs i) 31) = 9
    · refine y_tabIn (tgt := 443) C dL_law_33 hc9 (by decide) (by decide) rfl (by decide) ?_
      exact lc_9 C hX hbl hbA hL (OK.2.2.2.2.2.2.2.2.2.1) ⟨h0, by omega⟩ hN hI hw hl
    by_cases hc10 : zm (zand (sv xs i) 31) = 10
    · refine y_tabIn (tgt := 506) C dL_law_33 hc10 (by decide) (by decide) rfl (by decide) ?_
      exact lc_10 C hX hbl hbA hL (OK.2.2.2.2.2.2.2.2.2.2.1) ⟨h0, by omega⟩ hN hI hw hl
    by_cases hc11 : zm (zand (sv xs i) 31) = 11
    · refine y_tabIn (tgt := 621) C dL_law_33 hc11 (by decide) (by decide) rfl (by decide) ?_
      exact lc_11 C hX hbl hbA hL (OK.2.2.2.2.2.2.2.2.2.2.2.1) ⟨h0, by omega⟩ hN hI hw hl
    by_cases hc12 : zm (zand (sv xs i) 31) = 12
    · refine y_tabIn (tgt := 684) C dL_law_33 hc12 (by decide) (by decide) rfl (by decide) ?_
      exact lc_12 C hX hbl hbA hL (OK.2.2.2.2.2.2.2.2.2.2.2.2.1) ⟨h0, by omega⟩ hN hI hw hl
    by_cases hc13 : zm (zand (sv xs i) 31) = 13
    · refine y_tabIn (tgt := 799) C dL_law_33 hc13 (by decide) (by decide) rfl (by decide) ?_
      exact lc_13 C hX hbl hbA hL (OK.2.2.2.2.2.2.2.2.2.2.2.2.2.1) ⟨h0, by omega⟩ hN hI hw hl
    by_cases hc14 : zm (zand (sv xs i) 31) = 14
    · refine y_tabIn (tgt := 874) C dL_law_33 hc14 (by decide) (by decide) rfl (by decide) ?_
      exact lc_14 C hX hbl hbA hL (OK.2.2.2.2.2.2.2.2.2.2.2.2.2.2.1) ⟨h0, by omega⟩ hN hI hw hl
    by_cases hc15 : zm (zand (sv xs i) 31) = 15
    · refine y_tabIn (tgt := 933) C dL_law_33 hc15 (by decide) (by decide) rfl (by decide) ?_
      exact lc_15 C hX hbl hbA hL (OK.2.2.2.2.2.2.2.2.2.2.2.2.2.2.2.1) ⟨h0, by omega⟩ hN hI hw hl
    by_cases hc16 : zm (zand (sv xs i) 31) = 16
    · refine y_tabIn (tgt := 996) C dL_law_33 hc16 (by decide) (by decide) rfl (by decide) ?_
      exact lc_16 C hX hbl hbA hL (OK.2.2.2.2.2.2.2.2.2.2.2.2.2.2.2.2.1) ⟨h0, by omega⟩ hN hI hw hl
    by_cases hc17 : zm (zand (sv xs i) 31) = 17
    · refine y_tabIn (tgt := 1071) C dL_law_33 hc17 (by decide) (by decide) rfl (by decide) ?_
      exact lc_17 C hX hbl hbA hL (OK.2.2.2.2.2.2.2.2.2.2.2.2.2.2.2.2.2.1) ⟨h0, by omega⟩ hN hI hw hl
    by_cases hc18 : zm (zand (sv xs i) 31) = 18
    · refine y_tabIn (tgt := 1146) C dL_law_33 hc18 (by decide) (by decide) rfl (by decide) ?_
      exact lc_18 C hX hbl hbA hL (OK.2.2.2.2.2.2.2.2.2.2.2.2.2.2.2.2.2.2.1) ⟨h0, by omega⟩ hN hI hw hl
    by_cases hc19 : zm (zand (sv xs i) 31) = 19
    · refine y_tabIn (tgt := 1221) C dL_law_33 hc19 (by decide) (by decide) rfl (by decide) ?_
      exact lc_19 C hX hbl hbA hL (OK.2.2.2.2.2.2.2.2.2.2.2.2.2.2.2.2.2.2.2.1) ⟨h0, by omega⟩ hN hI hw hl
    by_cases hc20 : zm (zand (sv xs i) 31) = 20
    · refine y_tabIn (tgt := 1254) C dL_law_33 hc20 (by decide) (by decide) rfl (by decide) ?_
      exact lc_20 C hX hbl hbA hL (OK.2.2.2.2.2.2.2.2.2.2.2.2.2.2.2.2.2.2.2.2.1) ⟨h0, by omega⟩ hN hI hw hl
    by_cases hc21 : zm (zand (sv xs i) 31) = 21
    · refine y_tabIn (tgt := 1267) C dL_law_33 hc21 (by decide) (by decide) rfl (by decide) ?_
      exact lc_21 C hX hbl hbA hL (OK.2.2.2.2.2.2.2.2.2.2.2.2.2.2.2.2.2.2.2.2.2.1) ⟨h0, by omega⟩ hN hI hw hl
    by_cases hc22 : zm (zand (sv xs i) 31) = 22
    · refine y_tabIn (tgt := 1310) C dL_law_33 hc22 (by decide) (by decide) rfl (by decide) ?_
      exact lc_22 C hX hbl hbA hL (OK.2.2.2.2.2.2.2.2.2.2.2.2.2.2.2.2.2.2.2.2.2.2.1) ⟨h0, by omega⟩ hN hI hw hl
    by_cases hc23 : zm (zand (sv xs i) 31) = 23
    · refine y_tabIn (tgt := 1385) C dL_law_33 hc23 (by decide) (by decide) rfl (by decide) ?_
      exact lc_23 C hX hbl hbA hL (OK.2.2.2.2.2.2.2.2.2.2.2.2.2.2.2.2.2.2.2.2.2.2.2.1) ⟨h0, by omega⟩ hN hI hw hl
    by_cases hc24 : zm (zand (sv xs i) 31) = 24
    · refine y_tabIn (tgt := 1438) C dL_law_33 hc24 (by decide) (by decide) rfl (by decide) ?_
      exact lc_24 C hX hbl hbA hL (OK.2.2.2.2.2.2.2.2.2.2.2.2.2.2.2.2.2.2.2.2.2.2.2.2.1) ⟨h0, by omega⟩ hN hI hw hl
    by_cases hc25 : zm (zand (sv xs i) 31) = 25
    · refine y_tabIn (tgt := 1491) C dL_law_33 hc25 (by decide) (by decide) rfl (by decide) ?_
      exact lc_25 C hX hbl hbA hL (OK.2.2.2.2.2.2.2.2.2.2.2.2.2.2.2.2.2.2.2.2.2.2.2.2.2.1) ⟨h0, by omega⟩ hN hI hw hl
    by_cases hc26 : zm (zand (sv xs i) 31) = 26
    · refine y_tabIn (tgt := 1602) C dL_law_33 hc26 (by decide) (by decide) rfl (by decide) ?_
      exact lc_26 C hX hbl hbA hL (OK.2.2.2.2.2.2.2.2.2.2.2.2.2.2.2.2.2.2.2.2.2.2.2.2.2.2.1) ⟨h0, by omega⟩ hN hI hw hl
    by_cases hc27 : zm (zand (sv xs i) 31) = 27
    · refine y_tabIn (tgt := 1645) C dL_law_33 hc27 (by decide) (by decide) rfl (by decide) ?_
      exact lc_27 C hX hbl hbA hL (OK.2.2.2.2.2.2.2.2.2.2.2.2.2.2.2.2.2.2.2.2.2.2.2.2.2.2.2.1) ⟨h0, by omega⟩ hN hI hw hl
    by_cases hc28 : zm (zand (sv xs i) 31) = 28
    · refine y_tabIn (tgt := 1668) C dL_law_33 hc28 (by decide) (by decide) rfl (by decide) ?_
      exact lc_28 C hX hbl hbA hL (OK.2.2.2.2.2.2.2.2.2.2.2.2.2.2.2.2.2.2.2.2.2.2.2.2.2.2.2.2.1) ⟨h0, by omega⟩ hN hI hw hl
    by_cases hc29 : zm (zand (sv xs i) 31) = 29
    · refine y_tabIn (tgt := 1721) C dL_law_33 hc29 (by decide) (by decide) rfl (by decide) ?_
      exact lc_29 C hX hbl hbA hL (OK.2.2.2.2.2.2.2.2.2.2.2.2.2.2.2.2.2.2.2.2.2.2.2.2.2.2.2.2.2.1) ⟨h0, by omega⟩ hN hI hw hl
    by_cases hc30 : zm (zand (sv xs i) 31) = 30
    · refine y_tabIn (tgt := 1744) C dL_law_33 hc30 (by decide) (by decide) rfl (by decide) ?_
      exact lc_30 C hX hbl hbA hL (OK.2.2.2.2.2.2.2.2.2.2.2.2.2.2.2.2.2.2.2.2.2.2.2.2.2.2.2.2.2.2.1) ⟨h0, by omega⟩ hN hI hw hl
    by_cases hc31 : zm (zand (sv xs i) 31) = 31
    · refine y_tabIn (tgt := 1767) C dL_law_33 hc31 (by decide) (by decide) rfl (by decide) ?_
      exact lc_31 C hX hbl hbA hL (OK.2.2.2.2.2.2.2.2.2.2.2.2.2.2.2.2.2.2.2.2.2.2.2.2.2.2.2.2.2.2.2) ⟨h0, by omega⟩ hN hI hw hl
    exfalso
    have := zand31 (sv xs i)
    omega
end LL
