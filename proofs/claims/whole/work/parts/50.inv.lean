/-! the tables' rows of one sort, one house, one rule -/
def eqK (a b : St) (s h ru : Int) : Prop := (a 8 s = b 8 s ∧ a 11 s = b 11 s ∧ a 12 s = b 12 s ∧ ∀ i, 0 ≤ i → i < 8 → a 9 (8 * s + i) = b 9 (8 * s + i) ∧ a 10 (8 * s + i) = b 10 (8 * s + i)) ∧ (a 1 h = b 1 h ∧ a 3 h = b 3 h ∧ a 4 h = b 4 h ∧ a 5 h = b 5 h ∧ a 6 h = b 6 h ∧ a 7 h = b 7 h ∧ ∀ r, 0 ≤ r → r < 10 → a 2 (10 * h + r) = b 2 (10 * h + r)) ∧ (0 ≤ ru → a 14 ru = b 14 ru ∧ ∀ i, 0 ≤ i → i < 30 → a 15 (30 * ru + i) = b 15 (30 * ru + i))
theorem SOK_k {a b : St} {s h ru : Int} (e : eqK a b s h ru) (hs : SOK a s) : SOK b s := by
  obtain ⟨⟨e8, e11, e12, e9⟩, _⟩ := e
  obtain ⟨a1, a2, a3, a4, a5, a6, a7⟩ := hs
  refine ⟨a1, by omega, fun i i0 i1 => ?_, fun i i0 i1 => ?_, fun i i0 i1 => ?_, ?_, by omega⟩
  · rw [← (e9 i i0 (by omega)).1]; exact a3 i i0 (by omega)
  · rw [← (e9 i i0 (by omega)).2]; exact a4 i i0 (by omega)
  · rw [← (e9 i i0 (by omega)).1, ← (e9 (i + 1) (by omega) (by omega)).1]; exact a5 i i0 (by omega)
  · rw [← e8, ← sm_congr (f := fun i => a 10 (8 * s + i)) _ (fun i i0 i1 => (e9 i i0 (by omega)).2)]
    exact a6
theorem HOK_k {a b : St} {s h ru : Int} (e : eqK a b s h ru) (hh : HOK a h) : HOK b h := by
  obtain ⟨_, ⟨e1, e3, e4, e5, e6, e7, e2⟩, _⟩ := e
  obtain ⟨a1, a2, a3, a4, a5, a6, a7⟩ := hh
  refine ⟨a1, by omega, fun r r0 r1 => ?_, by omega, by omega, by omega, by omega⟩
  rw [← e2 r r0 (by omega)]; exact a3 r r0 (by omega)
theorem ROK_k {a b : St} {s h ru : Int} (e : eqK a b s h ru) (hu : ROK a ru) : ROK b ru := by
  obtain ⟨a1, a2, a3⟩ := hu
  obtain ⟨e14, e15⟩ := e.2.2 a1.1
  refine ⟨a1, by omega, fun k j k0 k1 j0 j1 => ?_⟩
  have q := e15 (5 * k + j) (by omega) (by omega)
  rw [show 30 * ru + (5 * k + j) = 30 * ru + 5 * k + j by omega] at q
  rw [← q]; exact a3 k j k0 (by omega) j0 j1
theorem od_k {a b : St} {s h ru p i : Int} (e : eqK a b s h ru) (hi : 0 ≤ i ∧ i < 8) : od a s p i = od b s p i := by
  unfold od
  rw [(e.1.2.2.2 i hi.1 hi.2).2, e.1.2.2.1]
theorem nxt_k {a b : St} {s h ru r k : Int} (e : eqK a b s h ru) : nxt a h r k = nxt b h r k := by
  obtain ⟨_, ⟨e1, e3, e4, e5, e6, e7, e2⟩, _⟩ := e
  unfold nxt
  rw [e1, e3, e4, e5]
theorem bea_k {a b : St} {s h ru S : Int} (e : eqK a b s h ru) : bea a h S = bea b h S := by
  unfold bea
  rw [e.2.1.2.2.2.2.1]
theorem brF_k {a b : St} {s h ru r m : Int} (e : eqK a b s h ru) (h0 : 0 ≤ ru) : ∀ (n : Nat) (k : Int), 0 ≤ k → k + n ≤ 6 → brF a ru r m n k = brF b ru r m n k
  | 0, _, _, _ => rfl
  | n + 1, k, k0, k1 => by
    have q := fun j j0 j1 => (e.2.2 h0).2 (5 * k + j) (by omega : 0 ≤ 5 * k + j) (by omega : 5 * k + j < 30)
    have q0 := (e.2.2 h0).2 (5 * k) (by omega) (by omega)
    have q1 := (e.2.2 h0).2 (5 * k + 1) (by omega) (by omega)
    have q2 := (e.2.2 h0).2 (5 * k + 2) (by omega) (by omega)
    have q3 := (e.2.2 h0).2 (5 * k + 3) (by omega) (by omega)
    have q4 := (e.2.2 h0).2 (5 * k + 4) (by omega) (by omega)
    rw [← Int.add_assoc] at q1 q2 q3 q4
    unfold brF
    rw [brF_k e h0 n (k + 1) (by omega) (by omega), q0, q1, q2, q3, q4]
theorem ask_k {a b : St} {s h ru r m k : Int} {g : Int → Int} {S : Int} (e : eqK a b s h ru) (hu : ru = -1 ∨ ROK a ru) : ask a h ru r m k g S ↔ ask b h ru r m k g S := by
  unfold ask
  rw [bea_k e]
  rcases hu with rfl | hu
  · constructor
    · rintro (q | q)
      · exact absurd q.1 (by decide)
      · exact Or.inr q
    · rintro (q | q)
      · exact absurd q.1 (by decide)
      · exact Or.inr q
  · have h6 := hu.2.1
    have q : br a ru r m = br b ru r m := by
      unfold br
      rw [brF_k e hu.1.1 _ 0 (by omega) (by omega), (e.2.2 hu.1.1).1]
    rw [q]
theorem by_k {a b : St} {s h ru r m k : Int} {g : Int → Int} {S : Int} (e : eqK a b s h ru) (hu : ru = -1 ∨ ROK a ru) : by_ a h ru r m k g S = by_ b h ru r m k g S := by
  unfold by_
  have q := ask_k (r := r) (m := m) (k := k) (g := g) (S := S) e hu
  by_cases c : ask a h ru r m k g S
  · rw [if_pos c, if_pos (q.1 c), bea_k e]
  · rw [if_neg c, if_neg (fun x => c (q.2 x))]
theorem mon_k {a b : St} {s h ru p r m k : Int} {g : Int → Int} (e : eqK a b s h ru) (hs : SOK a s) (hu : ru = -1 ∨ ROK a ru) : mon a s h ru p r m g k = mon b s h ru p r m g k := by
  have h8 := hs.2.1
  have e8 := e.1.1
  have e1 : sm (od a s p) (a 8 s).toNat = sm (od b s p) (a 8 s).toNat := sm_congr _ (fun i i0 i1 => od_k e (by omega))
  have e2 : sm (fun i => od a s p i * by_ a h ru r m k g (a 9 (8 * s + i))) (a 8 s).toNat = sm (fun i => od b s p i * by_ b h ru r m k g (b 9 (8 * s + i))) (a 8 s).toNat := sm_congr _ (fun i i0 i1 => by
    rw [od_k e (by omega), by_k e hu, (e.1.2.2.2 i i0 (by omega)).1])
  unfold mon msum
  rw [e2, e1, e8]
theorem inM_k {a b : St} {s h ru p r : Int} {c : Int → Int} (e : eqK a b s h ru) (hs : SOK a s) (hu : ru = -1 ∨ ROK a ru) : ∀ (j : Nat) (k : Int), inM a s h ru p r c j k = inM b s h ru p r c j k
  | 0, k => by unfold inM; rw [nxt_k e]
  | j + 1, k => by
    unfold inM
    rw [mon_k e hs hu, funext (inM_k e hs hu j)]
theorem pnd_k {a b : St} {s h ru r : Int} {c c' : Int → Int} (e : eqK a b s h ru) (hs : SOK a s) (hh : HOK a h) (hu : ru = -1 ∨ ROK a ru) (hr : 0 ≤ r ∧ r < a 1 h) (hc : ∀ r, 0 ≤ r → r < a 1 h → c r = c' r) : pnd a s h ru c r ↔ pnd b s h ru c' r := by
  unfold pnd
  rw [← inM_k e hs hu, ← inM_k e hs hu, inM_g hh hr hc 12 0 (by decide) (by decide), inM_g hh hr hc 12 0 (by decide) (by decide), e.1.2.1]
theorem cst_k {a b : St} {s h ru : Int} (e : eqK a b s h ru) (hs : SOK a s) (hh : HOK a h) (hu : ru = -1 ∨ ROK a ru) : ∀ (n : Nat) (r : Int), 0 ≤ r → r < a 1 h → cst a s h ru n r = cst b s h ru n r
  | 0, _, _, _ => by unfold cst; rfl
  | n + 1, r, r0, r1 => by
    have hc := cst_k e hs hh hu n
    have hp := pnd_k (r := r) e hs hh hu ⟨r0, r1⟩ hc
    have h10 := hh.2.1
    unfold cst
    by_cases q : pnd a s h ru (cst a s h ru n) r
    · rw [if_pos q, if_pos (hp.1 q), ← inM_k e hs hu, ← inM_g hh ⟨r0, r1⟩ hc 12 0 (by decide) (by decide), e.1.2.1, e.2.1.2.2.2.2.2.2 r r0 (by omega)]
    · rw [if_neg q, if_neg (fun x => q (hp.2 x)), ← inM_k e hs hu, ← inM_g hh ⟨r0, r1⟩ hc 12 0 (by decide) (by decide), e.2.1.2.2.2.2.2.2 r r0 (by omega)]
theorem KN_k {σ a b : St} {o s h ru n r : Int} (e : eqK a b s h ru) (hs : SOK a s) (hh : HOK a h) (hu : ru = -1 ∨ ROK a ru) (hk : KN σ o a s h ru n r) : KN σ o b s h ru n r := by
  have e1 := e.2.1.1
  refine ⟨fun n' r' a0 a1 a2 a3 => ?_, fun n' r' a0 a1 a2 a3 => ?_⟩
  · rw [← cst_k e hs hh hu _ r' a1 (by omega)]
    exact hk.1 n' r' a0 a1 (by omega) a3
  · rw [← pnd_k (r := r') e hs hh hu ⟨a1, by omega⟩ (fun r r0 r1 => cst_k e hs hh hu _ r r0 r1)]
    exact hk.2 n' r' a0 a1 (by omega) a3
