/-! ===== the law: its frame, its turns, its entry ===== -/
/-! ===== the law: its frame ===== -/
def R_law : String := "RunweaverLaw"
def lw_P (b : Addr) (xs : List Int32) (args : Array Value) (s : State) : Prop := args = #[.ref b] ∧ s.IntsAt b xs ∧ xs.length ≤ 260 ∧ (Jvm.Cond.and given_1 narrow_1).before args s = true
def lw_Q (_ : Array Value) (s : State) (o : Outcome) (t : State) : Prop := o = .returned (some (.int 1)) ∧ Framed s o t [] 600086 7301442
def lw_Z (below : List Frame) (a : Array Value) (s : State) : State → Prop := fun t => ∃ o, t.status = .running ∧ Ended t below o ∧ lw_Q a s o t
/-- the law's own end, with 1 on the stack, nothing written that was there before, its room as the claim has it -/
theorem lw_ret {p : Program} {l : Launch} {e : Env} {s : State} {m : MethodId} {below : List Frame} {meth : Method} {c : Code} {b : Nat} (hx : p.tables.exec = Jvm.exec) (hb : c.code = code) (hr : meth.sig.returnType = ret) (hlocks : meth.locks = false) {pc : Nat} {H : Heap} {ls : Array Slot} (hdg : decode code pc = .ok (.ireturn, 1)) : W p l e room_1 s m #[Value.ref b] below meth c H [] 600086 7301442 (lw_Z below #[Value.ref b] s) (F0 m pc ls [.int 1]) := by
  intro T hT X
  obtain ⟨fs, hret, hrun, hended, hW, hframe⟩ := X.leave (v := some (.int 1)) (hlocks := hlocks) (fun h => by rw [hr] at h; cases h)
  have hmeth' : T.vm.method? m = some meth := X.method'
  refine ⟨T.setFrames fs, ?_, .returned (some (.int 1)), hrun, hended, rfl, ⟨_, rfl⟩, hW, hframe⟩
  jvm_step X.here [X.here.top, hx, hb, hdg, hmeth', hr, ret, narrow_b1]
  (try refine ⟨rfl, ?_⟩); (try refine ⟨rfl, ?_⟩)
  first | (intro acts; rw [hret _ acts rfl rfl rfl]) | rw [hret _ _ rfl rfl rfl]
  exact Steps.refl _
/-- the law as a method with a script -/
abbrev mLw : mM := (yL_law, cL_law, 5, some .boolean, [], true)
/-- what the law owes, for the script xs of L ints -/
def mKl (L : Nat) (xs : Nat → Int32) : mK := fun s args below G _ t => (G.2.2.2.2.1 = L ∧ G.2.2.2.2.2 = xs ∧ args = #[Value.ref (G.2.2.2.1 0)]) → lw_Z below args s t
section MTL
variable {l : Launch} {pc : Nat} {ls st : List Value} {h : mH} {n cc sc : Nat} {R : Room} {M : mM} {L : Nat} {xs : Nat → Int32}
theorem va_A0 {b sz : Nat} {w0 : va_W} (hw : w0 = []) (hb : b < sz) : ¬ va_A w0 sz b := by
  subst hw
  rintro (⟨k, e, z⟩ | z)
  · cases z
  · exact absurd hb (Nat.not_lt.mpr z)
theorem mx_len (hdg : decode M.2.1 pc = .ok (.arraylength, 1)) (hM : M.2.2.2.2.2 = true) (k : mT l M R (mKl L xs) (pc + 1) ls (.int (nI L) :: st) h n cc sc) : mT l M R (mKl L xs) pc ls (.retAddr 0 :: st) h n cc sc := by
  intro p e s m args below meth c G w0 H locs LS ws st' hC hD
  by_cases q : G.2.2.2.2.1 = L ∧ G.2.2.2.2.2 = xs
  · obtain ⟨d1, d2, d3, d4, d5, d6, d7⟩ := hD
    obtain ⟨v', t', rfl, hv, d7a⟩ := d7
    obtain rfl : v' = .ref (G.2.2.2.1 0) := hv
    obtain ⟨hX, hbl, hw0⟩ := hC.2.2.2.2.2.2.2.2.2.2.2.2 hM
    rw [q.1, q.2] at hX
    exact va_slen hC.1 hC.2.2.1 hX hbl (va_A0 hw0 hbl) d4 hdg (k p e s m args below meth c G w0 H locs LS ws _ hC ⟨d1, d2, d3, d4, d5, d6, ⟨_, _, rfl, rfl, d7a⟩⟩)
  · intro T hT X
    exact ⟨_, Steps.refl _, fun z => absurd ⟨z.1, z.2.1⟩ q⟩
theorem mx_ld {j : Nat} (hdg : decode M.2.1 pc = .ok (.iaload, 1)) (hM : M.2.2.2.2.2 = true) (hj : j < L) (hL : L < 2 ^ 31) (k : mT l M R (mKl L xs) (pc + 1) ls (.int (xs j) :: st) h n cc sc) : mT l M R (mKl L xs) pc ls (.int (nI j) :: .retAddr 0 :: st) h n cc sc := by
  intro p e s m args below meth c G w0 H locs LS ws st' hC hD
  by_cases q : G.2.2.2.2.1 = L ∧ G.2.2.2.2.2 = xs
  · obtain ⟨d1, d2, d3, d4, d5, d6, d7⟩ := hD
    obtain ⟨t1, rfl, d7b⟩ := d7.int
    obtain ⟨v', t', rfl, hv, d7a⟩ := d7b
    obtain rfl : v' = .ref (G.2.2.2.1 0) := hv
    obtain ⟨hX, hbl, hw0⟩ := hC.2.2.2.2.2.2.2.2.2.2.2.2 hM
    rw [q.1, q.2] at hX
    refine va_sld hC.1 hC.2.2.1 hX hbl (va_A0 hw0 hbl) d4 (vp_in_nI hj hL) hdg ?_
    rw [nI_clamp (by omega)]
    exact k p e s m args below meth c G w0 H locs LS ws _ hC ⟨d1, d2, d3, d4, d5, d6, ⟨_, _, rfl, rfl, d7a⟩⟩
  · intro T hT X
    exact ⟨_, Steps.refl _, fun z => absurd ⟨z.1, z.2.1⟩ q⟩
theorem mx_end (hdg : decode mLw.2.1 pc = .ok (.ireturn, 1)) (hcc : cc ≤ 600086) (hsc : sc ≤ 7301442) : mT l mLw room_1 (mKl L xs) pc ls [.int (nI 1)] h n cc sc := by
  intro p e s m args below meth c G w0 H locs LS ws st' hC hD
  by_cases q : args = #[Value.ref (G.2.2.2.1 0)]
  · obtain ⟨d1, d2, d3, d4, d5, d6, d7⟩ := hD
    obtain ⟨t1, rfl, d7a⟩ := d7.int
    cases (show t1 = [] from d7a)
    obtain ⟨hX, hbl, hw0⟩ := hC.2.2.2.2.2.2.2.2.2.2.2.2 rfl
    subst q
    refine va_forget (fun q hq => ?_) (W.widen hcc hsc (fun T hT X => ?_))
    · rcases d4.2.2 q hq with ⟨k, e, z⟩ | z
      · rw [hw0] at z; cases z
      · exact z
    · obtain ⟨t, a1, a2⟩ := lw_ret hC.1 hC.2.2.1 hC.2.2.2.1 hC.2.2.2.2.2.2.2.1 hdg T hT X
      exact ⟨t, a1, fun _ => a2⟩
  · intro T hT X
    exact ⟨_, Steps.refl _, fun z => absurd z.2.2 q⟩
end MTL

set_option maxRecDepth 100000 in
set_option maxHeartbeats 2000000 in
theorem tL_law_10 {l : Launch} {K : mK}  (hl : l.stackTraces = false) (kk0 : ∀ (k : Nat) (h : mH) (n : Nat) (S : cS), (cAt h S) → mT l mLw room_1 K 155 [.retAddr 0, .ref 0, .int (nI k), .double 0, .double 0] [] h n 300000 2500000) : ∀ (N0 : Nat) (k : Nat) (h : mH) (n : Nat) (S : cS), (24 - k) < N0 → (cAt h S) → (27 ≤ n) → (k ≤ 24) → mT l mLw room_1 K 10 [.retAddr 0, .ref 0, .int (nI k), .double 0, .double 0] [] h n (1000 + 11000 * k) (20000 + 90000 * k) := by
  intro N0
  induction N0 with
  | zero => intro k h n S hm; exact absurd hm (Nat.not_lt_zero _)
  | succ N0 ih =>
    intro k h n S hm C hn hk
    refine mt_iload_n dL_law_10 rfl ?_
    refine mt_bipush dL_law_11 (v := nI 24) (by decide) ?_
    refine mt_icmp_ge dL_law_13 (tgt := 155) rfl (fun q1 => ?_) (fun q1 => ?_)
    · have q1 := Int32.not_lt.mpr q1
      have q1 := (not_congr (nI_ltI (by omega) (by omega))).mp q1
      refine mt_widen (cc' := 300000) (sc' := 2500000) (by first | omega | (simp only [rX2_init, rL_cell, rL_pick, rL_act, rL_arePairs, rL_isSorted, rL_isTurned, rL_areMerged, rL_isAsked, rX2_isSound, room_1]; omega)) (by first | omega | (simp only [rX2_init, rL_cell, rL_pick, rL_act, rL_arePairs, rL_isSorted, rL_isTurned, rL_areMerged, rL_isAsked, rX2_isSound, room_1]; omega)) ?_
      exact kk0 k h n S C
    · have q1 := Int32.not_le.mp q1
      have q1 := (nI_ltI (by omega) (by omega)).mp q1
      refine mt_aload_n dL_law_16 rfl rfl ?_
      refine mt_iload_n dL_law_17 rfl ?_
      refine mt_bipush dL_law_18 (v := nI 16) (by decide) ?_
      refine mp_irem dL_law_20 (mI_ne0 (by omega) (by omega)) (v := nI (k % 16)) (pk_rem (by omega) (by omega) (by omega)) ?_
      refine mt_callS (N := mL_cell) (Rc := rL_cell) (As := [.retAddr 0, .int (nI (k % 16))]) (st := []) dL_law_21 (kL_cell hl (by omega)) sL_cell mw_199 rfl (Nat.le_of_ble_eq_true rfl) ⟨⟨Nat.le_of_ble_eq_true rfl, Nat.le_of_ble_eq_true rfl⟩, (by simp only [rX2_init, rL_cell, rL_pick, rL_act, rL_arePairs, rL_isSorted, rL_isTurned, rL_areMerged, rL_isAsked, rX2_isSound, room_1]; omega), (by simp only [rX2_init, rL_cell, rL_pick, rL_act, rL_arePairs, rL_isSorted, rL_isTurned, rL_areMerged, rL_isAsked, rX2_isSound, room_1]; omega)⟩ (fun v2 h3 n4 c5 => ?_) (fun _ _ _ hx => hx.elim)
      obtain ⟨x6, c5a, c5b, c5c⟩ := c5
      rw [c5a, c5b, c5c]
      show mT _ _ _ _ 24 [.retAddr 0, .ref 0, .int (nI k), .double 0, .double 0] [.int x6] _ _ _ _
      refine mt_ldc (v := nI 1013904223) dL_law_24 mw_900 ?_
      refine mt_iload_n dL_law_26 rfl ?_
      refine mp_imul dL_law_27 (v := nI (1013904223 * k)) (mI_mul _ _) ?_
      refine mp_iadd dL_law_28 (v := x6 + (nI (1013904223 * k))) rfl ?_
      obtain ⟨y7, hy7⟩ : ∃ z, z = x6 + (nI (1013904223 * k)) := ⟨_, rfl⟩
      rw [← hy7]
      refine mp_istore_n dL_law_29 (ls' := [.retAddr 0, .ref 0, .int (nI k), .int y7, .double 0]) rfl (by decide) rfl ?_
      refine mt_aload_n dL_law_30 rfl rfl ?_
      refine mt_iload_n dL_law_31 rfl ?_
      refine mt_joinN (P := fun m8 : Nat => m8 < 14) (pc2 := 48) (ls2 := fun _ => [.retAddr 0, .ref 0, .int (nI k), .int y7, .double 0]) (st2 := fun m8 => [.int (nI m8), .int y7, .ref 0]) (h2 := h) (n2 := n) (cc2 := 1100 + 11000 * k) (sc2 := 20100 + 90000 * k) (fun m8 hm8 => ?_) (fun kk8 => ?_)
      · have hm8 : m8 < 14 := hm8
        show mT _ _ _ _ 48 [.retAddr 0, .ref 0, .int (nI k), .int y7, .double 0] [.int (nI m8), .int y7, .ref 0] _ _ _ _
        refine mt_joinN (P := fun m9 : Nat => m9 < 4) (pc2 := 63) (ls2 := fun _ => [.retAddr 0, .ref 0, .int (nI k), .int y7, .double 0]) (st2 := fun m9 => [.int (nI m9), .int (nI m8), .int y7, .ref 0]) (h2 := h) (n2 := n) (cc2 := 1200 + 11000 * k) (sc2 := 20300 + 90000 * k) (fun m9 hm9 => ?_) (fun kk9 => ?_)
        · have hm9 : m9 < 4 := hm9
          show mT _ _ _ _ 63 [.retAddr 0, .ref 0, .int (nI k), .int y7, .double 0] [.int (nI m9), .int (nI m8), .int y7, .ref 0] _ _ _ _
          refine mt_callSW (N := mL_act) (Rc := rL_act) (As := [.ref 0, .int y7, .int (nI m8), .int (nI m9)]) (st := []) dL_law_63 (kL_act hl C (by omega) (by omega)) sL_act mw_208 rfl (Nat.le_of_ble_eq_true rfl) ⟨⟨Nat.le_of_ble_eq_true rfl, Nat.le_of_ble_eq_true rfl⟩, (by simp only [rX2_init, rL_cell, rL_pick, rL_act, rL_arePairs, rL_isSorted, rL_isTurned, rL_areMerged, rL_isAsked, rX2_isSound, room_1]; omega), (by simp only [rX2_init, rL_cell, rL_pick, rL_act, rL_arePairs, rL_isSorted, rL_isTurned, rL_areMerged, rL_isAsked, rX2_isSound, room_1]; omega)⟩ (fun v10 h11 n12 c13 => ?_) (fun _ _ _ hx => hx.elim)
          obtain ⟨c13a, c13b, S_14, c13c⟩ := c13
          rw [c13a, c13b]
          show mT _ _ _ _ 66 [.retAddr 0, .ref 0, .int (nI k), .int y7, .double 0] [] _ _ _ _
          refine mt_iload_n dL_law_66 rfl ?_
          refine mt_iconst dL_law_67 (v := nI 2) rfl ?_
          refine mt_iconst dL_law_68 (v := nI 4) rfl ?_
          refine mt_callS (N := mL_pick) (Rc := rL_pick) (As := [.int y7, .int (nI 2), .int (nI 4)]) (st := []) dL_law_69 (kL_pick hl (by omega) (by omega)) sL_pick mw_203 rfl (Nat.le_of_ble_eq_true rfl) ⟨⟨Nat.le_of_ble_eq_true rfl, Nat.le_of_ble_eq_true rfl⟩, (by simp only [rX2_init, rL_cell, rL_pick, rL_act, rL_arePairs, rL_isSorted, rL_isTurned, rL_areMerged, rL_isAsked, rX2_isSound, room_1]; omega), (by simp only [rX2_init, rL_cell, rL_pick, rL_act, rL_arePairs, rL_isSorted, rL_isTurned, rL_areMerged, rL_isAsked, rX2_isSound, room_1]; omega)⟩ (fun v15 h16 n17 c18 => ?_) (fun _ _ _ hx => hx.elim)
          obtain ⟨j19, hj19, c18a, c18b, c18c⟩ := c18
          rw [c18a, c18b, c18c]
          show mT _ _ _ _ 72 [.retAddr 0, .ref 0, .int (nI k), .int y7, .double 0] [.int (nI j19)] _ _ _ _
          refine mp_istore dL_law_72 (ls' := [.retAddr 0, .ref 0, .int (nI k), .int y7, .int (nI j19)]) rfl (by decide) rfl ?_
          refine mt_joinW (pc2 := 107) (ls2 := [.retAddr 0, .ref 0, .int (nI k), .int y7, .int (nI j19)]) (st2 := []) (cc2 := 7800 + 11000 * k) (sc2 := 66000 + 90000 * k) (fun h9 n9 S9 C9 hn9 => ?_) (fun kk20 => ?_)
          · show mT _ _ _ _ 107 [.retAddr 0, .ref 0, .int (nI k), .int y7, .int (nI j19)] [] _ _ _ _
            refine mt_iload_n dL_law_107 rfl ?_
            refine mt_bipush dL_law_108 (v := nI 6) (by decide) ?_
            refine mp_irem dL_law_110 (mI_ne0 (by omega) (by omega)) (v := nI (k % 6)) (pk_rem (by omega) (by omega) (by omega)) ?_
            refine mt_iconst dL_law_111 (v := nI 5) rfl ?_
            refine mt_icmp_ne dL_law_112 (tgt := 149) rfl (fun q21 => ?_) (fun q21 => ?_)
            · have q21 := (not_congr (nI_eq (by omega) (by omega))).mp q21
              refine mp_iinc dL_law_149 rfl (v := nI (k + 1)) mI_inc (ls' := [.retAddr 0, .ref 0, .int (nI (k + 1)), .int y7, .int (nI j19)]) rfl (by decide) rfl ?_
              refine mt_goto dL_law_152 (tgt := 10) rfl ?_
              refine mt_drop 3 (ls' := [.retAddr 0, .ref 0, .int (nI (k + 1)), .double 0, .int (nI j19)]) rfl ?_
              refine mt_drop 4 (ls' := [.retAddr 0, .ref 0, .int (nI (k + 1)), .double 0, .double 0]) rfl ?_
              refine mt_widen (cc' := 1000 + 11000 * (k + 1)) (sc' := 20000 + 90000 * (k + 1)) (by first | omega | (simp only [rX2_init, rL_cell, rL_pick, rL_act, rL_arePairs, rL_isSorted, rL_isTurned, rL_areMerged, rL_isAsked, rX2_isSound, room_1]; omega)) (by first | omega | (simp only [rX2_init, rL_cell, rL_pick, rL_act, rL_arePairs, rL_isSorted, rL_isTurned, rL_areMerged, rL_isAsked, rX2_isSound, room_1]; omega)) ?_
              exact ih (k + 1) h9 n9 S9 (by omega) C9 (by omega) (by omega)
            · have q21 := (nI_eq (by omega) (by omega)).mp q21
              refine mt_aload_n dL_law_115 rfl rfl ?_
              refine mt_iload dL_law_116 rfl ?_
              refine mt_iload_n dL_law_118 rfl ?_
              refine mt_callS (N := mL_isTurned) (Rc := rL_isTurned) (As := [.ref 0, .int (nI j19), .int y7]) (st := []) dL_law_119 (kL_isTurned hl C9 (by omega)) sL_isTurned mw_513 rfl (Nat.le_of_ble_eq_true rfl) ⟨⟨Nat.le_of_ble_eq_true rfl, Nat.le_of_ble_eq_true rfl⟩, (by simp only [rX2_init, rL_cell, rL_pick, rL_act, rL_arePairs, rL_isSorted, rL_isTurned, rL_areMerged, rL_isAsked, rX2_isSound, room_1]; omega), (by simp only [rX2_init, rL_cell, rL_pick, rL_act, rL_arePairs, rL_isSorted, rL_isTurned, rL_areMerged, rL_isAsked, rX2_isSound, room_1]; omega)⟩ (fun v22 h23 n24 c25 => ?_) (fun _ _ _ hx => hx.elim)
              obtain ⟨c25a, c25b, S_26, c25c⟩ := c25
              rw [c25a]
              show mT _ _ _ _ 122 [.retAddr 0, .ref 0, .int (nI k), .int y7, .int (nI j19)] [.int (nI 1)] _ _ _ _
              refine mt_if_eq dL_law_122 (tgt := 147) rfl (fun q27 => ?_) (fun q27 => ?_)
              · have q27 := (mI_eq0 (by omega)).mp q27
                exact absurd q27 (by decide)
              · have q27 := (not_congr (mI_eq0 (by omega))).mp q27
                refine mt_aload_n dL_law_125 rfl rfl ?_
                refine mt_iload_n dL_law_126 rfl ?_
                refine mt_iconst dL_law_127 (v := nI 4) rfl ?_
                refine mt_iconst dL_law_128 (v := nI 2) rfl ?_
                refine mt_callS (N := mL_pick) (Rc := rL_pick) (As := [.int y7, .int (nI 4), .int (nI 2)]) (st := [.ref 0]) dL_law_129 (kL_pick hl (by omega) (by omega)) sL_pick mw_203 rfl (Nat.le_of_ble_eq_true rfl) ⟨⟨Nat.le_of_ble_eq_true rfl, Nat.le_of_ble_eq_true rfl⟩, (by simp only [rX2_init, rL_cell, rL_pick, rL_act, rL_arePairs, rL_isSorted, rL_isTurned, rL_areMerged, rL_isAsked, rX2_isSound, room_1]; omega), (by simp only [rX2_init, rL_cell, rL_pick, rL_act, rL_arePairs, rL_isSorted, rL_isTurned, rL_areMerged, rL_isAsked, rX2_isSound, room_1]; omega)⟩ (fun v28 h29 n30 c31 => ?_) (fun _ _ _ hx => hx.elim)
                obtain ⟨j32, hj32, c31a, c31b, c31c⟩ := c31
                rw [c31a, c31b, c31c]
                show mT _ _ _ _ 132 [.retAddr 0, .ref 0, .int (nI k), .int y7, .int (nI j19)] [.int (nI j32), .ref 0] _ _ _ _
                refine mt_callS (N := mL_areMerged) (Rc := rL_areMerged) (As := [.ref 0, .int (nI j32)]) (st := []) dL_law_132 (kL_areMerged hl c25c (by omega) (by omega)) sL_areMerged mw_516 rfl (Nat.le_of_ble_eq_true rfl) ⟨⟨Nat.le_of_ble_eq_true rfl, Nat.le_of_ble_eq_true rfl⟩, (by simp only [rX2_init, rL_cell, rL_pick, rL_act, rL_arePairs, rL_isSorted, rL_isTurned, rL_areMerged, rL_isAsked, rX2_isSound, room_1]; omega), (by simp only [rX2_init, rL_cell, rL_pick, rL_act, rL_arePairs, rL_isSorted, rL_isTurned, rL_areMerged, rL_isAsked, rX2_isSound, room_1]; omega)⟩ (fun v33 h34 n35 c36 => ?_) (fun _ _ _ hx => hx.elim)
                obtain ⟨c36a, c36b, S_37, c36c⟩ := c36
                rw [c36a]
                show mT _ _ _ _ 135 [.retAddr 0, .ref 0, .int (nI k), .int y7, .int (nI j19)] [.int (nI 1)] _ _ _ _
                refine mt_if_eq dL_law_135 (tgt := 147) rfl (fun q38 => ?_) (fun q38 => ?_)
                · have q38 := (mI_eq0 (by omega)).mp q38
                  exact absurd q38 (by decide)
                · have q38 := (not_congr (mI_eq0 (by omega))).mp q38
                  refine mt_aload_n dL_law_138 rfl rfl ?_
                  refine mt_iload dL_law_139 rfl ?_
                  refine mt_callS (N := mL_isAsked) (Rc := rL_isAsked) (As := [.ref 0, .int (nI j19)]) (st := []) dL_law_141 (kL_isAsked hl c36c (by omega) (by omega)) sL_isAsked mw_519 rfl (Nat.le_of_ble_eq_true rfl) ⟨⟨Nat.le_of_ble_eq_true rfl, Nat.le_of_ble_eq_true rfl⟩, (by simp only [rX2_init, rL_cell, rL_pick, rL_act, rL_arePairs, rL_isSorted, rL_isTurned, rL_areMerged, rL_isAsked, rX2_isSound, room_1]; omega), (by simp only [rX2_init, rL_cell, rL_pick, rL_act, rL_arePairs, rL_isSorted, rL_isTurned, rL_areMerged, rL_isAsked, rX2_isSound, room_1]; omega)⟩ (fun v39 h40 n41 c42 => ?_) (fun _ _ _ hx => hx.elim)
                  obtain ⟨c42a, c42b, S_43, c42c⟩ := c42
                  rw [c42a]
                  show mT _ _ _ _ 144 [.retAddr 0, .ref 0, .int (nI k), .int y7, .int (nI j19)] [.int (nI 1)] _ _ _ _
                  refine mt_if_ne dL_law_144 (tgt := 149) rfl (fun q44 => ?_) (fun q44 => ?_)
                  · have q44 := (not_congr (mI_eq0 (by omega))).mp q44
                    refine mp_iinc dL_law_149 rfl (v := nI (k + 1)) mI_inc (ls' := [.retAddr 0, .ref 0, .int (nI (k + 1)), .int y7, .int (nI j19)]) rfl (by decide) rfl ?_
                    refine mt_goto dL_law_152 (tgt := 10) rfl ?_
                    refine mt_drop 3 (ls' := [.retAddr 0, .ref 0, .int (nI (k + 1)), .double 0, .int (nI j19)]) rfl ?_
                    refine mt_drop 4 (ls' := [.retAddr 0, .ref 0, .int (nI (k + 1)), .double 0, .double 0]) rfl ?_
                    refine mt_widen (cc' := 1000 + 11000 * (k + 1)) (sc' := 20000 + 90000 * (k + 1)) (by first | omega | (simp only [rX2_init, rL_cell, rL_pick, rL_act, rL_arePairs, rL_isSorted, rL_isTurned, rL_areMerged, rL_isAsked, rX2_isSound, room_1]; omega)) (by first | omega | (simp only [rX2_init, rL_cell, rL_pick, rL_act, rL_arePairs, rL_isSorted, rL_isTurned, rL_areMerged, rL_isAsked, rX2_isSound, room_1]; omega)) ?_
                    exact ih (k + 1) h40 n41 S_43 (by omega) c42c (by omega) (by omega)
                  · have q44 := (mI_eq0 (by omega)).mp q44
                    exact absurd q44 (by decide)
          · refine mt_iload_n dL_law_74 rfl ?_
            refine mt_iconst dL_law_75 (v := nI 3) rfl ?_
            refine mp_irem dL_law_76 (mI_ne0 (by omega) (by omega)) (v := nI (k % 3)) (pk_rem (by omega) (by omega) (by omega)) ?_
            refine mt_iconst dL_law_77 (v := nI 2) rfl ?_
            refine mt_icmp_ne dL_law_78 (tgt := 107) rfl (fun q45 => ?_) (fun q45 => ?_)
            · have q45 := (not_congr (nI_eq (by omega) (by omega))).mp q45
              exact mt_widen (by first | omega | (simp only [rX2_init, rL_cell, rL_pick, rL_act, rL_arePairs, rL_isSorted, rL_isTurned, rL_areMerged, rL_isAsked, rX2_isSound, room_1]; omega)) (by first | omega | (simp only [rX2_init, rL_cell, rL_pick, rL_act, rL_arePairs, rL_isSorted, rL_isTurned, rL_areMerged, rL_isAsked, rX2_isSound, room_1]; omega)) (kk20 _ _ _ c13c (by omega))
            · have q45 := (nI_eq (by omega) (by omega)).mp q45
              refine mt_aload_n dL_law_81 rfl rfl ?_
              refine mt_iload dL_law_82 rfl ?_
              refine mt_callS (N := mL_arePairs) (Rc := rL_arePairs) (As := [.ref 0, .int (nI j19)]) (st := []) dL_law_84 (kL_arePairs hl c13c (by omega)) sL_arePairs mw_433 rfl (Nat.le_of_ble_eq_true rfl) ⟨⟨Nat.le_of_ble_eq_true rfl, Nat.le_of_ble_eq_true rfl⟩, (by simp only [rX2_init, rL_cell, rL_pick, rL_act, rL_arePairs, rL_isSorted, rL_isTurned, rL_areMerged, rL_isAsked, rX2_isSound, room_1]; omega), (by simp only [rX2_init, rL_cell, rL_pick, rL_act, rL_arePairs, rL_isSorted, rL_isTurned, rL_areMerged, rL_isAsked, rX2_isSound, room_1]; omega)⟩ (fun v46 h47 n48 c49 => ?_) (fun _ _ _ hx => hx.elim)
              obtain ⟨c49a, c49b, S_50, c49c⟩ := c49
              rw [c49a]
              show mT _ _ _ _ 87 [.retAddr 0, .ref 0, .int (nI k), .int y7, .int (nI j19)] [.int (nI 1)] _ _ _ _
              refine mt_if_eq dL_law_87 (tgt := 105) rfl (fun q51 => ?_) (fun q51 => ?_)
              · have q51 := (mI_eq0 (by omega)).mp q51
                exact absurd q51 (by decide)
              · have q51 := (not_congr (mI_eq0 (by omega))).mp q51
                refine mt_aload_n dL_law_90 rfl rfl ?_
                refine mt_iload dL_law_91 rfl ?_
                refine mt_iload_n dL_law_93 rfl ?_
                refine mt_iconst dL_law_94 (v := nI 3) rfl ?_
                refine mt_iconst dL_law_95 (v := nI 4) rfl ?_
                refine mt_callS (N := mL_pick) (Rc := rL_pick) (As := [.int y7, .int (nI 3), .int (nI 4)]) (st := [.int (nI j19), .ref 0]) dL_law_96 (kL_pick hl (by omega) (by omega)) sL_pick mw_203 rfl (Nat.le_of_ble_eq_true rfl) ⟨⟨Nat.le_of_ble_eq_true rfl, Nat.le_of_ble_eq_true rfl⟩, (by simp only [rX2_init, rL_cell, rL_pick, rL_act, rL_arePairs, rL_isSorted, rL_isTurned, rL_areMerged, rL_isAsked, rX2_isSound, room_1]; omega), (by simp only [rX2_init, rL_cell, rL_pick, rL_act, rL_arePairs, rL_isSorted, rL_isTurned, rL_areMerged, rL_isAsked, rX2_isSound, room_1]; omega)⟩ (fun v52 h53 n54 c55 => ?_) (fun _ _ _ hx => hx.elim)
                obtain ⟨j56, hj56, c55a, c55b, c55c⟩ := c55
                rw [c55a, c55b, c55c]
                show mT _ _ _ _ 99 [.retAddr 0, .ref 0, .int (nI k), .int y7, .int (nI j19)] [.int (nI j56), .int (nI j19), .ref 0] _ _ _ _
                refine mt_callS (N := mL_isSorted) (Rc := rL_isSorted) (As := [.ref 0, .int (nI j19), .int (nI j56)]) (st := []) dL_law_99 (kL_isSorted hl c49c (by omega) (by omega) (by omega)) sL_isSorted mw_472 rfl (Nat.le_of_ble_eq_true rfl) ⟨⟨Nat.le_of_ble_eq_true rfl, Nat.le_of_ble_eq_true rfl⟩, (by simp only [rX2_init, rL_cell, rL_pick, rL_act, rL_arePairs, rL_isSorted, rL_isTurned, rL_areMerged, rL_isAsked, rX2_isSound, room_1]; omega), (by simp only [rX2_init, rL_cell, rL_pick, rL_act, rL_arePairs, rL_isSorted, rL_isTurned, rL_areMerged, rL_isAsked, rX2_isSound, room_1]; omega)⟩ (fun v57 h58 n59 c60 => ?_) (fun _ _ _ hx => hx.elim)
                obtain ⟨c60a, c60b, S_61, c60c⟩ := c60
                rw [c60a]
                show mT _ _ _ _ 102 [.retAddr 0, .ref 0, .int (nI k), .int y7, .int (nI j19)] [.int (nI 1)] _ _ _ _
                refine mt_if_ne dL_law_102 (tgt := 107) rfl (fun q62 => ?_) (fun q62 => ?_)
                · have q62 := (not_congr (mI_eq0 (by omega))).mp q62
                  exact mt_widen (by first | omega | (simp only [rX2_init, rL_cell, rL_pick, rL_act, rL_arePairs, rL_isSorted, rL_isTurned, rL_areMerged, rL_isAsked, rX2_isSound, room_1]; omega)) (by first | omega | (simp only [rX2_init, rL_cell, rL_pick, rL_act, rL_arePairs, rL_isSorted, rL_isTurned, rL_areMerged, rL_isAsked, rX2_isSound, room_1]; omega)) (kk20 _ _ _ c60c (by omega))
                · have q62 := (mI_eq0 (by omega)).mp q62
                  exact absurd q62 (by decide)
        · refine mt_iload_n dL_law_48 rfl ?_
          refine mt_iconst dL_law_49 (v := nI 4) rfl ?_
          refine mt_icmp_ge dL_law_50 (tgt := 57) rfl (fun q63 => ?_) (fun q63 => ?_)
          · have q63 := Int32.not_lt.mpr q63
            have q63 := (not_congr (nI_ltI (by omega) (by omega))).mp q63
            refine mt_iload_n dL_law_57 rfl ?_
            refine mt_iconst dL_law_58 (v := nI 1) rfl ?_
            refine mt_iconst dL_law_59 (v := nI 4) rfl ?_
            refine mt_callS (N := mL_pick) (Rc := rL_pick) (As := [.int y7, .int (nI 1), .int (nI 4)]) (st := [.int (nI m8), .int y7, .ref 0]) dL_law_60 (kL_pick hl (by omega) (by omega)) sL_pick mw_203 rfl (Nat.le_of_ble_eq_true rfl) ⟨⟨Nat.le_of_ble_eq_true rfl, Nat.le_of_ble_eq_true rfl⟩, (by simp only [rX2_init, rL_cell, rL_pick, rL_act, rL_arePairs, rL_isSorted, rL_isTurned, rL_areMerged, rL_isAsked, rX2_isSound, room_1]; omega), (by simp only [rX2_init, rL_cell, rL_pick, rL_act, rL_arePairs, rL_isSorted, rL_isTurned, rL_areMerged, rL_isAsked, rX2_isSound, room_1]; omega)⟩ (fun v64 h65 n66 c67 => ?_) (fun _ _ _ hx => hx.elim)
            obtain ⟨j68, hj68, c67a, c67b, c67c⟩ := c67
            rw [c67a, c67b, c67c]
            show mT _ _ _ _ 63 [.retAddr 0, .ref 0, .int (nI k), .int y7, .double 0] [.int (nI j68), .int (nI m8), .int y7, .ref 0] _ _ _ _
            exact mt_widen (by first | omega | (simp only [rX2_init, rL_cell, rL_pick, rL_act, rL_arePairs, rL_isSorted, rL_isTurned, rL_areMerged, rL_isAsked, rX2_isSound, room_1]; omega)) (by first | omega | (simp only [rX2_init, rL_cell, rL_pick, rL_act, rL_arePairs, rL_isSorted, rL_isTurned, rL_areMerged, rL_isAsked, rX2_isSound, room_1]; omega)) (kk9 j68 (by omega))
          · have q63 := Int32.not_le.mp q63
            have q63 := (nI_ltI (by omega) (by omega)).mp q63
            refine mt_iload_n dL_law_53 rfl ?_
            refine mt_goto dL_law_54 (tgt := 63) rfl ?_
            exact mt_widen (by first | omega | (simp only [rX2_init, rL_cell, rL_pick, rL_act, rL_arePairs, rL_isSorted, rL_isTurned, rL_areMerged, rL_isAsked, rX2_isSound, room_1]; omega)) (by first | omega | (simp only [rX2_init, rL_cell, rL_pick, rL_act, rL_arePairs, rL_isSorted, rL_isTurned, rL_areMerged, rL_isAsked, rX2_isSound, room_1]; omega)) (kk9 k (by omega))
      · refine mt_iload_n dL_law_32 rfl ?_
        refine mt_iconst dL_law_33 (v := nI 4) rfl ?_
        refine mt_icmp_ge dL_law_34 (tgt := 41) rfl (fun q69 => ?_) (fun q69 => ?_)
        · have q69 := Int32.not_lt.mpr q69
          have q69 := (not_congr (nI_ltI (by omega) (by omega))).mp q69
          refine mt_iload_n dL_law_41 rfl ?_
          refine mt_iconst dL_law_42 (v := nI 0) rfl ?_
          refine mt_bipush dL_law_43 (v := nI 14) (by decide) ?_
          refine mt_callS (N := mL_pick) (Rc := rL_pick) (As := [.int y7, .int (nI 0), .int (nI 14)]) (st := [.int y7, .ref 0]) dL_law_45 (kL_pick hl (by omega) (by omega)) sL_pick mw_203 rfl (Nat.le_of_ble_eq_true rfl) ⟨⟨Nat.le_of_ble_eq_true rfl, Nat.le_of_ble_eq_true rfl⟩, (by simp only [rX2_init, rL_cell, rL_pick, rL_act, rL_arePairs, rL_isSorted, rL_isTurned, rL_areMerged, rL_isAsked, rX2_isSound, room_1]; omega), (by simp only [rX2_init, rL_cell, rL_pick, rL_act, rL_arePairs, rL_isSorted, rL_isTurned, rL_areMerged, rL_isAsked, rX2_isSound, room_1]; omega)⟩ (fun v70 h71 n72 c73 => ?_) (fun _ _ _ hx => hx.elim)
          obtain ⟨j74, hj74, c73a, c73b, c73c⟩ := c73
          rw [c73a, c73b, c73c]
          show mT _ _ _ _ 48 [.retAddr 0, .ref 0, .int (nI k), .int y7, .double 0] [.int (nI j74), .int y7, .ref 0] _ _ _ _
          exact mt_widen (by first | omega | (simp only [rX2_init, rL_cell, rL_pick, rL_act, rL_arePairs, rL_isSorted, rL_isTurned, rL_areMerged, rL_isAsked, rX2_isSound, room_1]; omega)) (by first | omega | (simp only [rX2_init, rL_cell, rL_pick, rL_act, rL_arePairs, rL_isSorted, rL_isTurned, rL_areMerged, rL_isAsked, rX2_isSound, room_1]; omega)) (kk8 j74 (by omega))
        · have q69 := Int32.not_le.mp q69
          have q69 := (nI_ltI (by omega) (by omega)).mp q69
          refine mt_iconst dL_law_37 (v := nI 0) rfl ?_
          refine mt_goto dL_law_38 (tgt := 48) rfl ?_
          exact mt_widen (by first | omega | (simp only [rX2_init, rL_cell, rL_pick, rL_act, rL_arePairs, rL_isSorted, rL_isTurned, rL_areMerged, rL_isAsked, rX2_isSound, room_1]; omega)) (by first | omega | (simp only [rX2_init, rL_cell, rL_pick, rL_act, rL_arePairs, rL_isSorted, rL_isTurned, rL_areMerged, rL_isAsked, rX2_isSound, room_1]; omega)) (kk8 0 (by omega))
set_option maxRecDepth 100000 in
set_option maxHeartbeats 2000000 in
theorem law_entry {l : Launch} (hl : l.stackTraces = false) {L : Nat} {xs : Nat → Int32} (hL : L ≤ 260) {h : mH} : mT l mLw room_1 (mKl L xs) 0 [.retAddr 0, .double 0, .double 0, .double 0, .double 0] [] h 0 0 0 := by
  show mT _ _ _ _ 0 [.retAddr 0, .double 0, .double 0, .double 0, .double 0] [] _ _ _ _
  refine mp_new mKX2 dL_law_0 mw_35 mw_36 mw_16 (fs := [.null, .null, .int (nI 0), .int (nI 0), .int (nI 0), .int (nI 0)]) mDX2 (mdf_ok rfl) (by simp only [rX2_init, rL_cell, rL_pick, rL_act, rL_arePairs, rL_isSorted, rL_isTurned, rL_areMerged, rL_isAsked, rX2_isSound, room_1]; omega) (by simp only [rX2_init, rL_cell, rL_pick, rL_act, rL_arePairs, rL_isSorted, rL_isTurned, rL_areMerged, rL_isAsked, rX2_isSound, room_1]; omega) (fun h1 e2 f3 => ?_)
  refine mt_dup dL_law_3 rfl ?_
  refine mt_callI (N := mX2_init) (Rc := rX2_init) (As := []) (st := [.ref 0]) dL_law_4 (kX2_init hl e2) sX2_init mw_37 rfl (Nat.le_of_ble_eq_true rfl) ⟨⟨Nat.le_of_ble_eq_true rfl, Nat.le_of_ble_eq_true rfl⟩, (by simp only [rX2_init, rL_cell, rL_pick, rL_act, rL_arePairs, rL_isSorted, rL_isTurned, rL_areMerged, rL_isAsked, rX2_isSound, room_1]; omega), (by simp only [rX2_init, rL_cell, rL_pick, rL_act, rL_arePairs, rL_isSorted, rL_isTurned, rL_areMerged, rL_isAsked, rX2_isSound, room_1]; omega)⟩ (fun v4 h5 n6 c7 => ?_)
  obtain ⟨c7a, c7b, c7c⟩ := c7
  rw [c7a, c7b]
  show mT _ _ _ _ 7 [.retAddr 0, .double 0, .double 0, .double 0, .double 0] [.ref 0] _ _ _ _
  refine mp_astore_n dL_law_7 (ls' := [.retAddr 0, .ref 0, .double 0, .double 0, .double 0]) rfl rfl (by decide) rfl ?_
  refine mt_widen (cc' := 1000 + 11000 * 0) (sc' := 20000 + 90000 * 0) (by first | omega | (simp only [rX2_init, rL_cell, rL_pick, rL_act, rL_arePairs, rL_isSorted, rL_isTurned, rL_areMerged, rL_isAsked, rX2_isSound, room_1]; omega)) (by first | omega | (simp only [rX2_init, rL_cell, rL_pick, rL_act, rL_arePairs, rL_isSorted, rL_isTurned, rL_areMerged, rL_isAsked, rX2_isSound, room_1]; omega)) ?_
  refine mt_iconst dL_law_8 (v := nI 0) rfl ?_
  refine mp_istore_n dL_law_9 (ls' := [.retAddr 0, .ref 0, .int (nI 0), .double 0, .double 0]) rfl (by decide) rfl ?_
  refine tL_law_10 hl (fun k_8 h_9 n_10 S_11 z12 => ?_) _ 0 h5 27 cS0 (Nat.lt_succ_self _) c7c (by omega) (by omega)
  refine mt_aload_n dL_law_155 rfl rfl ?_
  refine mt_callV (N := mX2_isSound) (Rc := rX2_isSound) (As := []) (st := []) dL_law_156 (kX2_isSound hl z12) sX2_isSound mw_114 mKX2 rfl z12.1 rfl (Nat.le_of_ble_eq_true rfl) ⟨⟨Nat.le_of_ble_eq_true rfl, Nat.le_of_ble_eq_true rfl⟩, (by simp only [rX2_init, rL_cell, rL_pick, rL_act, rL_arePairs, rL_isSorted, rL_isTurned, rL_areMerged, rL_isAsked, rX2_isSound, room_1]; omega), (by simp only [rX2_init, rL_cell, rL_pick, rL_act, rL_arePairs, rL_isSorted, rL_isTurned, rL_areMerged, rL_isAsked, rX2_isSound, room_1]; omega)⟩ (fun v13 h14 n15 c16 => ?_) (fun _ _ _ hx => hx.elim)
  obtain ⟨c160, c16a, c16b, c16c, c16d⟩ := c16
  have c16v : v13 = some (.int (mb (q_sound S_11))) := c16a
  rw [c16v, c16b, sound_eq z12]
  rw [mb_t]
  show mT _ _ _ _ 159 [.retAddr 0, .ref 0, .int (nI k_8), .double 0, .double 0] [.int (nI 1)] _ _ _ _
  exact mx_end dL_law_159 (by first | omega | (simp only [rX2_init, rL_cell, rL_pick, rL_act, rL_arePairs, rL_isSorted, rL_isTurned, rL_areMerged, rL_isAsked, rX2_isSound, room_1]; omega)) (by first | omega | (simp only [rX2_init, rL_cell, rL_pick, rL_act, rL_arePairs, rL_isSorted, rL_isTurned, rL_areMerged, rL_isAsked, rX2_isSound, room_1]; omega))
