/-! ===== the class: acts ===== -/
/-- from .. to within a row of L -/
def dKeep (S : cS) (L : Nat) (x y : Int32) (f : Nat → Nat → Nat × Value × cS) : Nat × Value × cS := if x < 0 ∨ y < x ∨ nI L < y then (1, .null, S) else f x.toNatClampNeg y.toNatClampNeg
theorem keep_in {L : Nat} {x y : Int32} (h1 : ¬ x < 0) (h2 : ¬ y < x) (h3 : ¬ nI L < y) (hL : L < 2 ^ 30) : ∃ p, p < L + 1 ∧ ∃ t, t < L + 1 ∧ p ≤ t ∧ x = nI p ∧ y = nI t := by
  obtain ⟨p, hp, rfl⟩ := nI_of h1
  have h4 : ¬ y < 0 := fun z => h2 (by
    rw [Int32.lt_iff_toInt_lt] at *
    have e0 : (0 : Int32).toInt = 0 := by decide
    have e1 := nI_toInt hp
    omega)
  obtain ⟨t, ht, rfl⟩ := nI_of h4
  have h5 := (not_congr (nI_ltI ht hp)).mp h2
  have h6 := (not_congr (nI_ltI (by omega) ht)).mp h3
  exact ⟨p, by omega, t, by omega, by omega, rfl, rfl⟩
theorem keep_pos {S : cS} {L p t : Nat} {f : Nat → Nat → Nat × Value × cS} (hpt : p ≤ t) (ht : t < L + 1) (hL : L < 2 ^ 30) : dKeep S L (nI p) (nI t) f = f p t := by
  unfold dKeep
  rw [if_neg, nI_clamp (by omega), nI_clamp (by omega)]
  rintro (h | h | h)
  · exact nI_pos (by omega) h
  · exact nI_nlt hpt (by omega) h
  · exact nI_nlt (by omega) (by omega) h
theorem keep_neg {S : cS} {L : Nat} {x y : Int32} {f : Nat → Nat → Nat × Value × cS} (h : x < 0 ∨ y < x ∨ nI L < y) : dKeep S L x y f = (1, .null, S) := if_pos h
def sp_clear (S : cS) (row : Int32) : Nat × Value × cS := dAt S 4 row fun r => (0, .int (nI (S.1 r).length), cAct (cSet S r []))
abbrev rX2_clear : Room := { frames := 7, cells := 1, slots := 6, locals := 111 }
set_option maxRecDepth 100000 in
set_option maxHeartbeats 2000000 in
theorem kX2_clear {l : Launch} (hl : l.stackTraces = false) {h : mH} {n : Nat} {S : cS} {row : Int32} (C : cAt h S) : mC l mX2_clear rX2_clear [.ref 0, .int row] h n (cOk (sp_clear S row) h n) (cNo (sp_clear S row).1 h n) := by
  obtain ⟨C0, ⟨cg, C1, C1g⟩, C14, CR, ⟨zs15, HK15⟩, ⟨zs18, HK18⟩, ⟨zs21, HK21⟩, ⟨zs24, HK24⟩⟩ := id C
  refine mm_enter hl (by decide +kernel) rfl rfl rfl (Nat.le_of_ble_eq_true rfl) ?_
  show mT _ _ _ _ 0 [.ref 0, .int row, .double 0, .double 0] [] _ _ 0 0
  refine mt_aload_n dX2_clear_0 rfl rfl ?_
  refine mt_iload_n dX2_clear_1 rfl ?_
  refine mt_callV (N := mX2_rowOf) (Rc := rX2_rowOf) (As := [.int row]) (st := []) dX2_clear_2 (kX2_rowOf hl C) sX2_rowOf mw_230 mKX2 rfl C0 rfl (Nat.le_of_ble_eq_true rfl) ⟨⟨Nat.le_of_ble_eq_true rfl, Nat.le_of_ble_eq_true rfl⟩, Nat.le_of_ble_eq_true rfl, Nat.le_of_ble_eq_true rfl⟩ (fun v1 h2 n3 c4 => ?_) (fun E h9 n9 hx => mt_out rfl (by obtain ⟨rfl, hq, rfl, rfl⟩ := hx; exact cNo.i (by simp only [sp_clear, dAt_n hq])) (Nat.le_of_ble_eq_true rfl) (Nat.le_of_ble_eq_true rfl))
  obtain ⟨r5, hr5, rfl, c4a, c4b, c4c⟩ := c4
  rw [c4a, c4b, c4c]
  have hLr5 := (CR r5 hr5).len
  show mT _ _ _ _ 5 [.ref 0, .int (nI r5), .double 0, .double 0] [.ref (2 + 3 * r5)] _ _ _ _
  refine mp_astore_n dX2_clear_5 (ls' := [.ref 0, .int (nI r5), .ref (2 + 3 * r5), .double 0]) rfl rfl (by decide) rfl ?_
  refine mt_aload_n dX2_clear_6 rfl rfl ?_
  obtain ⟨f_6, g_6, ea_6, ek_6, es_6, ql_6, qr_6, qk_6, qt_6⟩ := id CR r5 (by omega)
  refine mt_getfield mKX1 (i := 3) (by decide) mw_76 dX2_clear_7 ea_6 rfl ?_
  refine mp_istore_n dX2_clear_10 (ls' := [.ref 0, .int (nI r5), .ref (2 + 3 * r5), .int (nI ((S.1 r5).length))]) rfl (by decide) rfl ?_
  refine mt_aload_n dX2_clear_11 rfl rfl ?_
  have H7 : rowAt h (2 + 3 * r5) (rroom r5) (mb (decide (r5 < 2))) (S.1 r5) := CR r5 (by omega)
  refine mt_callV (N := mX1_empty) (Rc := rX1_empty) (As := []) (st := []) dX2_clear_12 (kX1_empty hl H7) sX1_empty mw_407 mKX1 rfl ea_6 rfl (Nat.le_of_ble_eq_true rfl) ⟨⟨Nat.le_of_ble_eq_true rfl, Nat.le_of_ble_eq_true rfl⟩, Nat.le_of_ble_eq_true rfl, Nat.le_of_ble_eq_true rfl⟩ (fun v8 h9 n10 c11 => ?_) (fun _ _ _ hx => hx.elim)
  obtain ⟨c11a, c11b, c11c, c11d⟩ := c11
  rw [c11a, c11b]
  show mT _ _ _ _ 15 [.ref 0, .int (nI r5), .ref (2 + 3 * r5), .int (nI ((S.1 r5).length))] [] _ _ _ _
  refine mt_aload_n dX2_clear_15 rfl rfl ?_
  refine mt_iload_n dX2_clear_16 rfl ?_
  refine mt_callV (N := mX2_done) (Rc := rX2_done) (As := [.int (nI ((S.1 r5).length))]) (st := []) dX2_clear_17 (kX2_done hl ((c11d (0) (by omega)).trans C0)) sX2_done mw_430 mKX2 rfl ((c11d (0) (by omega)).trans C0) rfl (Nat.le_of_ble_eq_true rfl) ⟨⟨Nat.le_of_ble_eq_true rfl, Nat.le_of_ble_eq_true rfl⟩, Nat.le_of_ble_eq_true rfl, Nat.le_of_ble_eq_true rfl⟩ (fun v12 h13 n14 c15 => ?_) (fun _ _ _ hx => hx.elim)
  obtain ⟨c15a, c15b, c15c, c15d⟩ := c15
  rw [c15a, c15b]
  show mT _ _ _ _ 20 [.ref 0, .int (nI r5), .ref (2 + 3 * r5), .int (nI ((S.1 r5).length))] [.int (nI ((S.1 r5).length))] _ _ _ _
  refine mt_ireturn dX2_clear_20 rfl rfl (Nat.le_of_ble_eq_true rfl) (Nat.le_of_ble_eq_true rfl) ?_
  exact cOk.of (x := .int (nI ((S.1 r5).length))) (S' := (fun k => if k = r5 then [] else S.1 k, S.2.1, S.2.2.1 + nI 1, S.2.2.2.1, S.2.2.2.2)) (by simp only [sp_clear, dAt_s hr5 (by decide)] <;> rfl) rfl rfl ⟨c15c, ⟨cg, (c15d (1) (by omega)).trans ((c11d (1) (by omega)).trans C1), C1g⟩, (c15d (14) (by omega)).trans ((c11d (14) (by omega)).trans C14), cRows CR (by omega) ((c11c).fr (fun j j1 j2 => c15d j (by omega))) (fun j j1 j2 j3 => (c15d j (by omega)).trans (c11d j (by omega))), ⟨_, ((HK15).fr (fun j j1 j2 => c11d j (by omega))).fr (fun j j1 j2 => c15d j (by omega))⟩, ⟨_, ((HK18).fr (fun j j1 j2 => c11d j (by omega))).fr (fun j j1 j2 => c15d j (by omega))⟩, ⟨_, ((HK21).fr (fun j j1 j2 => c11d j (by omega))).fr (fun j j1 j2 => c15d j (by omega))⟩, ⟨_, ((HK24).fr (fun j j1 j2 => c11d j (by omega))).fr (fun j j1 j2 => c15d j (by omega))⟩⟩ (fun j hj => (c15d j (by omega)).trans (c11d j (by omega)))
def sp_drop (S : cS) (row : Int32) (place : Int32) : Nat × Value × cS := dAt S 4 row fun r => dAt S (S.1 r).length place fun p => (0, .int (xk (S.1 r) p), cAct (cSet S r (span (S.1 r) 0 p ++ span (S.1 r) (p + 1) (S.1 r).length)))
abbrev rX2_drop : Room := { frames := 8, cells := 2, slots := 12, locals := 131 }
set_option maxRecDepth 100000 in
set_option maxHeartbeats 2000000 in
theorem kX2_drop {l : Launch} (hl : l.stackTraces = false) {h : mH} {n : Nat} {S : cS} {row : Int32} {place : Int32} (C : cAt h S) : mC l mX2_drop rX2_drop [.ref 0, .int row, .int place] h n (cOk (sp_drop S row place) h n) (cNo (sp_drop S row place).1 h n) := by
  obtain ⟨C0, ⟨cg, C1, C1g⟩, C14, CR, ⟨zs15, HK15⟩, ⟨zs18, HK18⟩, ⟨zs21, HK21⟩, ⟨zs24, HK24⟩⟩ := id C
  refine mm_enter hl (by decide +kernel) rfl rfl rfl (Nat.le_of_ble_eq_true rfl) ?_
  show mT _ _ _ _ 0 [.ref 0, .int row, .int place, .double 0, .double 0, .double 0] [] _ _ 0 0
  refine mt_aload_n dX2_drop_0 rfl rfl ?_
  refine mt_iload_n dX2_drop_1 rfl ?_
  refine mt_callV (N := mX2_rowOf) (Rc := rX2_rowOf) (As := [.int row]) (st := []) dX2_drop_2 (kX2_rowOf hl C) sX2_rowOf mw_230 mKX2 rfl C0 rfl (Nat.le_of_ble_eq_true rfl) ⟨⟨Nat.le_of_ble_eq_true rfl, Nat.le_of_ble_eq_true rfl⟩, Nat.le_of_ble_eq_true rfl, Nat.le_of_ble_eq_true rfl⟩ (fun v1 h2 n3 c4 => ?_) (fun E h9 n9 hx => mt_out rfl (by obtain ⟨rfl, hq, rfl, rfl⟩ := hx; exact cNo.i (by simp only [sp_drop, dAt_n hq])) (Nat.le_of_ble_eq_true rfl) (Nat.le_of_ble_eq_true rfl))
  obtain ⟨r5, hr5, rfl, c4a, c4b, c4c⟩ := c4
  rw [c4a, c4b, c4c]
  have hLr5 := (CR r5 hr5).len
  show mT _ _ _ _ 5 [.ref 0, .int (nI r5), .int place, .double 0, .double 0, .double 0] [.ref (2 + 3 * r5)] _ _ _ _
  refine mp_astore_n dX2_drop_5 (ls' := [.ref 0, .int (nI r5), .int place, .ref (2 + 3 * r5), .double 0, .double 0]) rfl rfl (by decide) rfl ?_
  refine mt_aload_n dX2_drop_6 rfl rfl ?_
  refine mt_iload_n dX2_drop_7 rfl ?_
  have H6 : rowAt h (2 + 3 * r5) (rroom r5) (mb (decide (r5 < 2))) (S.1 r5) := CR r5 (by omega)
  refine mt_callS (N := mX2_demandPlace) (Rc := rX2_demandPlace) (As := [.ref (2 + 3 * r5), .int place]) (st := []) dX2_drop_8 (kX2_demandPlace hl H6) sX2_demandPlace mw_457 rfl (Nat.le_of_ble_eq_true rfl) ⟨⟨Nat.le_of_ble_eq_true rfl, Nat.le_of_ble_eq_true rfl⟩, Nat.le_of_ble_eq_true rfl, Nat.le_of_ble_eq_true rfl⟩ (fun v7 h8 n9 c10 => ?_) (fun E h9 n9 hx => mt_out rfl (by obtain ⟨rfl, hq, rfl, rfl⟩ := hx; exact cNo.i (by simp only [sp_drop, dAt_n hq, dAt_s hr5 (by decide)])) (Nat.le_of_ble_eq_true rfl) (Nat.le_of_ble_eq_true rfl))
  obtain ⟨p11, hp11, rfl, c10a, c10b, c10c⟩ := c10
  rw [c10a, c10b, c10c]
  have hLp11 := (H6).len
  show mT _ _ _ _ 11 [.ref 0, .int (nI r5), .int (nI p11), .ref (2 + 3 * r5), .double 0, .double 0] [] _ _ _ _
  refine mt_aload_n dX2_drop_11 rfl rfl ?_
  obtain ⟨f_12, g_12, ea_12, ek_12, es_12, ql_12, qr_12, qk_12, qt_12⟩ := id H6
  refine mt_getfield mKX1 (i := 0) (by decide) mw_68 dX2_drop_12 ea_12 rfl ?_
  refine mt_iload_n dX2_drop_15 rfl ?_
  refine mp_iaload dX2_drop_16 ek_12 rfl (by omega) (by omega) (v := xk (S.1 r5) p11) (qk_12 _ (by omega)) ?_
  refine mp_istore dX2_drop_17 (ls' := [.ref 0, .int (nI r5), .int (nI p11), .ref (2 + 3 * r5), .int (xk (S.1 r5) p11), .double 0]) rfl (by decide) rfl ?_
  refine mt_aload_n dX2_drop_19 rfl rfl ?_
  refine mt_getfield mKX2 (i := 1) (by decide) mw_113 dX2_drop_20 C0 rfl ?_
  refine mt_getfield mKX0 (i := 2) (by decide) mw_101 dX2_drop_23 C14 rfl ?_
  refine mp_astore dX2_drop_26 (ls' := [.ref 0, .int (nI r5), .int (nI p11), .ref (2 + 3 * r5), .int (xk (S.1 r5) p11), .ref 21]) rfl rfl (by decide) rfl ?_
  refine mt_aload dX2_drop_28 rfl rfl ?_
  obtain ⟨f_17, g_17, ea_17, ek_17, es_17, ql_17, qr_17, qk_17, qt_17⟩ := id HK21
  refine mt_callV (N := mX1_empty) (Rc := rX1_empty) (As := []) (st := []) dX2_drop_30 (kX1_empty hl HK21) sX1_empty mw_407 mKX1 rfl ea_17 rfl (Nat.le_of_ble_eq_true rfl) ⟨⟨Nat.le_of_ble_eq_true rfl, Nat.le_of_ble_eq_true rfl⟩, Nat.le_of_ble_eq_true rfl, Nat.le_of_ble_eq_true rfl⟩ (fun v13 h14 n15 c16 => ?_) (fun _ _ _ hx => hx.elim)
  obtain ⟨c16a, c16b, c16c, c16d⟩ := c16
  rw [c16a, c16b]
  show mT _ _ _ _ 33 [.ref 0, .int (nI r5), .int (nI p11), .ref (2 + 3 * r5), .int (xk (S.1 r5) p11), .ref 21] [] _ _ _ _
  refine mt_aload dX2_drop_33 rfl rfl ?_
  refine mt_aload_n dX2_drop_35 rfl rfl ?_
  refine mt_iconst dX2_drop_36 (v := nI 0) rfl ?_
  refine mt_iload_n dX2_drop_37 rfl ?_
  have H18 : rowAt h14 (2 + 3 * r5) (rroom r5) (mb (decide (r5 < 2))) (S.1 r5) := (H6).fr (fun j j1 j2 => c16d j (by omega))
  obtain ⟨f_23, g_23, ea_23, ek_23, es_23, ql_23, qr_23, qk_23, qt_23⟩ := id c16c
  refine mt_callV (N := mX1_appendSpan) (Rc := rX1_appendSpan) (As := [.ref (2 + 3 * r5), .int (nI 0), .int (nI p11)]) (st := []) dX2_drop_38 (kX1_appendSpan hl c16c H18 (by omega) (by omega) (by first | omega | assumption | (simp only [List.length_append, List.length_cons, List.length_nil, span_len, Nat.sub_zero] at *; omega)) (by omega)) sX1_appendSpan mw_211 mKX1 rfl ea_23 rfl (Nat.le_of_ble_eq_true rfl) ⟨⟨Nat.le_of_ble_eq_true rfl, Nat.le_of_ble_eq_true rfl⟩, Nat.le_of_ble_eq_true rfl, Nat.le_of_ble_eq_true rfl⟩ (fun v19 h20 n21 c22 => ?_) (fun _ _ _ hx => hx.elim)
  have sl42 := span_len (ys := S.1 r5) (i := 0) (e := p11) (by omega)
  obtain ⟨c22a, c22b, c22c, c22d⟩ := c22
  rw [c22a, c22b]
  show mT _ _ _ _ 41 [.ref 0, .int (nI r5), .int (nI p11), .ref (2 + 3 * r5), .int (xk (S.1 r5) p11), .ref 21] [] _ _ _ _
  refine mt_aload dX2_drop_41 rfl rfl ?_
  refine mt_aload_n dX2_drop_43 rfl rfl ?_
  refine mt_iload_n dX2_drop_44 rfl ?_
  refine mt_iconst dX2_drop_45 (v := nI 1) rfl ?_
  refine mp_iadd dX2_drop_46 (v := nI (p11 + 1)) (nI_add _ _) ?_
  refine mt_aload_n dX2_drop_47 rfl rfl ?_
  refine mt_getfield mKX1 (i := 3) (by decide) mw_76 dX2_drop_48 ((c22d (2 + 3 * r5) (by omega)).trans ((c16d (2 + 3 * r5) (by omega)).trans ea_12)) rfl ?_
  have H24 : rowAt h20 (2 + 3 * r5) (rroom r5) (mb (decide (r5 < 2))) (S.1 r5) := (H18).fr (fun j j1 j2 => c22d j (by omega))
  obtain ⟨f_29, g_29, ea_29, ek_29, es_29, ql_29, qr_29, qk_29, qt_29⟩ := id c22c
  refine mt_callV (N := mX1_appendSpan) (Rc := rX1_appendSpan) (As := [.ref (2 + 3 * r5), .int (nI (p11 + 1)), .int (nI ((S.1 r5).length))]) (st := []) dX2_drop_51 (kX1_appendSpan hl c22c H24 (by omega) (by omega) (by first | omega | assumption | (simp only [List.length_append, List.length_cons, List.length_nil, span_len, Nat.sub_zero] at *; omega)) (by omega)) sX1_appendSpan mw_211 mKX1 rfl ea_29 rfl (Nat.le_of_ble_eq_true rfl) ⟨⟨Nat.le_of_ble_eq_true rfl, Nat.le_of_ble_eq_true rfl⟩, Nat.le_of_ble_eq_true rfl, Nat.le_of_ble_eq_true rfl⟩ (fun v25 h26 n27 c28 => ?_) (fun _ _ _ hx => hx.elim)
  have sl56 := span_len (ys := S.1 r5) (i := p11 + 1) (e := (S.1 r5).length) (by omega)
  obtain ⟨c28a, c28b, c28c, c28d⟩ := c28
  rw [c28a, c28b]
  show mT _ _ _ _ 54 [.ref 0, .int (nI r5), .int (nI p11), .ref (2 + 3 * r5), .int (xk (S.1 r5) p11), .ref 21] [] _ _ _ _
  refine mt_aload_n dX2_drop_54 rfl rfl ?_
  refine mt_aload dX2_drop_55 rfl rfl ?_
  have H30 : rowAt h26 (2 + 3 * r5) (rroom r5) (mb (decide (r5 < 2))) (S.1 r5) := (H24).fr (fun j j1 j2 => c28d j (by omega))
  refine mt_callV (N := mX1_become) (Rc := rX1_become) (As := [.ref 21]) (st := []) dX2_drop_57 (kX1_become hl H30 c28c (by omega) (by first | omega | assumption | (simp only [List.length_append, List.length_cons, List.length_nil, span_len, Nat.sub_zero] at *; omega))) sX1_become mw_210 mKX1 rfl ((c28d (2 + 3 * r5) (by omega)).trans ((c22d (2 + 3 * r5) (by omega)).trans ((c16d (2 + 3 * r5) (by omega)).trans ea_12))) rfl (Nat.le_of_ble_eq_true rfl) ⟨⟨Nat.le_of_ble_eq_true rfl, Nat.le_of_ble_eq_true rfl⟩, Nat.le_of_ble_eq_true rfl, Nat.le_of_ble_eq_true rfl⟩ (fun v31 h32 n33 c34 => ?_) (fun _ _ _ hx => hx.elim)
  obtain ⟨c34a, c34b, c34c, c34d⟩ := c34
  rw [c34a, c34b]
  show mT _ _ _ _ 60 [.ref 0, .int (nI r5), .int (nI p11), .ref (2 + 3 * r5), .int (xk (S.1 r5) p11), .ref 21] [] _ _ _ _
  refine mt_aload_n dX2_drop_60 rfl rfl ?_
  refine mt_iload dX2_drop_61 rfl ?_
  refine mt_callV (N := mX2_done) (Rc := rX2_done) (As := [.int (xk (S.1 r5) p11)]) (st := []) dX2_drop_63 (kX2_done hl ((c34d (0) (by omega)).trans ((c28d (0) (by omega)).trans ((c22d (0) (by omega)).trans ((c16d (0) (by omega)).trans C0))))) sX2_done mw_430 mKX2 rfl ((c34d (0) (by omega)).trans ((c28d (0) (by omega)).trans ((c22d (0) (by omega)).trans ((c16d (0) (by omega)).trans C0)))) rfl (Nat.le_of_ble_eq_true rfl) ⟨⟨Nat.le_of_ble_eq_true rfl, Nat.le_of_ble_eq_true rfl⟩, Nat.le_of_ble_eq_true rfl, Nat.le_of_ble_eq_true rfl⟩ (fun v35 h36 n37 c38 => ?_) (fun _ _ _ hx => hx.elim)
  obtain ⟨c38a, c38b, c38c, c38d⟩ := c38
  rw [c38a, c38b]
  show mT _ _ _ _ 66 [.ref 0, .int (nI r5), .int (nI p11), .ref (2 + 3 * r5), .int (xk (S.1 r5) p11), .ref 21] [.int (xk (S.1 r5) p11)] _ _ _ _
  refine mt_ireturn dX2_drop_66 rfl rfl (Nat.le_of_ble_eq_true rfl) (Nat.le_of_ble_eq_true rfl) ?_
  exact cOk.of (x := .int (xk (S.1 r5) p11)) (S' := (fun k => if k = r5 then (([]) ++ span (S.1 r5) 0 p11) ++ span (S.1 r5) (p11 + 1) ((S.1 r5).length) else S.1 k, S.2.1, S.2.2.1 + nI 1, S.2.2.2.1, S.2.2.2.2)) (by simp only [sp_drop, dAt_s hr5 (by decide), dAt_s hp11 (by omega)] <;> rfl) rfl rfl ⟨c38c, ⟨cg, (c38d (1) (by omega)).trans ((c34d (1) (by omega)).trans ((c28d (1) (by omega)).trans ((c22d (1) (by omega)).trans ((c16d (1) (by omega)).trans C1)))), C1g⟩, (c38d (14) (by omega)).trans ((c34d (14) (by omega)).trans ((c28d (14) (by omega)).trans ((c22d (14) (by omega)).trans ((c16d (14) (by omega)).trans C14)))), cRows CR (by omega) ((c34c).fr (fun j j1 j2 => c38d j (by omega))) (fun j j1 j2 j3 => (c38d j (by omega)).trans ((c34d j (by omega)).trans ((c28d j (by omega)).trans ((c22d j (by omega)).trans (c16d j (by omega)))))), ⟨_, (((((HK15).fr (fun j j1 j2 => c16d j (by omega))).fr (fun j j1 j2 => c22d j (by omega))).fr (fun j j1 j2 => c28d j (by omega))).fr (fun j j1 j2 => c34d j (by omega))).fr (fun j j1 j2 => c38d j (by omega))⟩, ⟨_, (((((HK18).fr (fun j j1 j2 => c16d j (by omega))).fr (fun j j1 j2 => c22d j (by omega))).fr (fun j j1 j2 => c28d j (by omega))).fr (fun j j1 j2 => c34d j (by omega))).fr (fun j j1 j2 => c38d j (by omega))⟩, ⟨_, ((c28c).fr (fun j j1 j2 => c34d j (by omega))).fr (fun j j1 j2 => c38d j (by omega))⟩, ⟨_, (((((HK24).fr (fun j j1 j2 => c16d j (by omega))).fr (fun j j1 j2 => c22d j (by omega))).fr (fun j j1 j2 => c28d j (by omega))).fr (fun j j1 j2 => c34d j (by omega))).fr (fun j j1 j2 => c38d j (by omega))⟩⟩ (fun j hj => (c38d j (by omega)).trans ((c34d j (by omega)).trans ((c28d j (by omega)).trans ((c22d j (by omega)).trans (c16d j (by omega))))))
def sp_exchange (S : cS) (row : Int32) (place : Int32) : Nat × Value × cS := dAt S 4 row fun r => dAt S ((S.1 r).length - 1) place fun p => (0, .int (q_wrongerByExchange (S.1 r) p), cAct (cSet S r (swp (S.1 r) p (p + 1))))
abbrev rX2_exchange : Room := { frames := 8, cells := 2, slots := 12, locals := 131 }
set_option maxRecDepth 100000 in
set_option maxHeartbeats 2000000 in
theorem kX2_exchange {l : Launch} (hl : l.stackTraces = false) {h : mH} {n : Nat} {S : cS} {row : Int32} {place : Int32} (C : cAt h S) : mC l mX2_exchange rX2_exchange [.ref 0, .int row, .int place] h n (cOk (sp_exchange S row place) h n) (cNo (sp_exchange S row place).1 h n) := by
  obtain ⟨C0, ⟨cg, C1, C1g⟩, C14, CR, ⟨zs15, HK15⟩, ⟨zs18, HK18⟩, ⟨zs21, HK21⟩, ⟨zs24, HK24⟩⟩ := id C
  refine mm_enter hl (by decide +kernel) rfl rfl rfl (Nat.le_of_ble_eq_true rfl) ?_
  show mT _ _ _ _ 0 [.ref 0, .int row, .int place, .double 0, .double 0] [] _ _ 0 0
  refine mt_aload_n dX2_exchange_0 rfl rfl ?_
  refine mt_iload_n dX2_exchange_1 rfl ?_
  refine mt_callV (N := mX2_rowOf) (Rc := rX2_rowOf) (As := [.int row]) (st := []) dX2_exchange_2 (kX2_rowOf hl C) sX2_rowOf mw_230 mKX2 rfl C0 rfl (Nat.le_of_ble_eq_true rfl) ⟨⟨Nat.le_of_ble_eq_true rfl, Nat.le_of_ble_eq_true rfl⟩, Nat.le_of_ble_eq_true rfl, Nat.le_of_ble_eq_true rfl⟩ (fun v1 h2 n3 c4 => ?_) (fun E h9 n9 hx => mt_out rfl (by obtain ⟨rfl, hq, rfl, rfl⟩ := hx; exact cNo.i (by simp only [sp_exchange, dAt_n hq])) (Nat.le_of_ble_eq_true rfl) (Nat.le_of_ble_eq_true rfl))
  obtain ⟨r5, hr5, rfl, c4a, c4b, c4c⟩ := c4
  rw [c4a, c4b, c4c]
  have hLr5 := (CR r5 hr5).len
  show mT _ _ _ _ 5 [.ref 0, .int (nI r5), .int place, .double 0, .double 0] [.ref (2 + 3 * r5)] _ _ _ _
  refine mp_astore_n dX2_exchange_5 (ls' := [.ref 0, .int (nI r5), .int place, .ref (2 + 3 * r5), .double 0]) rfl rfl (by decide) rfl ?_
  refine mt_aload_n dX2_exchange_6 rfl rfl ?_
  refine mt_iload_n dX2_exchange_7 rfl ?_
  have H6 : rowAt h (2 + 3 * r5) (rroom r5) (mb (decide (r5 < 2))) (S.1 r5) := CR r5 (by omega)
  refine mt_callS (N := mX2_demandPlaceWithNext) (Rc := rX2_demandPlaceWithNext) (As := [.ref (2 + 3 * r5), .int place]) (st := []) dX2_exchange_8 (kX2_demandPlaceWithNext hl H6) sX2_demandPlaceWithNext mw_485 rfl (Nat.le_of_ble_eq_true rfl) ⟨⟨Nat.le_of_ble_eq_true rfl, Nat.le_of_ble_eq_true rfl⟩, Nat.le_of_ble_eq_true rfl, Nat.le_of_ble_eq_true rfl⟩ (fun v7 h8 n9 c10 => ?_) (fun E h9 n9 hx => mt_out rfl (by obtain ⟨rfl, hq, rfl, rfl⟩ := hx; exact cNo.i (by simp only [sp_exchange, dAt_n hq, dAt_s hr5 (by decide)])) (Nat.le_of_ble_eq_true rfl) (Nat.le_of_ble_eq_true rfl))
  obtain ⟨p11, hp11, rfl, c10a, c10b, c10c⟩ := c10
  rw [c10a, c10b, c10c]
  have hLp11 := (H6).len
  show mT _ _ _ _ 11 [.ref 0, .int (nI r5), .int (nI p11), .ref (2 + 3 * r5), .double 0] [] _ _ _ _
  refine mt_aload_n dX2_exchange_11 rfl rfl ?_
  refine mt_iload_n dX2_exchange_12 rfl ?_
  obtain ⟨f_16, g_16, ea_16, ek_16, es_16, ql_16, qr_16, qk_16, qt_16⟩ := id H6
  refine mt_callV (N := mX1_wrongerByExchange) (Rc := rX1_wrongerByExchange) (As := [.int (nI p11)]) (st := []) dX2_exchange_13 (kX1_wrongerByExchange hl H6 (by omega)) sX1_wrongerByExchange mw_488 mKX1 rfl ea_16 rfl (Nat.le_of_ble_eq_true rfl) ⟨⟨Nat.le_of_ble_eq_true rfl, Nat.le_of_ble_eq_true rfl⟩, Nat.le_of_ble_eq_true rfl, Nat.le_of_ble_eq_true rfl⟩ (fun v12 h13 n14 c15 => ?_) (fun _ _ _ hx => hx.elim)
  obtain ⟨c15a, c15b, c15c⟩ := c15
  rw [c15a, c15b, c15c]
  show mT _ _ _ _ 16 [.ref 0, .int (nI r5), .int (nI p11), .ref (2 + 3 * r5), .double 0] [.int (q_wrongerByExchange (S.1 r5) p11)] _ _ _ _
  refine mp_istore dX2_exchange_16 (ls' := [.ref 0, .int (nI r5), .int (nI p11), .ref (2 + 3 * r5), .int (q_wrongerByExchange (S.1 r5) p11)]) rfl (by decide) rfl ?_
  refine mt_aload_n dX2_exchange_18 rfl rfl ?_
  refine mt_iload_n dX2_exchange_19 rfl ?_
  refine mt_iload_n dX2_exchange_20 rfl ?_
  refine mt_iconst dX2_exchange_21 (v := nI 1) rfl ?_
  refine mp_iadd dX2_exchange_22 (v := nI (p11 + 1)) (nI_add _ _) ?_
  refine mt_callV (N := mX1_trade) (Rc := rX1_trade) (As := [.int (nI p11), .int (nI (p11 + 1))]) (st := []) dX2_exchange_23 (kX1_trade hl H6 (by omega) (by omega)) sX1_trade mw_492 mKX1 rfl ea_16 rfl (Nat.le_of_ble_eq_true rfl) ⟨⟨Nat.le_of_ble_eq_true rfl, Nat.le_of_ble_eq_true rfl⟩, Nat.le_of_ble_eq_true rfl, Nat.le_of_ble_eq_true rfl⟩ (fun v17 h18 n19 c20 => ?_) (fun _ _ _ hx => hx.elim)
  obtain ⟨c20a, c20b, c20c, c20d⟩ := c20
  rw [c20a, c20b]
  show mT _ _ _ _ 26 [.ref 0, .int (nI r5), .int (nI p11), .ref (2 + 3 * r5), .int (q_wrongerByExchange (S.1 r5) p11)] [] _ _ _ _
  refine mt_aload_n dX2_exchange_26 rfl rfl ?_
  refine mt_iload dX2_exchange_27 rfl ?_
  refine mt_callV (N := mX2_done) (Rc := rX2_done) (As := [.int (q_wrongerByExchange (S.1 r5) p11)]) (st := []) dX2_exchange_29 (kX2_done hl ((c20d (0) (by omega)).trans C0)) sX2_done mw_430 mKX2 rfl ((c20d (0) (by omega)).trans C0) rfl (Nat.le_of_ble_eq_true rfl) ⟨⟨Nat.le_of_ble_eq_true rfl, Nat.le_of_ble_eq_true rfl⟩, Nat.le_of_ble_eq_true rfl, Nat.le_of_ble_eq_true rfl⟩ (fun v21 h22 n23 c24 => ?_) (fun _ _ _ hx => hx.elim)
  obtain ⟨c24a, c24b, c24c, c24d⟩ := c24
  rw [c24a, c24b]
  show mT _ _ _ _ 32 [.ref 0, .int (nI r5), .int (nI p11), .ref (2 + 3 * r5), .int (q_wrongerByExchange (S.1 r5) p11)] [.int (q_wrongerByExchange (S.1 r5) p11)] _ _ _ _
  refine mt_ireturn dX2_exchange_32 rfl rfl (Nat.le_of_ble_eq_true rfl) (Nat.le_of_ble_eq_true rfl) ?_
  exact cOk.of (x := .int (q_wrongerByExchange (S.1 r5) p11)) (S' := (fun k => if k = r5 then swp (S.1 r5) p11 (p11 + 1) else S.1 k, S.2.1, S.2.2.1 + nI 1, S.2.2.2.1, S.2.2.2.2)) (by simp only [sp_exchange, dAt_s hr5 (by decide), dAt_s hp11 (by omega)] <;> rfl) rfl rfl ⟨c24c, ⟨cg, (c24d (1) (by omega)).trans ((c20d (1) (by omega)).trans C1), C1g⟩, (c24d (14) (by omega)).trans ((c20d (14) (by omega)).trans C14), cRows CR (by omega) ((c20c).fr (fun j j1 j2 => c24d j (by omega))) (fun j j1 j2 j3 => (c24d j (by omega)).trans (c20d j (by omega))), ⟨_, ((HK15).fr (fun j j1 j2 => c20d j (by omega))).fr (fun j j1 j2 => c24d j (by omega))⟩, ⟨_, ((HK18).fr (fun j j1 j2 => c20d j (by omega))).fr (fun j j1 j2 => c24d j (by omega))⟩, ⟨_, ((HK21).fr (fun j j1 j2 => c20d j (by omega))).fr (fun j j1 j2 => c24d j (by omega))⟩, ⟨_, ((HK24).fr (fun j j1 j2 => c20d j (by omega))).fr (fun j j1 j2 => c24d j (by omega))⟩⟩ (fun j hj => (c24d j (by omega)).trans (c20d j (by omega)))
def sp_swap (S : cS) (row : Int32) (place : Int32) (other : Int32) : Nat × Value × cS := dAt S 4 row fun r => dAt S (S.1 r).length place fun p => dAt S (S.1 r).length other fun q => (0, .int (if xk (S.1 r) p = xk (S.1 r) q then nI 0 else nI 1), cAct (cSet S r (swp (S.1 r) p q)))
abbrev rX2_swap : Room := { frames := 8, cells := 3, slots := 18, locals := 131 }
set_option maxRecDepth 100000 in
set_option maxHeartbeats 2000000 in
theorem kX2_swap {l : Launch} (hl : l.stackTraces = false) {h : mH} {n : Nat} {S : cS} {row : Int32} {place : Int32} {other : Int32} (C : cAt h S) : mC l mX2_swap rX2_swap [.ref 0, .int row, .int place, .int other] h n (cOk (sp_swap S row place other) h n) (cNo (sp_swap S row place other).1 h n) := by
  obtain ⟨C0, ⟨cg, C1, C1g⟩, C14, CR, ⟨zs15, HK15⟩, ⟨zs18, HK18⟩, ⟨zs21, HK21⟩, ⟨zs24, HK24⟩⟩ := id C
  refine mm_enter hl (by decide +kernel) rfl rfl rfl (Nat.le_of_ble_eq_true rfl) ?_
  show mT _ _ _ _ 0 [.ref 0, .int row, .int place, .int other, .double 0, .double 0] [] _ _ 0 0
  refine mt_aload_n dX2_swap_0 rfl rfl ?_
  refine mt_iload_n dX2_swap_1 rfl ?_
  refine mt_callV (N := mX2_rowOf) (Rc := rX2_rowOf) (As := [.int row]) (st := []) dX2_swap_2 (kX2_rowOf hl C) sX2_rowOf mw_230 mKX2 rfl C0 rfl (Nat.le_of_ble_eq_true rfl) ⟨⟨Nat.le_of_ble_eq_true rfl, Nat.le_of_ble_eq_true rfl⟩, Nat.le_of_ble_eq_true rfl, Nat.le_of_ble_eq_true rfl⟩ (fun v1 h2 n3 c4 => ?_) (fun E h9 n9 hx => mt_out rfl (by obtain ⟨rfl, hq, rfl, rfl⟩ := hx; exact cNo.i (by simp only [sp_swap, dAt_n hq])) (Nat.le_of_ble_eq_true rfl) (Nat.le_of_ble_eq_true rfl))
  obtain ⟨r5, hr5, rfl, c4a, c4b, c4c⟩ := c4
  rw [c4a, c4b, c4c]
  have hLr5 := (CR r5 hr5).len
  show mT _ _ _ _ 5 [.ref 0, .int (nI r5), .int place, .int other, .double 0, .double 0] [.ref (2 + 3 * r5)] _ _ _ _
  refine mp_astore dX2_swap_5 (ls' := [.ref 0, .int (nI r5), .int place, .int other, .ref (2 + 3 * r5), .double 0]) rfl rfl (by decide) rfl ?_
  refine mt_aload dX2_swap_7 rfl rfl ?_
  refine mt_iload_n dX2_swap_9 rfl ?_
  have H6 : rowAt h (2 + 3 * r5) (rroom r5) (mb (decide (r5 < 2))) (S.1 r5) := CR r5 (by omega)
  refine mt_callS (N := mX2_demandPlace) (Rc := rX2_demandPlace) (As := [.ref (2 + 3 * r5), .int place]) (st := []) dX2_swap_10 (kX2_demandPlace hl H6) sX2_demandPlace mw_457 rfl (Nat.le_of_ble_eq_true rfl) ⟨⟨Nat.le_of_ble_eq_true rfl, Nat.le_of_ble_eq_true rfl⟩, Nat.le_of_ble_eq_true rfl, Nat.le_of_ble_eq_true rfl⟩ (fun v7 h8 n9 c10 => ?_) (fun E h9 n9 hx => mt_out rfl (by obtain ⟨rfl, hq, rfl, rfl⟩ := hx; exact cNo.i (by simp only [sp_swap, dAt_n hq, dAt_s hr5 (by decide)])) (Nat.le_of_ble_eq_true rfl) (Nat.le_of_ble_eq_true rfl))
  obtain ⟨p11, hp11, rfl, c10a, c10b, c10c⟩ := c10
  rw [c10a, c10b, c10c]
  have hLp11 := (H6).len
  show mT _ _ _ _ 13 [.ref 0, .int (nI r5), .int (nI p11), .int other, .ref (2 + 3 * r5), .double 0] [] _ _ _ _
  refine mt_aload dX2_swap_13 rfl rfl ?_
  refine mt_iload_n dX2_swap_15 rfl ?_
  refine mt_callS (N := mX2_demandPlace) (Rc := rX2_demandPlace) (As := [.ref (2 + 3 * r5), .int other]) (st := []) dX2_swap_16 (kX2_demandPlace hl H6) sX2_demandPlace mw_457 rfl (Nat.le_of_ble_eq_true rfl) ⟨⟨Nat.le_of_ble_eq_true rfl, Nat.le_of_ble_eq_true rfl⟩, Nat.le_of_ble_eq_true rfl, Nat.le_of_ble_eq_true rfl⟩ (fun v12 h13 n14 c15 => ?_) (fun E h9 n9 hx => mt_out rfl (by obtain ⟨rfl, hq, rfl, rfl⟩ := hx; exact cNo.i (by simp only [sp_swap, dAt_n hq, dAt_s hr5 (by decide), dAt_s hp11 (by omega)])) (Nat.le_of_ble_eq_true rfl) (Nat.le_of_ble_eq_true rfl))
  obtain ⟨p16, hp16, rfl, c15a, c15b, c15c⟩ := c15
  rw [c15a, c15b, c15c]
  have hLp16 := (H6).len
  show mT _ _ _ _ 19 [.ref 0, .int (nI r5), .int (nI p11), .int (nI p16), .ref (2 + 3 * r5), .double 0] [] _ _ _ _
  refine mt_aload dX2_swap_19 rfl rfl ?_
  obtain ⟨f_17, g_17, ea_17, ek_17, es_17, ql_17, qr_17, qk_17, qt_17⟩ := id H6
  refine mt_getfield mKX1 (i := 0) (by decide) mw_68 dX2_swap_21 ea_17 rfl ?_
  refine mt_iload_n dX2_swap_24 rfl ?_
  refine mp_iaload dX2_swap_25 ek_17 rfl (by omega) (by omega) (v := xk (S.1 r5) p11) (qk_17 _ (by omega)) ?_
  refine mt_aload dX2_swap_26 rfl rfl ?_
  refine mt_getfield mKX1 (i := 0) (by decide) mw_68 dX2_swap_28 ea_17 rfl ?_
  refine mt_iload_n dX2_swap_31 rfl ?_
  refine mp_iaload dX2_swap_32 ek_17 rfl (by omega) (by omega) (v := xk (S.1 r5) p16) (qk_17 _ (by omega)) ?_
  refine mt_icmp_eq dX2_swap_33 (tgt := 40) rfl (fun q18 => ?_) (fun q18 => ?_)
  · refine mt_iconst dX2_swap_40 (v := nI 0) rfl ?_
    refine mp_istore dX2_swap_41 (ls' := [.ref 0, .int (nI r5), .int (nI p11), .int (nI p16), .ref (2 + 3 * r5), .int (nI 0)]) rfl (by decide) rfl ?_
    refine mt_aload dX2_swap_43 rfl rfl ?_
    refine mt_iload_n dX2_swap_45 rfl ?_
    refine mt_iload_n dX2_swap_46 rfl ?_
    refine mt_callV (N := mX1_trade) (Rc := rX1_trade) (As := [.int (nI p11), .int (nI p16)]) (st := []) dX2_swap_47 (kX1_trade hl H6 (by omega) (by omega)) sX1_trade mw_492 mKX1 rfl ea_17 rfl (Nat.le_of_ble_eq_true rfl) ⟨⟨Nat.le_of_ble_eq_true rfl, Nat.le_of_ble_eq_true rfl⟩, Nat.le_of_ble_eq_true rfl, Nat.le_of_ble_eq_true rfl⟩ (fun v19 h20 n21 c22 => ?_) (fun _ _ _ hx => hx.elim)
    obtain ⟨c22a, c22b, c22c, c22d⟩ := c22
    rw [c22a, c22b]
    show mT _ _ _ _ 50 [.ref 0, .int (nI r5), .int (nI p11), .int (nI p16), .ref (2 + 3 * r5), .int (nI 0)] [] _ _ _ _
    refine mt_aload_n dX2_swap_50 rfl rfl ?_
    refine mt_iload dX2_swap_51 rfl ?_
    refine mt_if_eq dX2_swap_53 (tgt := 60) rfl (fun q23 => ?_) (fun q23 => ?_)
    · have q23 := (mI_eq0 (by omega)).mp q23
      refine mt_iconst dX2_swap_60 (v := nI 0) rfl ?_
      refine mt_callV (N := mX2_done) (Rc := rX2_done) (As := [.int (nI 0)]) (st := []) dX2_swap_61 (kX2_done hl ((c22d (0) (by omega)).trans C0)) sX2_done mw_430 mKX2 rfl ((c22d (0) (by omega)).trans C0) rfl (Nat.le_of_ble_eq_true rfl) ⟨⟨Nat.le_of_ble_eq_true rfl, Nat.le_of_ble_eq_true rfl⟩, Nat.le_of_ble_eq_true rfl, Nat.le_of_ble_eq_true rfl⟩ (fun v24 h25 n26 c27 => ?_) (fun _ _ _ hx => hx.elim)
      obtain ⟨c27a, c27b, c27c, c27d⟩ := c27
      rw [c27a, c27b]
      show mT _ _ _ _ 64 [.ref 0, .int (nI r5), .int (nI p11), .int (nI p16), .ref (2 + 3 * r5), .int (nI 0)] [.int (nI 0)] _ _ _ _
      refine mt_ireturn dX2_swap_64 rfl rfl (Nat.le_of_ble_eq_true rfl) (Nat.le_of_ble_eq_true rfl) ?_
      exact cOk.of (x := .int (nI 0)) (S' := (fun k => if k = r5 then swp (S.1 r5) p11 p16 else S.1 k, S.2.1, S.2.2.1 + nI 1, S.2.2.2.1, S.2.2.2.2)) (by simp only [sp_swap, dAt_s hr5 (by decide), dAt_s hp11 (by omega), dAt_s hp16 (by omega)]; simp only [q18, if_true, if_false]; rfl) rfl rfl ⟨c27c, ⟨cg, (c27d (1) (by omega)).trans ((c22d (1) (by omega)).trans C1), C1g⟩, (c27d (14) (by omega)).trans ((c22d (14) (by omega)).trans C14), cRows CR (by omega) ((c22c).fr (fun j j1 j2 => c27d j (by omega))) (fun j j1 j2 j3 => (c27d j (by omega)).trans (c22d j (by omega))), ⟨_, ((HK15).fr (fun j j1 j2 => c22d j (by omega))).fr (fun j j1 j2 => c27d j (by omega))⟩, ⟨_, ((HK18).fr (fun j j1 j2 => c22d j (by omega))).fr (fun j j1 j2 => c27d j (by omega))⟩, ⟨_, ((HK21).fr (fun j j1 j2 => c22d j (by omega))).fr (fun j j1 j2 => c27d j (by omega))⟩, ⟨_, ((HK24).fr (fun j j1 j2 => c22d j (by omega))).fr (fun j j1 j2 => c27d j (by omega))⟩⟩ (fun j hj => (c27d j (by omega)).trans (c22d j (by omega)))
    · have q23 := (not_congr (mI_eq0 (by omega))).mp q23
      exact absurd q23 (by decide)
  · refine mt_iconst dX2_swap_36 (v := nI 1) rfl ?_
    refine mt_goto dX2_swap_37 (tgt := 41) rfl ?_
    refine mp_istore dX2_swap_41 (ls' := [.ref 0, .int (nI r5), .int (nI p11), .int (nI p16), .ref (2 + 3 * r5), .int (nI 1)]) rfl (by decide) rfl ?_
    refine mt_aload dX2_swap_43 rfl rfl ?_
    refine mt_iload_n dX2_swap_45 rfl ?_
    refine mt_iload_n dX2_swap_46 rfl ?_
    refine mt_callV (N := mX1_trade) (Rc := rX1_trade) (As := [.int (nI p11), .int (nI p16)]) (st := []) dX2_swap_47 (kX1_trade hl H6 (by omega) (by omega)) sX1_trade mw_492 mKX1 rfl ea_17 rfl (Nat.le_of_ble_eq_true rfl) ⟨⟨Nat.le_of_ble_eq_true rfl, Nat.le_of_ble_eq_true rfl⟩, Nat.le_of_ble_eq_true rfl, Nat.le_of_ble_eq_true rfl⟩ (fun v28 h29 n30 c31 => ?_) (fun _ _ _ hx => hx.elim)
    obtain ⟨c31a, c31b, c31c, c31d⟩ := c31
    rw [c31a, c31b]
    show mT _ _ _ _ 50 [.ref 0, .int (nI r5), .int (nI p11), .int (nI p16), .ref (2 + 3 * r5), .int (nI 1)] [] _ _ _ _
    refine mt_aload_n dX2_swap_50 rfl rfl ?_
    refine mt_iload dX2_swap_51 rfl ?_
    refine mt_if_eq dX2_swap_53 (tgt := 60) rfl (fun q32 => ?_) (fun q32 => ?_)
    · have q32 := (mI_eq0 (by omega)).mp q32
      exact absurd q32 (by decide)
    · have q32 := (not_congr (mI_eq0 (by omega))).mp q32
      refine mt_iconst dX2_swap_56 (v := nI 1) rfl ?_
      refine mt_goto dX2_swap_57 (tgt := 61) rfl ?_
      refine mt_callV (N := mX2_done) (Rc := rX2_done) (As := [.int (nI 1)]) (st := []) dX2_swap_61 (kX2_done hl ((c31d (0) (by omega)).trans C0)) sX2_done mw_430 mKX2 rfl ((c31d (0) (by omega)).trans C0) rfl (Nat.le_of_ble_eq_true rfl) ⟨⟨Nat.le_of_ble_eq_true rfl, Nat.le_of_ble_eq_true rfl⟩, Nat.le_of_ble_eq_true rfl, Nat.le_of_ble_eq_true rfl⟩ (fun v33 h34 n35 c36 => ?_) (fun _ _ _ hx => hx.elim)
      obtain ⟨c36a, c36b, c36c, c36d⟩ := c36
      rw [c36a, c36b]
      show mT _ _ _ _ 64 [.ref 0, .int (nI r5), .int (nI p11), .int (nI p16), .ref (2 + 3 * r5), .int (nI 1)] [.int (nI 1)] _ _ _ _
      refine mt_ireturn dX2_swap_64 rfl rfl (Nat.le_of_ble_eq_true rfl) (Nat.le_of_ble_eq_true rfl) ?_
      exact cOk.of (x := .int (nI 1)) (S' := (fun k => if k = r5 then swp (S.1 r5) p11 p16 else S.1 k, S.2.1, S.2.2.1 + nI 1, S.2.2.2.1, S.2.2.2.2)) (by simp only [sp_swap, dAt_s hr5 (by decide), dAt_s hp11 (by omega), dAt_s hp16 (by omega)]; simp only [q18, if_true, if_false]; rfl) rfl rfl ⟨c36c, ⟨cg, (c36d (1) (by omega)).trans ((c31d (1) (by omega)).trans C1), C1g⟩, (c36d (14) (by omega)).trans ((c31d (14) (by omega)).trans C14), cRows CR (by omega) ((c31c).fr (fun j j1 j2 => c36d j (by omega))) (fun j j1 j2 j3 => (c36d j (by omega)).trans (c31d j (by omega))), ⟨_, ((HK15).fr (fun j j1 j2 => c31d j (by omega))).fr (fun j j1 j2 => c36d j (by omega))⟩, ⟨_, ((HK18).fr (fun j j1 j2 => c31d j (by omega))).fr (fun j j1 j2 => c36d j (by omega))⟩, ⟨_, ((HK21).fr (fun j j1 j2 => c31d j (by omega))).fr (fun j j1 j2 => c36d j (by omega))⟩, ⟨_, ((HK24).fr (fun j j1 j2 => c31d j (by omega))).fr (fun j j1 j2 => c36d j (by omega))⟩⟩ (fun j hj => (c36d j (by omega)).trans (c31d j (by omega)))
def sp_put (S : cS) (row : Int32) (place : Int32) (key : Int32) : Nat × Value × cS := dAt S 4 row fun r => dAt S (S.1 r).length place fun p => dFit S (keyOk key) (0, .int (xk (S.1 r) p), cAct (cGiv (cSet S r ((S.1 r).set p (key, nst (decide (r < 2)) S.2.1))) (ngv (decide (r < 2)) S.2.1)))
abbrev rX2_put : Room := { frames := 8, cells := 3, slots := 18, locals := 131 }
set_option maxRecDepth 100000 in
set_option maxHeartbeats 2000000 in
theorem kX2_put {l : Launch} (hl : l.stackTraces = false) {h : mH} {n : Nat} {S : cS} {row : Int32} {place : Int32} {key : Int32} (C : cAt h S) : mC l mX2_put rX2_put [.ref 0, .int row, .int place, .int key] h n (cOk (sp_put S row place key) h n) (cNo (sp_put S row place key).1 h n) := by
  obtain ⟨C0, ⟨cg, C1, C1g⟩, C14, CR, ⟨zs15, HK15⟩, ⟨zs18, HK18⟩, ⟨zs21, HK21⟩, ⟨zs24, HK24⟩⟩ := id C
  refine mm_enter hl (by decide +kernel) rfl rfl rfl (Nat.le_of_ble_eq_true rfl) ?_
  show mT _ _ _ _ 0 [.ref 0, .int row, .int place, .int key, .double 0, .double 0] [] _ _ 0 0
  refine mt_aload_n dX2_put_0 rfl rfl ?_
  refine mt_iload_n dX2_put_1 rfl ?_
  refine mt_callV (N := mX2_rowOf) (Rc := rX2_rowOf) (As := [.int row]) (st := []) dX2_put_2 (kX2_rowOf hl C) sX2_rowOf mw_230 mKX2 rfl C0 rfl (Nat.le_of_ble_eq_true rfl) ⟨⟨Nat.le_of_ble_eq_true rfl, Nat.le_of_ble_eq_true rfl⟩, Nat.le_of_ble_eq_true rfl, Nat.le_of_ble_eq_true rfl⟩ (fun v1 h2 n3 c4 => ?_) (fun E h9 n9 hx => mt_out rfl (by obtain ⟨rfl, hq, rfl, rfl⟩ := hx; exact cNo.i (by simp only [sp_put, dAt_n hq])) (Nat.le_of_ble_eq_true rfl) (Nat.le_of_ble_eq_true rfl))
  obtain ⟨r5, hr5, rfl, c4a, c4b, c4c⟩ := c4
  rw [c4a, c4b, c4c]
  have hLr5 := (CR r5 hr5).len
  show mT _ _ _ _ 5 [.ref 0, .int (nI r5), .int place, .int key, .double 0, .double 0] [.ref (2 + 3 * r5)] _ _ _ _
  refine mp_astore dX2_put_5 (ls' := [.ref 0, .int (nI r5), .int place, .int key, .ref (2 + 3 * r5), .double 0]) rfl rfl (by decide) rfl ?_
  refine mt_aload dX2_put_7 rfl rfl ?_
  refine mt_iload_n dX2_put_9 rfl ?_
  have H6 : rowAt h (2 + 3 * r5) (rroom r5) (mb (decide (r5 < 2))) (S.1 r5) := CR r5 (by omega)
  refine mt_callS (N := mX2_demandPlace) (Rc := rX2_demandPlace) (As := [.ref (2 + 3 * r5), .int place]) (st := []) dX2_put_10 (kX2_demandPlace hl H6) sX2_demandPlace mw_457 rfl (Nat.le_of_ble_eq_true rfl) ⟨⟨Nat.le_of_ble_eq_true rfl, Nat.le_of_ble_eq_true rfl⟩, Nat.le_of_ble_eq_true rfl, Nat.le_of_ble_eq_true rfl⟩ (fun v7 h8 n9 c10 => ?_) (fun E h9 n9 hx => mt_out rfl (by obtain ⟨rfl, hq, rfl, rfl⟩ := hx; exact cNo.i (by simp only [sp_put, dAt_n hq, dAt_s hr5 (by decide)])) (Nat.le_of_ble_eq_true rfl) (Nat.le_of_ble_eq_true rfl))
  obtain ⟨p11, hp11, rfl, c10a, c10b, c10c⟩ := c10
  rw [c10a, c10b, c10c]
  have hLp11 := (H6).len
  show mT _ _ _ _ 13 [.ref 0, .int (nI r5), .int (nI p11), .int key, .ref (2 + 3 * r5), .double 0] [] _ _ _ _
  refine mt_iload_n dX2_put_13 rfl ?_
  refine mt_callS (N := mX2_demandKey) (Rc := rX2_demandKey) (As := [.int key]) (st := []) dX2_put_14 (kX2_demandKey hl) sX2_demandKey mw_441 rfl (Nat.le_of_ble_eq_true rfl) ⟨⟨Nat.le_of_ble_eq_true rfl, Nat.le_of_ble_eq_true rfl⟩, Nat.le_of_ble_eq_true rfl, Nat.le_of_ble_eq_true rfl⟩ (fun v12 h13 n14 c15 => ?_) (fun E h9 n9 hx => mt_out rfl (by obtain ⟨rfl, hq, rfl, rfl⟩ := hx; exact cNo.a (by simp only [sp_put, dFit_n hq, dAt_s hr5 (by decide), dAt_s hp11 (by omega)])) (Nat.le_of_ble_eq_true rfl) (Nat.le_of_ble_eq_true rfl))
  obtain ⟨c15a, c15k, c15b, c15c⟩ := c15
  rw [c15a, c15b, c15c]
  show mT _ _ _ _ 17 [.ref 0, .int (nI r5), .int (nI p11), .int key, .ref (2 + 3 * r5), .double 0] [] _ _ _ _
  refine mt_aload dX2_put_17 rfl rfl ?_
  obtain ⟨f_16, g_16, ea_16, ek_16, es_16, ql_16, qr_16, qk_16, qt_16⟩ := id H6
  refine mt_getfield mKX1 (i := 0) (by decide) mw_68 dX2_put_19 ea_16 rfl ?_
  refine mt_iload_n dX2_put_22 rfl ?_
  refine mp_iaload dX2_put_23 ek_16 rfl (by omega) (by omega) (v := xk (S.1 r5) p11) (qk_16 _ (by omega)) ?_
  refine mp_istore dX2_put_24 (ls' := [.ref 0, .int (nI r5), .int (nI p11), .int key, .ref (2 + 3 * r5), .int (xk (S.1 r5) p11)]) rfl (by decide) rfl ?_
  refine mt_aload dX2_put_26 rfl rfl ?_
  refine mt_getfield mKX1 (i := 0) (by decide) mw_68 dX2_put_28 ea_16 rfl ?_
  refine mt_iload_n dX2_put_31 rfl ?_
  refine mt_iload_n dX2_put_32 rfl ?_
  refine mp_iastore dX2_put_33 ek_16 rfl (by omega) (by omega) (fun h17 e18 f19 => ?_)
  refine mt_aload dX2_put_34 rfl rfl ?_
  refine mt_getfield mKX1 (i := 1) (by decide) mw_71 dX2_put_36 ((f19 (2 + 3 * r5) (by omega)).trans ea_16) rfl ?_
  refine mt_iload_n dX2_put_39 rfl ?_
  refine mt_aload_n dX2_put_40 rfl rfl ?_
  refine mt_aload dX2_put_41 rfl rfl ?_
  refine mt_callV (N := mX2_stampOfNew) (Rc := rX2_stampOfNew) (As := [.ref (2 + 3 * r5)]) (st := [.int (nI p11), .ref (2 + 3 * r5 + 2)]) dX2_put_43 (kX2_stampOfNew hl ((f19 (0) (by omega)).trans C0) ((f19 (2 + 3 * r5) (by omega)).trans ea_16)) sX2_stampOfNew mw_413 mKX2 rfl ((f19 (0) (by omega)).trans C0) rfl (Nat.le_of_ble_eq_true rfl) ⟨⟨Nat.le_of_ble_eq_true rfl, Nat.le_of_ble_eq_true rfl⟩, Nat.le_of_ble_eq_true rfl, Nat.le_of_ble_eq_true rfl⟩ (fun v20 h21 n22 c23 => ?_) (fun _ _ _ hx => hx.elim)
  obtain ⟨c23a, c23b, c23c, c23d⟩ := c23
  rw [c23a, c23b]
  show mT _ _ _ _ 46 [.ref 0, .int (nI r5), .int (nI p11), .int key, .ref (2 + 3 * r5), .int (xk (S.1 r5) p11)] [.int (nst (decide (r5 < 2)) S.2.1), .int (nI p11), .ref (2 + 3 * r5 + 2)] _ _ _ _
  refine mp_iastore dX2_put_46 ((c23d (2 + 3 * r5 + 2) (by omega)).trans ((f19 (2 + 3 * r5 + 2) (by omega)).trans es_16)) rfl (by omega) (by omega) (fun h24 e25 f26 => ?_)
  refine mt_aload_n dX2_put_47 rfl rfl ?_
  refine mt_iload dX2_put_48 rfl ?_
  refine mt_callV (N := mX2_done) (Rc := rX2_done) (As := [.int (xk (S.1 r5) p11)]) (st := []) dX2_put_50 (kX2_done hl ((f26 (0) (by omega)).trans c23c)) sX2_done mw_430 mKX2 rfl ((f26 (0) (by omega)).trans c23c) rfl (Nat.le_of_ble_eq_true rfl) ⟨⟨Nat.le_of_ble_eq_true rfl, Nat.le_of_ble_eq_true rfl⟩, Nat.le_of_ble_eq_true rfl, Nat.le_of_ble_eq_true rfl⟩ (fun v27 h28 n29 c30 => ?_) (fun _ _ _ hx => hx.elim)
  obtain ⟨c30a, c30b, c30c, c30d⟩ := c30
  rw [c30a, c30b]
  show mT _ _ _ _ 53 [.ref 0, .int (nI r5), .int (nI p11), .int key, .ref (2 + 3 * r5), .int (xk (S.1 r5) p11)] [.int (xk (S.1 r5) p11)] _ _ _ _
  refine mt_ireturn dX2_put_53 rfl rfl (Nat.le_of_ble_eq_true rfl) (Nat.le_of_ble_eq_true rfl) ?_
  exact cOk.of (x := .int (xk (S.1 r5) p11)) (S' := (fun k => if k = r5 then (S.1 r5).set p11 (key, nst (decide (r5 < 2)) S.2.1) else S.1 k, ngv (decide (r5 < 2)) S.2.1, S.2.2.1 + nI 1, S.2.2.2.1, S.2.2.2.2)) (by simp only [sp_put, dAt_s hr5 (by decide), dAt_s hp11 (by omega), dFit_s c15k] <;> rfl) rfl rfl ⟨c30c, ⟨cg, (c30d (1) (by omega)).trans ((f26 (1) (by omega)).trans ((c23d (1) (by omega)).trans ((f19 (1) (by omega)).trans C1))), C1g⟩, (c30d (14) (by omega)).trans ((f26 (14) (by omega)).trans ((c23d (14) (by omega)).trans ((f19 (14) (by omega)).trans C14))), cRows CR (by omega) ((rowAt_put ((f26 (2 + 3 * r5) (by omega)).trans ((c23d (2 + 3 * r5) (by omega)).trans ((f19 (2 + 3 * r5) (by omega)).trans ea_16))) ((f26 (2 + 3 * r5 + 1) (by omega)).trans ((c23d (2 + 3 * r5 + 1) (by omega)).trans e18)) (e25) hp11 ql_16 qr_16 qk_16 qt_16).fr (fun j j1 j2 => c30d j (by omega))) (fun j j1 j2 j3 => (c30d j (by omega)).trans ((f26 j (by omega)).trans ((c23d j (by omega)).trans (f19 j (by omega))))), ⟨_, ((((HK15).fr (fun j j1 j2 => f19 j (by omega))).fr (fun j j1 j2 => c23d j (by omega))).fr (fun j j1 j2 => f26 j (by omega))).fr (fun j j1 j2 => c30d j (by omega))⟩, ⟨_, ((((HK18).fr (fun j j1 j2 => f19 j (by omega))).fr (fun j j1 j2 => c23d j (by omega))).fr (fun j j1 j2 => f26 j (by omega))).fr (fun j j1 j2 => c30d j (by omega))⟩, ⟨_, ((((HK21).fr (fun j j1 j2 => f19 j (by omega))).fr (fun j j1 j2 => c23d j (by omega))).fr (fun j j1 j2 => f26 j (by omega))).fr (fun j j1 j2 => c30d j (by omega))⟩, ⟨_, ((((HK24).fr (fun j j1 j2 => f19 j (by omega))).fr (fun j j1 j2 => c23d j (by omega))).fr (fun j j1 j2 => f26 j (by omega))).fr (fun j j1 j2 => c30d j (by omega))⟩⟩ (fun j hj => (c30d j (by omega)).trans ((f26 j (by omega)).trans ((c23d j (by omega)).trans (f19 j (by omega)))))
def sp_add (S : cS) (row : Int32) (key : Int32) : Nat × Value × cS := dAt S 4 row fun r => dFit S (keyOk key) (if rroom r - (S.1 r).length < 1 then (0, .int (-9), cRef S) else (0, .int (nI ((S.1 r) ++ [(key, nst (decide (r < 2)) S.2.1)]).length), cAct (cGiv (cSet S r ((S.1 r) ++ [(key, nst (decide (r < 2)) S.2.1)])) (ngv (decide (r < 2)) S.2.1))))
abbrev rX2_add : Room := { frames := 8, cells := 2, slots := 12, locals := 130 }
set_option maxRecDepth 100000 in
set_option maxHeartbeats 2000000 in
theorem kX2_add {l : Launch} (hl : l.stackTraces = false) {h : mH} {n : Nat} {S : cS} {row : Int32} {key : Int32} (C : cAt h S) : mC l mX2_add rX2_add [.ref 0, .int row, .int key] h n (cOk (sp_add S row key) h n) (cNo (sp_add S row key).1 h n) := by
  obtain ⟨C0, ⟨cg, C1, C1g⟩, C14, CR, ⟨zs15, HK15⟩, ⟨zs18, HK18⟩, ⟨zs21, HK21⟩, ⟨zs24, HK24⟩⟩ := id C
  refine mm_enter hl (by decide +kernel) rfl rfl rfl (Nat.le_of_ble_eq_true rfl) ?_
  show mT _ _ _ _ 0 [.ref 0, .int row, .int key, .double 0] [] _ _ 0 0
  refine mt_aload_n dX2_add_0 rfl rfl ?_
  refine mt_iload_n dX2_add_1 rfl ?_
  refine mt_callV (N := mX2_rowOf) (Rc := rX2_rowOf) (As := [.int row]) (st := []) dX2_add_2 (kX2_rowOf hl C) sX2_rowOf mw_230 mKX2 rfl C0 rfl (Nat.le_of_ble_eq_true rfl) ⟨⟨Nat.le_of_ble_eq_true rfl, Nat.le_of_ble_eq_true rfl⟩, Nat.le_of_ble_eq_true rfl, Nat.le_of_ble_eq_true rfl⟩ (fun v1 h2 n3 c4 => ?_) (fun E h9 n9 hx => mt_out rfl (by obtain ⟨rfl, hq, rfl, rfl⟩ := hx; exact cNo.i (by simp only [sp_add, dAt_n hq])) (Nat.le_of_ble_eq_true rfl) (Nat.le_of_ble_eq_true rfl))
  obtain ⟨r5, hr5, rfl, c4a, c4b, c4c⟩ := c4
  rw [c4a, c4b, c4c]
  have hLr5 := (CR r5 hr5).len
  show mT _ _ _ _ 5 [.ref 0, .int (nI r5), .int key, .double 0] [.ref (2 + 3 * r5)] _ _ _ _
  refine mp_astore_n dX2_add_5 (ls' := [.ref 0, .int (nI r5), .int key, .ref (2 + 3 * r5)]) rfl rfl (by decide) rfl ?_
  refine mt_iload_n dX2_add_6 rfl ?_
  refine mt_callS (N := mX2_demandKey) (Rc := rX2_demandKey) (As := [.int key]) (st := []) dX2_add_7 (kX2_demandKey hl) sX2_demandKey mw_441 rfl (Nat.le_of_ble_eq_true rfl) ⟨⟨Nat.le_of_ble_eq_true rfl, Nat.le_of_ble_eq_true rfl⟩, Nat.le_of_ble_eq_true rfl, Nat.le_of_ble_eq_true rfl⟩ (fun v6 h7 n8 c9 => ?_) (fun E h9 n9 hx => mt_out rfl (by obtain ⟨rfl, hq, rfl, rfl⟩ := hx; exact cNo.a (by simp only [sp_add, dFit_n hq, dAt_s hr5 (by decide)])) (Nat.le_of_ble_eq_true rfl) (Nat.le_of_ble_eq_true rfl))
  obtain ⟨c9a, c9k, c9b, c9c⟩ := c9
  rw [c9a, c9b, c9c]
  show mT _ _ _ _ 10 [.ref 0, .int (nI r5), .int key, .ref (2 + 3 * r5)] [] _ _ _ _
  refine mt_aload_n dX2_add_10 rfl rfl ?_
  have H10 : rowAt h (2 + 3 * r5) (rroom r5) (mb (decide (r5 < 2))) (S.1 r5) := CR r5 (by omega)
  obtain ⟨f_15, g_15, ea_15, ek_15, es_15, ql_15, qr_15, qk_15, qt_15⟩ := id H10
  refine mt_callV (N := mX1_free) (Rc := rX1_free) (As := []) (st := []) dX2_add_11 (kX1_free hl H10) sX1_free mw_206 mKX1 rfl ea_15 rfl (Nat.le_of_ble_eq_true rfl) ⟨⟨Nat.le_of_ble_eq_true rfl, Nat.le_of_ble_eq_true rfl⟩, Nat.le_of_ble_eq_true rfl, Nat.le_of_ble_eq_true rfl⟩ (fun v11 h12 n13 c14 => ?_) (fun _ _ _ hx => hx.elim)
  obtain ⟨c14a, c14b, c14c⟩ := c14
  rw [c14a, c14b, c14c]
  show mT _ _ _ _ 14 [.ref 0, .int (nI r5), .int key, .ref (2 + 3 * r5)] [.int (nI ((rroom r5) - (S.1 r5).length))] _ _ _ _
  refine mt_iconst dX2_add_14 (v := nI 1) rfl ?_
  refine mt_icmp_ge dX2_add_15 (tgt := 23) rfl (fun q16 => ?_) (fun q16 => ?_)
  · have q16 := Int32.not_lt.mpr q16
    have q16 := (not_congr (nI_ltI (by omega) (by omega))).mp q16
    refine mt_aload_n dX2_add_23 rfl rfl ?_
    refine mt_iload_n dX2_add_24 rfl ?_
    refine mt_aload_n dX2_add_25 rfl rfl ?_
    refine mt_aload_n dX2_add_26 rfl rfl ?_
    refine mt_callV (N := mX2_stampOfNew) (Rc := rX2_stampOfNew) (As := [.ref (2 + 3 * r5)]) (st := [.int key, .ref (2 + 3 * r5)]) dX2_add_27 (kX2_stampOfNew hl C0 ea_15) sX2_stampOfNew mw_413 mKX2 rfl C0 rfl (Nat.le_of_ble_eq_true rfl) ⟨⟨Nat.le_of_ble_eq_true rfl, Nat.le_of_ble_eq_true rfl⟩, Nat.le_of_ble_eq_true rfl, Nat.le_of_ble_eq_true rfl⟩ (fun v17 h18 n19 c20 => ?_) (fun _ _ _ hx => hx.elim)
    obtain ⟨c20a, c20b, c20c, c20d⟩ := c20
    rw [c20a, c20b]
    show mT _ _ _ _ 30 [.ref 0, .int (nI r5), .int key, .ref (2 + 3 * r5)] [.int (nst (decide (r5 < 2)) S.2.1), .int key, .ref (2 + 3 * r5)] _ _ _ _
    have H21 : rowAt h18 (2 + 3 * r5) (rroom r5) (mb (decide (r5 < 2))) (S.1 r5) := (H10).fr (fun j j1 j2 => c20d j (by omega))
    refine mt_callV (N := mX1_append) (Rc := rX1_append) (As := [.int key, .int (nst (decide (r5 < 2)) S.2.1)]) (st := []) dX2_add_30 (kX1_append hl H21 (by first | omega | assumption | (simp only [List.length_append, List.length_cons, List.length_nil, span_len, Nat.sub_zero] at *; omega))) sX1_append mw_421 mKX1 rfl ((c20d (2 + 3 * r5) (by omega)).trans ea_15) rfl (Nat.le_of_ble_eq_true rfl) ⟨⟨Nat.le_of_ble_eq_true rfl, Nat.le_of_ble_eq_true rfl⟩, Nat.le_of_ble_eq_true rfl, Nat.le_of_ble_eq_true rfl⟩ (fun v22 h23 n24 c25 => ?_) (fun _ _ _ hx => hx.elim)
    obtain ⟨c25a, c25b, c25c, c25d⟩ := c25
    rw [c25a, c25b]
    show mT _ _ _ _ 33 [.ref 0, .int (nI r5), .int key, .ref (2 + 3 * r5)] [] _ _ _ _
    refine mt_aload_n dX2_add_33 rfl rfl ?_
    refine mt_aload_n dX2_add_34 rfl rfl ?_
    obtain ⟨f_26, g_26, ea_26, ek_26, es_26, ql_26, qr_26, qk_26, qt_26⟩ := id c25c
    refine mt_getfield mKX1 (i := 3) (by decide) mw_76 dX2_add_35 ea_26 rfl ?_
    refine mt_callV (N := mX2_done) (Rc := rX2_done) (As := [.int (nI (((S.1 r5) ++ [(key, nst (decide (r5 < 2)) S.2.1)]).length))]) (st := []) dX2_add_38 (kX2_done hl ((c25d (0) (by omega)).trans c20c)) sX2_done mw_430 mKX2 rfl ((c25d (0) (by omega)).trans c20c) rfl (Nat.le_of_ble_eq_true rfl) ⟨⟨Nat.le_of_ble_eq_true rfl, Nat.le_of_ble_eq_true rfl⟩, Nat.le_of_ble_eq_true rfl, Nat.le_of_ble_eq_true rfl⟩ (fun v27 h28 n29 c30 => ?_) (fun _ _ _ hx => hx.elim)
    obtain ⟨c30a, c30b, c30c, c30d⟩ := c30
    rw [c30a, c30b]
    show mT _ _ _ _ 41 [.ref 0, .int (nI r5), .int key, .ref (2 + 3 * r5)] [.int (nI (((S.1 r5) ++ [(key, nst (decide (r5 < 2)) S.2.1)]).length))] _ _ _ _
    refine mt_ireturn dX2_add_41 rfl rfl (Nat.le_of_ble_eq_true rfl) (Nat.le_of_ble_eq_true rfl) ?_
    exact cOk.of (x := .int (nI (((S.1 r5) ++ [(key, nst (decide (r5 < 2)) S.2.1)]).length))) (S' := (fun k => if k = r5 then (S.1 r5) ++ [(key, nst (decide (r5 < 2)) S.2.1)] else S.1 k, ngv (decide (r5 < 2)) S.2.1, S.2.2.1 + nI 1, S.2.2.2.1, S.2.2.2.2)) (by simp only [sp_add, dAt_s hr5 (by decide), dFit_s c9k, if_neg q16] <;> rfl) rfl rfl ⟨c30c, ⟨cg, (c30d (1) (by omega)).trans ((c25d (1) (by omega)).trans ((c20d (1) (by omega)).trans C1)), C1g⟩, (c30d (14) (by omega)).trans ((c25d (14) (by omega)).trans ((c20d (14) (by omega)).trans C14)), cRows CR (by omega) ((c25c).fr (fun j j1 j2 => c30d j (by omega))) (fun j j1 j2 j3 => (c30d j (by omega)).trans ((c25d j (by omega)).trans (c20d j (by omega)))), ⟨_, (((HK15).fr (fun j j1 j2 => c20d j (by omega))).fr (fun j j1 j2 => c25d j (by omega))).fr (fun j j1 j2 => c30d j (by omega))⟩, ⟨_, (((HK18).fr (fun j j1 j2 => c20d j (by omega))).fr (fun j j1 j2 => c25d j (by omega))).fr (fun j j1 j2 => c30d j (by omega))⟩, ⟨_, (((HK21).fr (fun j j1 j2 => c20d j (by omega))).fr (fun j j1 j2 => c25d j (by omega))).fr (fun j j1 j2 => c30d j (by omega))⟩, ⟨_, (((HK24).fr (fun j j1 j2 => c20d j (by omega))).fr (fun j j1 j2 => c25d j (by omega))).fr (fun j j1 j2 => c30d j (by omega))⟩⟩ (fun j hj => (c30d j (by omega)).trans ((c25d j (by omega)).trans (c20d j (by omega))))
  · have q16 := Int32.not_le.mp q16
    have q16 := (nI_ltI (by omega) (by omega)).mp q16
    refine mt_aload_n dX2_add_18 rfl rfl ?_
    refine mt_callV (N := mX2_refused) (Rc := rX2_refused) (As := []) (st := []) dX2_add_19 (kX2_refused hl C0) sX2_refused mw_446 mKX2 rfl C0 rfl (Nat.le_of_ble_eq_true rfl) ⟨⟨Nat.le_of_ble_eq_true rfl, Nat.le_of_ble_eq_true rfl⟩, Nat.le_of_ble_eq_true rfl, Nat.le_of_ble_eq_true rfl⟩ (fun v31 h32 n33 c34 => ?_) (fun _ _ _ hx => hx.elim)
    obtain ⟨c34a, c34b, c34c, c34d⟩ := c34
    rw [c34a, c34b]
    show mT _ _ _ _ 22 [.ref 0, .int (nI r5), .int key, .ref (2 + 3 * r5)] [.int (-9)] _ _ _ _
    refine mt_ireturn dX2_add_22 rfl rfl (Nat.le_of_ble_eq_true rfl) (Nat.le_of_ble_eq_true rfl) ?_
    exact cOk.of (x := .int (-9)) (S' := (S.1, S.2.1, S.2.2.1, S.2.2.2.1 + nI 1, S.2.2.2.2)) (by simp only [sp_add, dAt_s hr5 (by decide), dFit_s c9k, if_pos q16] <;> rfl) rfl rfl ⟨c34c, ⟨cg, (c34d (1) (by omega)).trans C1, C1g⟩, (c34d (14) (by omega)).trans C14, cRows0 CR (fun j j1 j2 => c34d j (by omega)), ⟨_, (HK15).fr (fun j j1 j2 => c34d j (by omega))⟩, ⟨_, (HK18).fr (fun j j1 j2 => c34d j (by omega))⟩, ⟨_, (HK21).fr (fun j j1 j2 => c34d j (by omega))⟩, ⟨_, (HK24).fr (fun j j1 j2 => c34d j (by omega))⟩⟩ (fun j hj => c34d j (by omega))
def sp_roll (S : cS) (row : Int32) (by_ : Int32) : Nat × Value × cS := dAt S 4 row fun r => dArg S ((S.1 r).length + 1) by_ fun p => (0, .int (q_otherKeys (S.1 r) (span (S.1 r) p (S.1 r).length ++ span (S.1 r) 0 p)), cAct (cSet S r (span (S.1 r) p (S.1 r).length ++ span (S.1 r) 0 p)))
abbrev rX2_roll : Room := { frames := 7, cells := 2, slots := 12, locals := 111 }
set_option maxRecDepth 100000 in
set_option maxHeartbeats 2000000 in
theorem kX2_roll {l : Launch} (hl : l.stackTraces = false) {h : mH} {n : Nat} {S : cS} {row : Int32} {by_ : Int32} (C : cAt h S) : mC l mX2_roll rX2_roll [.ref 0, .int row, .int by_] h n (cOk (sp_roll S row by_) h n) (cNo (sp_roll S row by_).1 h n) := by
  obtain ⟨C0, ⟨cg, C1, C1g⟩, C14, CR, ⟨zs15, HK15⟩, ⟨zs18, HK18⟩, ⟨zs21, HK21⟩, ⟨zs24, HK24⟩⟩ := id C
  refine mm_enter hl (by decide +kernel) rfl rfl rfl (Nat.le_of_ble_eq_true rfl) ?_
  show mT _ _ _ _ 0 [.ref 0, .int row, .int by_, .double 0, .double 0, .double 0] [] _ _ 0 0
  refine mt_aload_n dX2_roll_0 rfl rfl ?_
  refine mt_iload_n dX2_roll_1 rfl ?_
  refine mt_callV (N := mX2_rowOf) (Rc := rX2_rowOf) (As := [.int row]) (st := []) dX2_roll_2 (kX2_rowOf hl C) sX2_rowOf mw_230 mKX2 rfl C0 rfl (Nat.le_of_ble_eq_true rfl) ⟨⟨Nat.le_of_ble_eq_true rfl, Nat.le_of_ble_eq_true rfl⟩, Nat.le_of_ble_eq_true rfl, Nat.le_of_ble_eq_true rfl⟩ (fun v1 h2 n3 c4 => ?_) (fun E h9 n9 hx => mt_out rfl (by obtain ⟨rfl, hq, rfl, rfl⟩ := hx; exact cNo.i (by simp only [sp_roll, dAt_n hq])) (Nat.le_of_ble_eq_true rfl) (Nat.le_of_ble_eq_true rfl))
  obtain ⟨r5, hr5, rfl, c4a, c4b, c4c⟩ := c4
  rw [c4a, c4b, c4c]
  have hLr5 := (CR r5 hr5).len
  show mT _ _ _ _ 5 [.ref 0, .int (nI r5), .int by_, .double 0, .double 0, .double 0] [.ref (2 + 3 * r5)] _ _ _ _
  refine mp_astore_n dX2_roll_5 (ls' := [.ref 0, .int (nI r5), .int by_, .ref (2 + 3 * r5), .double 0, .double 0]) rfl rfl (by decide) rfl ?_
  refine mt_iload_n dX2_roll_6 rfl ?_
  refine mt_if_lt dX2_roll_7 (tgt := 22) rfl (fun q6 => ?_) (fun q6 => ?_)
  · refine mt_iconst dX2_roll_22 (v := nI 0) rfl ?_
    refine mt_callS (N := mX2_demand) (Rc := rX2_demand) (As := [.int (nI 0)]) (st := []) dX2_roll_23 (kX2_demand_f hl) sX2_demand mw_309 rfl (Nat.le_of_ble_eq_true rfl) ⟨⟨Nat.le_of_ble_eq_true rfl, Nat.le_of_ble_eq_true rfl⟩, Nat.le_of_ble_eq_true rfl, Nat.le_of_ble_eq_true rfl⟩ (fun _ _ _ hv => hv.elim) (fun E h9 n9 hx => ?_)
    obtain ⟨rfl, rfl, rfl⟩ := hx
    refine mt_out rfl ?_ (Nat.le_of_ble_eq_true rfl) (Nat.le_of_ble_eq_true rfl)
    exact cNo.a (by simp only [sp_roll, dArg_n (k := (S.1 r5).length + 1) (x := by_) (by first | exact inN_neg (by assumption) | exact inN_gt (by assumption) (by first | decide | omega)), dAt_s hr5 (by decide)])
  · refine mt_iload_n dX2_roll_10 rfl ?_
    refine mt_aload_n dX2_roll_11 rfl rfl ?_
    obtain ⟨f_11, g_11, ea_11, ek_11, es_11, ql_11, qr_11, qk_11, qt_11⟩ := id CR r5 (by omega)
    refine mt_getfield mKX1 (i := 3) (by decide) mw_76 dX2_roll_12 ea_11 rfl ?_
    refine mt_icmp_gt dX2_roll_15 (tgt := 22) rfl (fun q12 => ?_) (fun q12 => ?_)
    · refine mt_iconst dX2_roll_22 (v := nI 0) rfl ?_
      refine mt_callS (N := mX2_demand) (Rc := rX2_demand) (As := [.int (nI 0)]) (st := []) dX2_roll_23 (kX2_demand_f hl) sX2_demand mw_309 rfl (Nat.le_of_ble_eq_true rfl) ⟨⟨Nat.le_of_ble_eq_true rfl, Nat.le_of_ble_eq_true rfl⟩, Nat.le_of_ble_eq_true rfl, Nat.le_of_ble_eq_true rfl⟩ (fun _ _ _ hv => hv.elim) (fun E h9 n9 hx => ?_)
      obtain ⟨rfl, rfl, rfl⟩ := hx
      refine mt_out rfl ?_ (Nat.le_of_ble_eq_true rfl) (Nat.le_of_ble_eq_true rfl)
      exact cNo.a (by simp only [sp_roll, dArg_n (k := (S.1 r5).length + 1) (x := by_) (by first | exact inN_neg (by assumption) | exact inN_gt (by assumption) (by first | decide | omega)), dAt_s hr5 (by decide)])
    · refine mt_iconst dX2_roll_18 (v := nI 1) rfl ?_
      refine mt_goto dX2_roll_19 (tgt := 23) rfl ?_
      obtain ⟨p17, hp17, rfl⟩ := inN_le (k := (S.1 r5).length) (by assumption) (by assumption) (by first | decide | omega)
      refine mt_callS (N := mX2_demand) (Rc := rX2_demand) (As := [.int (nI 1)]) (st := []) dX2_roll_23 (kX2_demand_t hl) sX2_demand mw_309 rfl (Nat.le_of_ble_eq_true rfl) ⟨⟨Nat.le_of_ble_eq_true rfl, Nat.le_of_ble_eq_true rfl⟩, Nat.le_of_ble_eq_true rfl, Nat.le_of_ble_eq_true rfl⟩ (fun v18 h19 n20 c21 => ?_) (fun _ _ _ hx => hx.elim)
      obtain ⟨c21a, c21b, c21c⟩ := c21
      rw [c21a, c21b, c21c]
      show mT _ _ _ _ 26 [.ref 0, .int (nI r5), .int (nI p17), .ref (2 + 3 * r5), .double 0, .double 0] [] _ _ _ _
      refine mt_aload_n dX2_roll_26 rfl rfl ?_
      refine mt_getfield mKX2 (i := 1) (by decide) mw_113 dX2_roll_27 C0 rfl ?_
      refine mt_getfield mKX0 (i := 2) (by decide) mw_101 dX2_roll_30 C14 rfl ?_
      refine mp_astore dX2_roll_33 (ls' := [.ref 0, .int (nI r5), .int (nI p17), .ref (2 + 3 * r5), .ref 21, .double 0]) rfl rfl (by decide) rfl ?_
      refine mt_aload dX2_roll_35 rfl rfl ?_
      obtain ⟨f_26, g_26, ea_26, ek_26, es_26, ql_26, qr_26, qk_26, qt_26⟩ := id HK21
      refine mt_callV (N := mX1_empty) (Rc := rX1_empty) (As := []) (st := []) dX2_roll_37 (kX1_empty hl HK21) sX1_empty mw_407 mKX1 rfl ea_26 rfl (Nat.le_of_ble_eq_true rfl) ⟨⟨Nat.le_of_ble_eq_true rfl, Nat.le_of_ble_eq_true rfl⟩, Nat.le_of_ble_eq_true rfl, Nat.le_of_ble_eq_true rfl⟩ (fun v22 h23 n24 c25 => ?_) (fun _ _ _ hx => hx.elim)
      obtain ⟨c25a, c25b, c25c, c25d⟩ := c25
      rw [c25a, c25b]
      show mT _ _ _ _ 40 [.ref 0, .int (nI r5), .int (nI p17), .ref (2 + 3 * r5), .ref 21, .double 0] [] _ _ _ _
      refine mt_aload dX2_roll_40 rfl rfl ?_
      refine mt_aload_n dX2_roll_42 rfl rfl ?_
      refine mt_iload_n dX2_roll_43 rfl ?_
      refine mt_aload_n dX2_roll_44 rfl rfl ?_
      refine mt_getfield mKX1 (i := 3) (by decide) mw_76 dX2_roll_45 ((c25d (2 + 3 * r5) (by omega)).trans ea_11) rfl ?_
      have H27 : rowAt h23 (2 + 3 * r5) (rroom r5) (mb (decide (r5 < 2))) (S.1 r5) := (CR r5 (by omega)).fr (fun j j1 j2 => c25d j (by omega))
      obtain ⟨f_32, g_32, ea_32, ek_32, es_32, ql_32, qr_32, qk_32, qt_32⟩ := id c25c
      refine mt_callV (N := mX1_appendSpan) (Rc := rX1_appendSpan) (As := [.ref (2 + 3 * r5), .int (nI p17), .int (nI ((S.1 r5).length))]) (st := []) dX2_roll_48 (kX1_appendSpan hl c25c H27 (by omega) (by omega) (by first | omega | assumption | (simp only [List.length_append, List.length_cons, List.length_nil, span_len, Nat.sub_zero] at *; omega)) (by omega)) sX1_appendSpan mw_211 mKX1 rfl ea_32 rfl (Nat.le_of_ble_eq_true rfl) ⟨⟨Nat.le_of_ble_eq_true rfl, Nat.le_of_ble_eq_true rfl⟩, Nat.le_of_ble_eq_true rfl, Nat.le_of_ble_eq_true rfl⟩ (fun v28 h29 n30 c31 => ?_) (fun _ _ _ hx => hx.elim)
      have sl55 := span_len (ys := S.1 r5) (i := p17) (e := (S.1 r5).length) (by omega)
      obtain ⟨c31a, c31b, c31c, c31d⟩ := c31
      rw [c31a, c31b]
      show mT _ _ _ _ 51 [.ref 0, .int (nI r5), .int (nI p17), .ref (2 + 3 * r5), .ref 21, .double 0] [] _ _ _ _
      refine mt_aload dX2_roll_51 rfl rfl ?_
      refine mt_aload_n dX2_roll_53 rfl rfl ?_
      refine mt_iconst dX2_roll_54 (v := nI 0) rfl ?_
      refine mt_iload_n dX2_roll_55 rfl ?_
      have H33 : rowAt h29 (2 + 3 * r5) (rroom r5) (mb (decide (r5 < 2))) (S.1 r5) := (H27).fr (fun j j1 j2 => c31d j (by omega))
      obtain ⟨f_38, g_38, ea_38, ek_38, es_38, ql_38, qr_38, qk_38, qt_38⟩ := id c31c
      refine mt_callV (N := mX1_appendSpan) (Rc := rX1_appendSpan) (As := [.ref (2 + 3 * r5), .int (nI 0), .int (nI p17)]) (st := []) dX2_roll_56 (kX1_appendSpan hl c31c H33 (by omega) (by omega) (by first | omega | assumption | (simp only [List.length_append, List.length_cons, List.length_nil, span_len, Nat.sub_zero] at *; omega)) (by omega)) sX1_appendSpan mw_211 mKX1 rfl ea_38 rfl (Nat.le_of_ble_eq_true rfl) ⟨⟨Nat.le_of_ble_eq_true rfl, Nat.le_of_ble_eq_true rfl⟩, Nat.le_of_ble_eq_true rfl, Nat.le_of_ble_eq_true rfl⟩ (fun v34 h35 n36 c37 => ?_) (fun _ _ _ hx => hx.elim)
      have sl66 := span_len (ys := S.1 r5) (i := 0) (e := p17) (by omega)
      obtain ⟨c37a, c37b, c37c, c37d⟩ := c37
      rw [c37a, c37b]
      show mT _ _ _ _ 59 [.ref 0, .int (nI r5), .int (nI p17), .ref (2 + 3 * r5), .ref 21, .double 0] [] _ _ _ _
      refine mt_aload_n dX2_roll_59 rfl rfl ?_
      refine mt_aload dX2_roll_60 rfl rfl ?_
      have H39 : rowAt h35 (2 + 3 * r5) (rroom r5) (mb (decide (r5 < 2))) (S.1 r5) := (H33).fr (fun j j1 j2 => c37d j (by omega))
      refine mt_callV (N := mX1_otherKeys) (Rc := rX1_otherKeys) (As := [.ref 21]) (st := []) dX2_roll_62 (kX1_otherKeys hl H39 c37c) sX1_otherKeys mw_510 mKX1 rfl ((c37d (2 + 3 * r5) (by omega)).trans ((c31d (2 + 3 * r5) (by omega)).trans ((c25d (2 + 3 * r5) (by omega)).trans ea_11))) rfl (Nat.le_of_ble_eq_true rfl) ⟨⟨Nat.le_of_ble_eq_true rfl, Nat.le_of_ble_eq_true rfl⟩, Nat.le_of_ble_eq_true rfl, Nat.le_of_ble_eq_true rfl⟩ (fun v40 h41 n42 c43 => ?_) (fun _ _ _ hx => hx.elim)
      obtain ⟨c43a, c43b, c43c⟩ := c43
      rw [c43a, c43b, c43c]
      show mT _ _ _ _ 65 [.ref 0, .int (nI r5), .int (nI p17), .ref (2 + 3 * r5), .ref 21, .double 0] [.int (q_otherKeys (S.1 r5) ((([]) ++ span (S.1 r5) p17 ((S.1 r5).length)) ++ span (S.1 r5) 0 p17))] _ _ _ _
      refine mp_istore dX2_roll_65 (ls' := [.ref 0, .int (nI r5), .int (nI p17), .ref (2 + 3 * r5), .ref 21, .int (q_otherKeys (S.1 r5) ((([]) ++ span (S.1 r5) p17 ((S.1 r5).length)) ++ span (S.1 r5) 0 p17))]) rfl (by decide) rfl ?_
      refine mt_aload_n dX2_roll_67 rfl rfl ?_
      refine mt_aload dX2_roll_68 rfl rfl ?_
      refine mt_callV (N := mX1_become) (Rc := rX1_become) (As := [.ref 21]) (st := []) dX2_roll_70 (kX1_become hl H39 c37c (by omega) (by first | omega | assumption | (simp only [List.length_append, List.length_cons, List.length_nil, span_len, Nat.sub_zero] at *; omega))) sX1_become mw_210 mKX1 rfl ((c37d (2 + 3 * r5) (by omega)).trans ((c31d (2 + 3 * r5) (by omega)).trans ((c25d (2 + 3 * r5) (by omega)).trans ea_11))) rfl (Nat.le_of_ble_eq_true rfl) ⟨⟨Nat.le_of_ble_eq_true rfl, Nat.le_of_ble_eq_true rfl⟩, Nat.le_of_ble_eq_true rfl, Nat.le_of_ble_eq_true rfl⟩ (fun v44 h45 n46 c47 => ?_) (fun _ _ _ hx => hx.elim)
      obtain ⟨c47a, c47b, c47c, c47d⟩ := c47
      rw [c47a, c47b]
      show mT _ _ _ _ 73 [.ref 0, .int (nI r5), .int (nI p17), .ref (2 + 3 * r5), .ref 21, .int (q_otherKeys (S.1 r5) ((([]) ++ span (S.1 r5) p17 ((S.1 r5).length)) ++ span (S.1 r5) 0 p17))] [] _ _ _ _
      refine mt_aload_n dX2_roll_73 rfl rfl ?_
      refine mt_iload dX2_roll_74 rfl ?_
      refine mt_callV (N := mX2_done) (Rc := rX2_done) (As := [.int (q_otherKeys (S.1 r5) ((([]) ++ span (S.1 r5) p17 ((S.1 r5).length)) ++ span (S.1 r5) 0 p17))]) (st := []) dX2_roll_76 (kX2_done hl ((c47d (0) (by omega)).trans ((c37d (0) (by omega)).trans ((c31d (0) (by omega)).trans ((c25d (0) (by omega)).trans C0))))) sX2_done mw_430 mKX2 rfl ((c47d (0) (by omega)).trans ((c37d (0) (by omega)).trans ((c31d (0) (by omega)).trans ((c25d (0) (by omega)).trans C0)))) rfl (Nat.le_of_ble_eq_true rfl) ⟨⟨Nat.le_of_ble_eq_true rfl, Nat.le_of_ble_eq_true rfl⟩, Nat.le_of_ble_eq_true rfl, Nat.le_of_ble_eq_true rfl⟩ (fun v48 h49 n50 c51 => ?_) (fun _ _ _ hx => hx.elim)
      obtain ⟨c51a, c51b, c51c, c51d⟩ := c51
      rw [c51a, c51b]
      show mT _ _ _ _ 79 [.ref 0, .int (nI r5), .int (nI p17), .ref (2 + 3 * r5), .ref 21, .int (q_otherKeys (S.1 r5) ((([]) ++ span (S.1 r5) p17 ((S.1 r5).length)) ++ span (S.1 r5) 0 p17))] [.int (q_otherKeys (S.1 r5) ((([]) ++ span (S.1 r5) p17 ((S.1 r5).length)) ++ span (S.1 r5) 0 p17))] _ _ _ _
      refine mt_ireturn dX2_roll_79 rfl rfl (Nat.le_of_ble_eq_true rfl) (Nat.le_of_ble_eq_true rfl) ?_
      exact cOk.of (x := .int (q_otherKeys (S.1 r5) ((([]) ++ span (S.1 r5) p17 ((S.1 r5).length)) ++ span (S.1 r5) 0 p17))) (S' := (fun k => if k = r5 then (([]) ++ span (S.1 r5) p17 ((S.1 r5).length)) ++ span (S.1 r5) 0 p17 else S.1 k, S.2.1, S.2.2.1 + nI 1, S.2.2.2.1, S.2.2.2.2)) (by simp only [sp_roll, dAt_s hr5 (by decide), dArg_s hp17 (by first | decide | omega), if_neg q6, if_neg q12] <;> rfl) rfl rfl ⟨c51c, ⟨cg, (c51d (1) (by omega)).trans ((c47d (1) (by omega)).trans ((c37d (1) (by omega)).trans ((c31d (1) (by omega)).trans ((c25d (1) (by omega)).trans C1)))), C1g⟩, (c51d (14) (by omega)).trans ((c47d (14) (by omega)).trans ((c37d (14) (by omega)).trans ((c31d (14) (by omega)).trans ((c25d (14) (by omega)).trans C14)))), cRows CR (by omega) ((c47c).fr (fun j j1 j2 => c51d j (by omega))) (fun j j1 j2 j3 => (c51d j (by omega)).trans ((c47d j (by omega)).trans ((c37d j (by omega)).trans ((c31d j (by omega)).trans (c25d j (by omega)))))), ⟨_, (((((HK15).fr (fun j j1 j2 => c25d j (by omega))).fr (fun j j1 j2 => c31d j (by omega))).fr (fun j j1 j2 => c37d j (by omega))).fr (fun j j1 j2 => c47d j (by omega))).fr (fun j j1 j2 => c51d j (by omega))⟩, ⟨_, (((((HK18).fr (fun j j1 j2 => c25d j (by omega))).fr (fun j j1 j2 => c31d j (by omega))).fr (fun j j1 j2 => c37d j (by omega))).fr (fun j j1 j2 => c47d j (by omega))).fr (fun j j1 j2 => c51d j (by omega))⟩, ⟨_, ((c37c).fr (fun j j1 j2 => c47d j (by omega))).fr (fun j j1 j2 => c51d j (by omega))⟩, ⟨_, (((((HK24).fr (fun j j1 j2 => c25d j (by omega))).fr (fun j j1 j2 => c31d j (by omega))).fr (fun j j1 j2 => c37d j (by omega))).fr (fun j j1 j2 => c47d j (by omega))).fr (fun j j1 j2 => c51d j (by omega))⟩⟩ (fun j hj => (c51d j (by omega)).trans ((c47d j (by omega)).trans ((c37d j (by omega)).trans ((c31d j (by omega)).trans (c25d j (by omega))))))
def sp_keep (S : cS) (row : Int32) (from_ : Int32) (to : Int32) : Nat × Value × cS := dAt S 4 row fun r => dKeep S (S.1 r).length from_ to fun p t => (0, .int (nI (span (S.1 r) p t).length), cAct (cSet S r (span (S.1 r) p t)))
abbrev rX2_keep : Room := { frames := 7, cells := 2, slots := 12, locals := 111 }
set_option maxRecDepth 100000 in
set_option maxHeartbeats 2000000 in
theorem kX2_keep {l : Launch} (hl : l.stackTraces = false) {h : mH} {n : Nat} {S : cS} {row : Int32} {from_ : Int32} {to : Int32} (C : cAt h S) : mC l mX2_keep rX2_keep [.ref 0, .int row, .int from_, .int to] h n (cOk (sp_keep S row from_ to) h n) (cNo (sp_keep S row from_ to).1 h n) := by
  obtain ⟨C0, ⟨cg, C1, C1g⟩, C14, CR, ⟨zs15, HK15⟩, ⟨zs18, HK18⟩, ⟨zs21, HK21⟩, ⟨zs24, HK24⟩⟩ := id C
  refine mm_enter hl (by decide +kernel) rfl rfl rfl (Nat.le_of_ble_eq_true rfl) ?_
  show mT _ _ _ _ 0 [.ref 0, .int row, .int from_, .int to, .double 0, .double 0] [] _ _ 0 0
  refine mt_aload_n dX2_keep_0 rfl rfl ?_
  refine mt_iload_n dX2_keep_1 rfl ?_
  refine mt_callV (N := mX2_rowOf) (Rc := rX2_rowOf) (As := [.int row]) (st := []) dX2_keep_2 (kX2_rowOf hl C) sX2_rowOf mw_230 mKX2 rfl C0 rfl (Nat.le_of_ble_eq_true rfl) ⟨⟨Nat.le_of_ble_eq_true rfl, Nat.le_of_ble_eq_true rfl⟩, Nat.le_of_ble_eq_true rfl, Nat.le_of_ble_eq_true rfl⟩ (fun v1 h2 n3 c4 => ?_) (fun E h9 n9 hx => mt_out rfl (by obtain ⟨rfl, hq, rfl, rfl⟩ := hx; exact cNo.i (by simp only [sp_keep, dAt_n hq])) (Nat.le_of_ble_eq_true rfl) (Nat.le_of_ble_eq_true rfl))
  obtain ⟨r5, hr5, rfl, c4a, c4b, c4c⟩ := c4
  rw [c4a, c4b, c4c]
  have hLr5 := (CR r5 hr5).len
  show mT _ _ _ _ 5 [.ref 0, .int (nI r5), .int from_, .int to, .double 0, .double 0] [.ref (2 + 3 * r5)] _ _ _ _
  refine mp_astore dX2_keep_5 (ls' := [.ref 0, .int (nI r5), .int from_, .int to, .ref (2 + 3 * r5), .double 0]) rfl rfl (by decide) rfl ?_
  refine mt_iload_n dX2_keep_7 rfl ?_
  refine mt_if_lt dX2_keep_8 (tgt := 29) rfl (fun q6 => ?_) (fun q6 => ?_)
  · refine mt_iconst dX2_keep_29 (v := nI 0) rfl ?_
    refine mt_callS (N := mX2_demandWithin) (Rc := rX2_demandWithin) (As := [.int (nI 0)]) (st := []) dX2_keep_30 (kX2_demandWithin_f hl) sX2_demandWithin mw_460 rfl (Nat.le_of_ble_eq_true rfl) ⟨⟨Nat.le_of_ble_eq_true rfl, Nat.le_of_ble_eq_true rfl⟩, Nat.le_of_ble_eq_true rfl, Nat.le_of_ble_eq_true rfl⟩ (fun _ _ _ hv => hv.elim) (fun E h9 n9 hx => ?_)
    obtain ⟨rfl, rfl, rfl⟩ := hx
    refine mt_out rfl ?_ (Nat.le_of_ble_eq_true rfl) (Nat.le_of_ble_eq_true rfl)
    exact cNo.i (by simp only [sp_keep, keep_neg (L := (S.1 r5).length) (x := from_) (y := to) (by first | exact Or.inl (by assumption) | exact Or.inr (Or.inl (by assumption)) | exact Or.inr (Or.inr (by assumption))), dAt_s hr5 (by decide)])
  · refine mt_iload_n dX2_keep_11 rfl ?_
    refine mt_iload_n dX2_keep_12 rfl ?_
    refine mt_icmp_gt dX2_keep_13 (tgt := 29) rfl (fun q11 => ?_) (fun q11 => ?_)
    · refine mt_iconst dX2_keep_29 (v := nI 0) rfl ?_
      refine mt_callS (N := mX2_demandWithin) (Rc := rX2_demandWithin) (As := [.int (nI 0)]) (st := []) dX2_keep_30 (kX2_demandWithin_f hl) sX2_demandWithin mw_460 rfl (Nat.le_of_ble_eq_true rfl) ⟨⟨Nat.le_of_ble_eq_true rfl, Nat.le_of_ble_eq_true rfl⟩, Nat.le_of_ble_eq_true rfl, Nat.le_of_ble_eq_true rfl⟩ (fun _ _ _ hv => hv.elim) (fun E h9 n9 hx => ?_)
      obtain ⟨rfl, rfl, rfl⟩ := hx
      refine mt_out rfl ?_ (Nat.le_of_ble_eq_true rfl) (Nat.le_of_ble_eq_true rfl)
      exact cNo.i (by simp only [sp_keep, keep_neg (L := (S.1 r5).length) (x := from_) (y := to) (by first | exact Or.inl (by assumption) | exact Or.inr (Or.inl (by assumption)) | exact Or.inr (Or.inr (by assumption))), dAt_s hr5 (by decide)])
    · refine mt_iload_n dX2_keep_16 rfl ?_
      refine mt_aload dX2_keep_17 rfl rfl ?_
      obtain ⟨f_16, g_16, ea_16, ek_16, es_16, ql_16, qr_16, qk_16, qt_16⟩ := id CR r5 (by omega)
      refine mt_getfield mKX1 (i := 3) (by decide) mw_76 dX2_keep_19 ea_16 rfl ?_
      refine mt_icmp_gt dX2_keep_22 (tgt := 29) rfl (fun q17 => ?_) (fun q17 => ?_)
      · refine mt_iconst dX2_keep_29 (v := nI 0) rfl ?_
        refine mt_callS (N := mX2_demandWithin) (Rc := rX2_demandWithin) (As := [.int (nI 0)]) (st := []) dX2_keep_30 (kX2_demandWithin_f hl) sX2_demandWithin mw_460 rfl (Nat.le_of_ble_eq_true rfl) ⟨⟨Nat.le_of_ble_eq_true rfl, Nat.le_of_ble_eq_true rfl⟩, Nat.le_of_ble_eq_true rfl, Nat.le_of_ble_eq_true rfl⟩ (fun _ _ _ hv => hv.elim) (fun E h9 n9 hx => ?_)
        obtain ⟨rfl, rfl, rfl⟩ := hx
        refine mt_out rfl ?_ (Nat.le_of_ble_eq_true rfl) (Nat.le_of_ble_eq_true rfl)
        exact cNo.i (by simp only [sp_keep, keep_neg (L := (S.1 r5).length) (x := from_) (y := to) (by first | exact Or.inl (by assumption) | exact Or.inr (Or.inl (by assumption)) | exact Or.inr (Or.inr (by assumption))), dAt_s hr5 (by decide)])
      · refine mt_iconst dX2_keep_25 (v := nI 1) rfl ?_
        refine mt_goto dX2_keep_26 (tgt := 30) rfl ?_
        obtain ⟨p, hp, t, ht, hpt, rfl, rfl⟩ := keep_in (L := (S.1 r5).length) q6 q11 q17 (by omega)
        refine mt_callS (N := mX2_demandWithin) (Rc := rX2_demandWithin) (As := [.int (nI 1)]) (st := []) dX2_keep_30 (kX2_demandWithin_t hl) sX2_demandWithin mw_460 rfl (Nat.le_of_ble_eq_true rfl) ⟨⟨Nat.le_of_ble_eq_true rfl, Nat.le_of_ble_eq_true rfl⟩, Nat.le_of_ble_eq_true rfl, Nat.le_of_ble_eq_true rfl⟩ (fun v22 h23 n24 c25 => ?_) (fun _ _ _ hx => hx.elim)
        obtain ⟨c25a, c25b, c25c⟩ := c25
        rw [c25a, c25b, c25c]
        show mT _ _ _ _ 33 [.ref 0, .int (nI r5), .int (nI p), .int (nI t), .ref (2 + 3 * r5), .double 0] [] _ _ _ _
        refine mt_aload_n dX2_keep_33 rfl rfl ?_
        refine mt_getfield mKX2 (i := 1) (by decide) mw_113 dX2_keep_34 C0 rfl ?_
        refine mt_getfield mKX0 (i := 2) (by decide) mw_101 dX2_keep_37 C14 rfl ?_
        refine mp_astore dX2_keep_40 (ls' := [.ref 0, .int (nI r5), .int (nI p), .int (nI t), .ref (2 + 3 * r5), .ref 21]) rfl rfl (by decide) rfl ?_
        refine mt_aload dX2_keep_42 rfl rfl ?_
        obtain ⟨f_30, g_30, ea_30, ek_30, es_30, ql_30, qr_30, qk_30, qt_30⟩ := id HK21
        refine mt_callV (N := mX1_empty) (Rc := rX1_empty) (As := []) (st := []) dX2_keep_44 (kX1_empty hl HK21) sX1_empty mw_407 mKX1 rfl ea_30 rfl (Nat.le_of_ble_eq_true rfl) ⟨⟨Nat.le_of_ble_eq_true rfl, Nat.le_of_ble_eq_true rfl⟩, Nat.le_of_ble_eq_true rfl, Nat.le_of_ble_eq_true rfl⟩ (fun v26 h27 n28 c29 => ?_) (fun _ _ _ hx => hx.elim)
        obtain ⟨c29a, c29b, c29c, c29d⟩ := c29
        rw [c29a, c29b]
        show mT _ _ _ _ 47 [.ref 0, .int (nI r5), .int (nI p), .int (nI t), .ref (2 + 3 * r5), .ref 21] [] _ _ _ _
        refine mt_aload dX2_keep_47 rfl rfl ?_
        refine mt_aload dX2_keep_49 rfl rfl ?_
        refine mt_iload_n dX2_keep_51 rfl ?_
        refine mt_iload_n dX2_keep_52 rfl ?_
        have H31 : rowAt h27 (2 + 3 * r5) (rroom r5) (mb (decide (r5 < 2))) (S.1 r5) := (CR r5 (by omega)).fr (fun j j1 j2 => c29d j (by omega))
        obtain ⟨f_36, g_36, ea_36, ek_36, es_36, ql_36, qr_36, qk_36, qt_36⟩ := id c29c
        refine mt_callV (N := mX1_appendSpan) (Rc := rX1_appendSpan) (As := [.ref (2 + 3 * r5), .int (nI p), .int (nI t)]) (st := []) dX2_keep_53 (kX1_appendSpan hl c29c H31 (by omega) (by omega) (by first | omega | assumption | (simp only [List.length_append, List.length_cons, List.length_nil, span_len, Nat.sub_zero] at *; omega)) (by omega)) sX1_appendSpan mw_211 mKX1 rfl ea_36 rfl (Nat.le_of_ble_eq_true rfl) ⟨⟨Nat.le_of_ble_eq_true rfl, Nat.le_of_ble_eq_true rfl⟩, Nat.le_of_ble_eq_true rfl, Nat.le_of_ble_eq_true rfl⟩ (fun v32 h33 n34 c35 => ?_) (fun _ _ _ hx => hx.elim)
        have sl63 := span_len (ys := S.1 r5) (i := p) (e := t) (by omega)
        obtain ⟨c35a, c35b, c35c, c35d⟩ := c35
        rw [c35a, c35b]
        show mT _ _ _ _ 56 [.ref 0, .int (nI r5), .int (nI p), .int (nI t), .ref (2 + 3 * r5), .ref 21] [] _ _ _ _
        refine mt_aload dX2_keep_56 rfl rfl ?_
        refine mt_aload dX2_keep_58 rfl rfl ?_
        have H37 : rowAt h33 (2 + 3 * r5) (rroom r5) (mb (decide (r5 < 2))) (S.1 r5) := (H31).fr (fun j j1 j2 => c35d j (by omega))
        refine mt_callV (N := mX1_become) (Rc := rX1_become) (As := [.ref 21]) (st := []) dX2_keep_60 (kX1_become hl H37 c35c (by omega) (by first | omega | assumption | (simp only [List.length_append, List.length_cons, List.length_nil, span_len, Nat.sub_zero] at *; omega))) sX1_become mw_210 mKX1 rfl ((c35d (2 + 3 * r5) (by omega)).trans ((c29d (2 + 3 * r5) (by omega)).trans ea_16)) rfl (Nat.le_of_ble_eq_true rfl) ⟨⟨Nat.le_of_ble_eq_true rfl, Nat.le_of_ble_eq_true rfl⟩, Nat.le_of_ble_eq_true rfl, Nat.le_of_ble_eq_true rfl⟩ (fun v38 h39 n40 c41 => ?_) (fun _ _ _ hx => hx.elim)
        obtain ⟨c41a, c41b, c41c, c41d⟩ := c41
        rw [c41a, c41b]
        show mT _ _ _ _ 63 [.ref 0, .int (nI r5), .int (nI p), .int (nI t), .ref (2 + 3 * r5), .ref 21] [] _ _ _ _
        refine mt_aload_n dX2_keep_63 rfl rfl ?_
        refine mt_aload dX2_keep_64 rfl rfl ?_
        obtain ⟨f_42, g_42, ea_42, ek_42, es_42, ql_42, qr_42, qk_42, qt_42⟩ := id c41c
        refine mt_getfield mKX1 (i := 3) (by decide) mw_76 dX2_keep_66 ea_42 rfl ?_
        refine mt_callV (N := mX2_done) (Rc := rX2_done) (As := [.int (nI ((([]) ++ span (S.1 r5) p t).length))]) (st := []) dX2_keep_69 (kX2_done hl ((c41d (0) (by omega)).trans ((c35d (0) (by omega)).trans ((c29d (0) (by omega)).trans C0)))) sX2_done mw_430 mKX2 rfl ((c41d (0) (by omega)).trans ((c35d (0) (by omega)).trans ((c29d (0) (by omega)).trans C0))) rfl (Nat.le_of_ble_eq_true rfl) ⟨⟨Nat.le_of_ble_eq_true rfl, Nat.le_of_ble_eq_true rfl⟩, Nat.le_of_ble_eq_true rfl, Nat.le_of_ble_eq_true rfl⟩ (fun v43 h44 n45 c46 => ?_) (fun _ _ _ hx => hx.elim)
        obtain ⟨c46a, c46b, c46c, c46d⟩ := c46
        rw [c46a, c46b]
        show mT _ _ _ _ 72 [.ref 0, .int (nI r5), .int (nI p), .int (nI t), .ref (2 + 3 * r5), .ref 21] [.int (nI ((([]) ++ span (S.1 r5) p t).length))] _ _ _ _
        refine mt_ireturn dX2_keep_72 rfl rfl (Nat.le_of_ble_eq_true rfl) (Nat.le_of_ble_eq_true rfl) ?_
        exact cOk.of (x := .int (nI ((([]) ++ span (S.1 r5) p t).length))) (S' := (fun k => if k = r5 then ([]) ++ span (S.1 r5) p t else S.1 k, S.2.1, S.2.2.1 + nI 1, S.2.2.2.1, S.2.2.2.2)) (by simp only [sp_keep, dAt_s hr5 (by decide), keep_pos (L := (S.1 r5).length) hpt ht (by omega), if_neg q6, if_neg q11, if_neg q17] <;> rfl) rfl rfl ⟨c46c, ⟨cg, (c46d (1) (by omega)).trans ((c41d (1) (by omega)).trans ((c35d (1) (by omega)).trans ((c29d (1) (by omega)).trans C1))), C1g⟩, (c46d (14) (by omega)).trans ((c41d (14) (by omega)).trans ((c35d (14) (by omega)).trans ((c29d (14) (by omega)).trans C14))), cRows CR (by omega) ((c41c).fr (fun j j1 j2 => c46d j (by omega))) (fun j j1 j2 j3 => (c46d j (by omega)).trans ((c41d j (by omega)).trans ((c35d j (by omega)).trans (c29d j (by omega))))), ⟨_, ((((HK15).fr (fun j j1 j2 => c29d j (by omega))).fr (fun j j1 j2 => c35d j (by omega))).fr (fun j j1 j2 => c41d j (by omega))).fr (fun j j1 j2 => c46d j (by omega))⟩, ⟨_, ((((HK18).fr (fun j j1 j2 => c29d j (by omega))).fr (fun j j1 j2 => c35d j (by omega))).fr (fun j j1 j2 => c41d j (by omega))).fr (fun j j1 j2 => c46d j (by omega))⟩, ⟨_, ((c35c).fr (fun j j1 j2 => c41d j (by omega))).fr (fun j j1 j2 => c46d j (by omega))⟩, ⟨_, ((((HK24).fr (fun j j1 j2 => c29d j (by omega))).fr (fun j j1 j2 => c35d j (by omega))).fr (fun j j1 j2 => c41d j (by omega))).fr (fun j j1 j2 => c46d j (by omega))⟩⟩ (fun j hj => (c46d j (by omega)).trans ((c41d j (by omega)).trans ((c35d j (by omega)).trans (c29d j (by omega)))))
def sp_sort (S : cS) (row : Int32) : Nat × Value × cS := dAt S 4 row fun r => (0, .int (q_otherItems (S.1 r) (msort (S.1 r)).1), cAct (cSet S r (msort (S.1 r)).1))
abbrev rX2_sort : Room := { frames := 7, cells := 1, slots := 6, locals := 123 }
set_option maxRecDepth 100000 in
set_option maxHeartbeats 2000000 in
theorem kX2_sort {l : Launch} (hl : l.stackTraces = false) {h : mH} {n : Nat} {S : cS} {row : Int32} (C : cAt h S) : mC l mX2_sort rX2_sort [.ref 0, .int row] h n (cOk (sp_sort S row) h n) (cNo (sp_sort S row).1 h n) := by
  obtain ⟨C0, ⟨cg, C1, C1g⟩, C14, CR, ⟨zs15, HK15⟩, ⟨zs18, HK18⟩, ⟨zs21, HK21⟩, ⟨zs24, HK24⟩⟩ := id C
  refine mm_enter hl (by decide +kernel) rfl rfl rfl (Nat.le_of_ble_eq_true rfl) ?_
  show mT _ _ _ _ 0 [.ref 0, .int row, .double 0, .double 0] [] _ _ 0 0
  refine mt_aload_n dX2_sort_0 rfl rfl ?_
  refine mt_iload_n dX2_sort_1 rfl ?_
  refine mt_callV (N := mX2_rowOf) (Rc := rX2_rowOf) (As := [.int row]) (st := []) dX2_sort_2 (kX2_rowOf hl C) sX2_rowOf mw_230 mKX2 rfl C0 rfl (Nat.le_of_ble_eq_true rfl) ⟨⟨Nat.le_of_ble_eq_true rfl, Nat.le_of_ble_eq_true rfl⟩, Nat.le_of_ble_eq_true rfl, Nat.le_of_ble_eq_true rfl⟩ (fun v1 h2 n3 c4 => ?_) (fun E h9 n9 hx => mt_out rfl (by obtain ⟨rfl, hq, rfl, rfl⟩ := hx; exact cNo.i (by simp only [sp_sort, dAt_n hq])) (Nat.le_of_ble_eq_true rfl) (Nat.le_of_ble_eq_true rfl))
  obtain ⟨r5, hr5, rfl, c4a, c4b, c4c⟩ := c4
  rw [c4a, c4b, c4c]
  have hLr5 := (CR r5 hr5).len
  show mT _ _ _ _ 5 [.ref 0, .int (nI r5), .double 0, .double 0] [.ref (2 + 3 * r5)] _ _ _ _
  refine mp_astore_n dX2_sort_5 (ls' := [.ref 0, .int (nI r5), .ref (2 + 3 * r5), .double 0]) rfl rfl (by decide) rfl ?_
  refine mt_aload_n dX2_sort_6 rfl rfl ?_
  refine mt_getfield mKX2 (i := 1) (by decide) mw_113 dX2_sort_7 C0 rfl ?_
  refine mt_aload_n dX2_sort_10 rfl rfl ?_
  refine mt_aload_n dX2_sort_11 rfl rfl ?_
  refine mt_getfield mKX2 (i := 1) (by decide) mw_113 dX2_sort_12 C0 rfl ?_
  refine mt_getfield mKX0 (i := 0) (by decide) mw_97 dX2_sort_15 C14 rfl ?_
  have H6 : rowAt h (2 + 3 * r5) (rroom r5) (mb (decide (r5 < 2))) (S.1 r5) := CR r5 (by omega)
  refine mt_callV (N := mX0_sortUp) (Rc := rX0_sortUp) (As := [.ref (2 + 3 * r5), .ref 15]) (st := []) dX2_sort_18 (kX0_sortUp hl C14 HK15 H6 HK24 (by omega) (by omega) (by omega) (by omega)) sX0_sortUp mw_143 mKX0 rfl C14 rfl (Nat.le_of_ble_eq_true rfl) ⟨⟨Nat.le_of_ble_eq_true rfl, Nat.le_of_ble_eq_true rfl⟩, Nat.le_of_ble_eq_true rfl, Nat.le_of_ble_eq_true rfl⟩ (fun v7 h8 n9 c10 => ?_) (fun _ _ _ hx => hx.elim)
  obtain ⟨c10a, c10b, c10c, ⟨c10z, c10d⟩, c10e⟩ := c10
  rw [c10a, c10b]
  have c10f : ∀ j, ((j < 15 ∨ 15 + 3 ≤ j) ∧ (j < 24 ∨ 24 + 3 ≤ j)) → h8 j = h j := fun j hj => c10e j hj.1 hj.2
  have mlc10 := msort_len (ys := S.1 r5)
  show mT _ _ _ _ 21 [.ref 0, .int (nI r5), .ref (2 + 3 * r5), .double 0] [.int ((msort (S.1 r5)).2)] _ _ _ _
  refine mt_pop dX2_sort_21 rfl ?_
  refine mt_aload_n dX2_sort_22 rfl rfl ?_
  refine mt_aload_n dX2_sort_23 rfl rfl ?_
  refine mt_getfield mKX2 (i := 1) (by decide) mw_113 dX2_sort_24 ((c10f (0) (by omega)).trans C0) rfl ?_
  refine mt_getfield mKX0 (i := 0) (by decide) mw_97 dX2_sort_27 ((c10f (14) (by omega)).trans C14) rfl ?_
  have H11 : rowAt h8 (2 + 3 * r5) (rroom r5) (mb (decide (r5 < 2))) (S.1 r5) := (H6).fr (fun j j1 j2 => c10f j (by omega))
  obtain ⟨f_16, g_16, ea_16, ek_16, es_16, ql_16, qr_16, qk_16, qt_16⟩ := id H11
  refine mt_callV (N := mX1_otherItems) (Rc := rX1_otherItems) (As := [.ref 15]) (st := []) dX2_sort_30 (kX1_otherItems hl H11 c10c) sX1_otherItems mw_216 mKX1 rfl ea_16 rfl (Nat.le_of_ble_eq_true rfl) ⟨⟨Nat.le_of_ble_eq_true rfl, Nat.le_of_ble_eq_true rfl⟩, Nat.le_of_ble_eq_true rfl, Nat.le_of_ble_eq_true rfl⟩ (fun v12 h13 n14 c15 => ?_) (fun _ _ _ hx => hx.elim)
  obtain ⟨c15a, c15b, c15c⟩ := c15
  rw [c15a, c15b, c15c]
  show mT _ _ _ _ 33 [.ref 0, .int (nI r5), .ref (2 + 3 * r5), .double 0] [.int (q_otherItems (S.1 r5) ((msort (S.1 r5)).1))] _ _ _ _
  refine mp_istore_n dX2_sort_33 (ls' := [.ref 0, .int (nI r5), .ref (2 + 3 * r5), .int (q_otherItems (S.1 r5) ((msort (S.1 r5)).1))]) rfl (by decide) rfl ?_
  refine mt_aload_n dX2_sort_34 rfl rfl ?_
  refine mt_aload_n dX2_sort_35 rfl rfl ?_
  refine mt_getfield mKX2 (i := 1) (by decide) mw_113 dX2_sort_36 ((c10f (0) (by omega)).trans C0) rfl ?_
  refine mt_getfield mKX0 (i := 0) (by decide) mw_97 dX2_sort_39 ((c10f (14) (by omega)).trans C14) rfl ?_
  refine mt_callV (N := mX1_become) (Rc := rX1_become) (As := [.ref 15]) (st := []) dX2_sort_42 (kX1_become hl H11 c10c (by omega) (by first | omega | assumption | (simp only [List.length_append, List.length_cons, List.length_nil, span_len, Nat.sub_zero] at *; omega))) sX1_become mw_210 mKX1 rfl ea_16 rfl (Nat.le_of_ble_eq_true rfl) ⟨⟨Nat.le_of_ble_eq_true rfl, Nat.le_of_ble_eq_true rfl⟩, Nat.le_of_ble_eq_true rfl, Nat.le_of_ble_eq_true rfl⟩ (fun v17 h18 n19 c20 => ?_) (fun _ _ _ hx => hx.elim)
  obtain ⟨c20a, c20b, c20c, c20d⟩ := c20
  rw [c20a, c20b]
  show mT _ _ _ _ 45 [.ref 0, .int (nI r5), .ref (2 + 3 * r5), .int (q_otherItems (S.1 r5) ((msort (S.1 r5)).1))] [] _ _ _ _
  refine mt_aload_n dX2_sort_45 rfl rfl ?_
  refine mt_iload_n dX2_sort_46 rfl ?_
  refine mt_callV (N := mX2_done) (Rc := rX2_done) (As := [.int (q_otherItems (S.1 r5) ((msort (S.1 r5)).1))]) (st := []) dX2_sort_47 (kX2_done hl ((c20d (0) (by omega)).trans ((c10f (0) (by omega)).trans C0))) sX2_done mw_430 mKX2 rfl ((c20d (0) (by omega)).trans ((c10f (0) (by omega)).trans C0)) rfl (Nat.le_of_ble_eq_true rfl) ⟨⟨Nat.le_of_ble_eq_true rfl, Nat.le_of_ble_eq_true rfl⟩, Nat.le_of_ble_eq_true rfl, Nat.le_of_ble_eq_true rfl⟩ (fun v21 h22 n23 c24 => ?_) (fun _ _ _ hx => hx.elim)
  obtain ⟨c24a, c24b, c24c, c24d⟩ := c24
  rw [c24a, c24b]
  show mT _ _ _ _ 50 [.ref 0, .int (nI r5), .ref (2 + 3 * r5), .int (q_otherItems (S.1 r5) ((msort (S.1 r5)).1))] [.int (q_otherItems (S.1 r5) ((msort (S.1 r5)).1))] _ _ _ _
  refine mt_ireturn dX2_sort_50 rfl rfl (Nat.le_of_ble_eq_true rfl) (Nat.le_of_ble_eq_true rfl) ?_
  exact cOk.of (x := .int (q_otherItems (S.1 r5) ((msort (S.1 r5)).1))) (S' := (fun k => if k = r5 then (msort (S.1 r5)).1 else S.1 k, S.2.1, S.2.2.1 + nI 1, S.2.2.2.1, S.2.2.2.2)) (by simp only [sp_sort, dAt_s hr5 (by decide)] <;> rfl) rfl rfl ⟨c24c, ⟨cg, (c24d (1) (by omega)).trans ((c20d (1) (by omega)).trans ((c10f (1) (by omega)).trans C1)), C1g⟩, (c24d (14) (by omega)).trans ((c20d (14) (by omega)).trans ((c10f (14) (by omega)).trans C14)), cRows CR (by omega) ((c20c).fr (fun j j1 j2 => c24d j (by omega))) (fun j j1 j2 j3 => (c24d j (by omega)).trans ((c20d j (by omega)).trans (c10f j (by omega)))), ⟨_, ((c10c).fr (fun j j1 j2 => c20d j (by omega))).fr (fun j j1 j2 => c24d j (by omega))⟩, ⟨_, (((HK18).fr (fun j j1 j2 => c10f j (by omega))).fr (fun j j1 j2 => c20d j (by omega))).fr (fun j j1 j2 => c24d j (by omega))⟩, ⟨_, (((HK21).fr (fun j j1 j2 => c10f j (by omega))).fr (fun j j1 j2 => c20d j (by omega))).fr (fun j j1 j2 => c24d j (by omega))⟩, ⟨_, ((c10d).fr (fun j j1 j2 => c20d j (by omega))).fr (fun j j1 j2 => c24d j (by omega))⟩⟩ (fun j hj => (c24d j (by omega)).trans ((c20d j (by omega)).trans (c10f j (by omega))))
