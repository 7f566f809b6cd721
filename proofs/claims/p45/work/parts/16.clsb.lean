/-! ===== the class: acts ===== -/
def sp_clear (S : cS) (row : Int32) : Nat × Value × cS := dAt S 4 row fun r => (0, .int (nI (S.1 r).length), cAct (cSet S r []))
abbrev rX2_clear : Room := { frames := 7, cells := 1, slots := 6, locals := 111 }
set_option maxRecDepth 100000 in
set_option maxHeartbeats 2000000 in
theorem kX2_clear {l : Launch} (hl : l.stackTraces = false) {h : mH} {n : Nat} {S : cS} {row : Int32} (C : cAt h S) : mC l mX2_clear rX2_clear [.ref 0, .int row] h n (cOk (sp_clear S row) h n) (cNo (sp_clear S row).1 h n) := by
  obtain ⟨C0, ⟨cg, C1, C1g⟩, C14, CR, ⟨zs15, HK15⟩, ⟨zs18, HK18⟩, ⟨zs21, HK21⟩, ⟨zs24, HK24⟩⟩ := id C
  refine mm_enter hl (by decide +kernel) rfl rfl rfl (Nat.le_of_ble_eq_true rfl) ?_
  show mT _ _ _ _ 0 [.ref 0, .int row, .double 0, .double 0] [] _ _ 0 0
  refine mt_aload_n dX2_clear_0 rfl rfl ?_
  refine mt_iload_n dX2_clear_1 rfl ?_
  refine mt_callV (N := mX2_rowOf) (Rc := rX2_rowOf) (As := [.int row]) (st := []) dX2_clear_2 (kX2_rowOf hl C) sX2_rowOf mw_230 mKX2 rfl C0 rfl (Nat.le_of_ble_eq_true rfl) ⟨⟨Nat.le_of_ble_eq_true rfl, Nat.le_of_ble_eq_true rfl⟩, Nat.le_of_ble_eq_true rfl, Nat.le_of_ble_eq_true rfl⟩ (fun v1 h2 n3 c4 => ?_) (fun E h9 n9 hx => mt_out rfl (by obtain ⟨rfl, hq, rfl, rfl⟩ := hx; exact cNo.i (by simp only [sp_clear, dAt_n hq])) (Nat.le_of_ble_eq_true rfl) (Nat.le_of_ble_eq_true rfl))
  obtain ⟨r5, hr5, rfl, c4a, c4b, c4c⟩ := c4
  rw [c4a, c4b, c4c]
  have hLr5 := (CR r5 hr5).len
  show mT _ _ _ _ 5 [.ref 0, .int (nI r5), .double 0, .double 0] [.ref (2 + 3 * r5)] _ _ _ _
  refine mp_astore_n dX2_clear_5 (ls' := [.ref 0, .int (nI r5), .ref (2 + 3 * r5), .double 0]) rfl rfl (by decide) rfl ?_
  refine mt_aload_n dX2_clear_6 rfl rfl ?_
  obtain ⟨f_6, g_6, ea_6, ek_6, es_6, ql_6, qr_6, qk_6, qt_6⟩ := id CR r5 (by omega)
  refine mt_getfield mKX1 (i := 3) (by decide) mw_76 dX2_clear_7 ea_6 rfl ?_
  refine mp_istore_n dX2_clear_10 (ls' := [.ref 0, .int (nI r5), .ref (2 + 3 * r5), .int (nI ((S.1 r5).length))]) rfl (by decide) rfl ?_
  refine mt_aload_n dX2_clear_11 rfl rfl ?_
  have H7 : rowAt h (2 + 3 * r5) (rroom r5) (mb (decide (r5 < 2))) (S.1 r5) := CR r5 (by omega)
  refine mt_callV (N := mX1_empty) (Rc := rX1_empty) (As := []) (st := []) dX2_clear_12 (kX1_empty hl H7) sX1_empty mw_407 mKX1 rfl ea_6 rfl (Nat.le_of_ble_eq_true rfl) ⟨⟨Nat.le_of_ble_eq_true rfl, Nat.le_of_ble_eq_true rfl⟩, Nat.le_of_ble_eq_true rfl, Nat.le_of_ble_eq_true rfl⟩ (fun v8 h9 n10 c11 => ?_) (fun _ _ _ hx => hx.elim)
  obtain ⟨c11a, c11b, c11c, c11d⟩ := c11
  rw [c11a, c11b]
  show mT _ _ _ _ 15 [.ref 0, .int (nI r5), .ref (2 + 3 * r5), .int (nI ((S.1 r5).length))] [] _ _ _ _
  refine mt_aload_n dX2_clear_15 rfl rfl ?_
  refine mt_iload_n dX2_clear_16 rfl ?_
  refine mt_callV (N := mX2_done) (Rc := rX2_done) (As := [.int (nI ((S.1 r5).length))]) (st := []) dX2_clear_17 (kX2_done hl ((c11d (0) (by omega)).trans C0)) sX2_done mw_430 mKX2 rfl ((c11d (0) (by omega)).trans C0) rfl (Nat.le_of_ble_eq_true rfl) ⟨⟨Nat.le_of_ble_eq_true rfl, Nat.le_of_ble_eq_true rfl⟩, Nat.le_of_ble_eq_true rfl, Nat.le_of_ble_eq_true rfl⟩ (fun v12 h13 n14 c15 => ?_) (fun _ _ _ hx => hx.elim)
  obtain ⟨c15a, c15b, c15c, c15d⟩ := c15
  rw [c15a, c15b]
  show mT _ _ _ _ 20 [.ref 0, .int (nI r5), .ref (2 + 3 * r5), .int (nI ((S.1 r5).length))] [.int (nI ((S.1 r5).length))] _ _ _ _
  refine mt_ireturn dX2_clear_20 rfl rfl (Nat.le_of_ble_eq_true rfl) (Nat.le_of_ble_eq_true rfl) ?_
  exact cOk.of (x := .int (nI ((S.1 r5).length))) (S' := (fun k => if k = r5 then [] else S.1 k, S.2.1, S.2.2.1 + nI 1, S.2.2.2.1, S.2.2.2.2)) (by simp only [sp_clear, dAt_s hr5 (by decide)] <;> rfl) rfl rfl ⟨c15c, ⟨cg, (c15d (1) (by omega)).trans ((c11d (1) (by omega)).trans C1), C1g⟩, (c15d (14) (by omega)).trans ((c11d (14) (by omega)).trans C14), cRows CR (by omega) ((c11c).fr (fun j j1 j2 => c15d j (by omega))) (fun j j1 j2 j3 => (c15d j (by omega)).trans (c11d j (by omega))), ⟨_, ((HK15).fr (fun j j1 j2 => c11d j (by omega))).fr (fun j j1 j2 => c15d j (by omega))⟩, ⟨_, ((HK18).fr (fun j j1 j2 => c11d j (by omega))).fr (fun j j1 j2 => c15d j (by omega))⟩, ⟨_, ((HK21).fr (fun j j1 j2 => c11d j (by omega))).fr (fun j j1 j2 => c15d j (by omega))⟩, ⟨_, ((HK24).fr (fun j j1 j2 => c11d j (by omega))).fr (fun j j1 j2 => c15d j (by omega))⟩⟩ (fun j hj => (c15d j (by omega)).trans (c11d j (by omega)))
def sp_drop (S : cS) (row : Int32) (place : Int32) : Nat × Value × cS := dAt S 4 row fun r => dAt S (S.1 r).length place fun p => (0, .int (xk (S.1 r) p), cAct (cSet S r (span (S.1 r) 0 p ++ span (S.1 r) (p + 1) (S.1 r).length)))
abbrev rX2_drop : Room := { frames := 8, cells := 2, slots := 12, locals := 131 }
set_option maxRecDepth 100000 in
set_option maxHeartbeats 2000000 in
theorem kX2_drop {l : Launch} (hl : l.stackTraces = false) {h : mH} {n : Nat} {S : cS} {row : Int32} {place : Int32} (C : cAt h S) : mC l mX2_drop rX2_drop [.ref 0, .int row, .int place] h n (cOk (sp_drop S row place) h n) (cNo (sp_drop S row place).1 h n) := by
  obtain ⟨C0, ⟨cg, C1, C1g⟩, C14, CR, ⟨zs15, HK15⟩, ⟨zs18, HK18⟩, ⟨zs21, HK21⟩, ⟨zs24, HK24⟩⟩ := id C
  refine mm_enter hl (by decide +kernel) rfl rfl rfl (Nat.le_of_ble_eq_true rfl) ?_
  show mT _ _ _ _ 0 [.ref 0, .int row, .int place, .double 0, .double 0, .double 0] [] _ _ 0 0
  refine mt_aload_n dX2_drop_0 rfl rfl ?_
  refine mt_iload_n dX2_drop_1 rfl ?_
  refine mt_callV (N := mX2_rowOf) (Rc := rX2_rowOf) (As := [.int row]) (st := []) dX2_drop_2 (kX2_rowOf hl C) sX2_rowOf mw_230 mKX2 rfl C0 rfl (Nat.le_of_ble_eq_true rfl) ⟨⟨Nat.le_of_ble_eq_true rfl, Nat.le_of_ble_eq_true rfl⟩, Nat.le_of_ble_eq_true rfl, Nat.le_of_ble_eq_true rfl⟩ (fun v1 h2 n3 c4 => ?_) (fun E h9 n9 hx => mt_out rfl (by obtain ⟨rfl, hq, rfl, rfl⟩ := hx; exact cNo.i (by simp only [sp_drop, dAt_n hq])) (Nat.le_of_ble_eq_true rfl) (Nat.le_of_ble_eq_true rfl))
  obtain ⟨r5, hr5, rfl, c4a, c4b, c4c⟩ := c4
  rw [c4a, c4b, c4c]
  have hLr5 := (CR r5 hr5).len
  show mT _ _ _ _ 5 [.ref 0, .int (nI r5), .int place, .double 0, .double 0, .double 0] [.ref (2 + 3 * r5)] _ _ _ _
  refine mp_astore_n dX2_drop_5 (ls' := [.ref 0, .int (nI r5), .int place, .ref (2 + 3 * r5), .double 0, .double 0]) rfl rfl (by decide) rfl ?_
  refine mt_aload_n dX2_drop_6 rfl rfl ?_
  refine mt_iload_n dX2_drop_7 rfl ?_
  have H6 : rowAt h (2 + 3 * r5) (rroom r5) (mb (decide (r5 < 2))) (S.1 r5) := CR r5 (by omega)
  refine mt_callS (N := mX2_demandPlace) (Rc := rX2_demandPlace) (As := [.ref (2 + 3 * r5), .int place]) (st := []) dX2_drop_8 (kX2_demandPlace hl H6) sX2_demandPlace mw_457 rfl (Nat.le_of_ble_eq_true rfl) ⟨⟨Nat.le_of_ble_eq_true rfl, Nat.le_of_ble_eq_true rfl⟩, Nat.le_of_ble_eq_true rfl, Nat.le_of_ble_eq_true rfl⟩ (fun v7 h8 n9 c10 => ?_) (fun E h9 n9 hx => mt_out rfl (by obtain ⟨rfl, hq, rfl, rfl⟩ := hx; exact cNo.i (by simp only [sp_drop, dAt_n hq, dAt_s hr5 (by decide)])) (Nat.le_of_ble_eq_true rfl) (Nat.le_of_ble_eq_true rfl))
  obtain ⟨p11, hp11, rfl, c10a, c10b, c10c⟩ := c10
  rw [c10a, c10b, c10c]
  have hLp11 := (H6).len
  show mT _ _ _ _ 11 [.ref 0, .int (nI r5), .int (nI p11), .ref (2 + 3 * r5), .double 0, .double 0] [] _ _ _ _
  refine mt_aload_n dX2_drop_11 rfl rfl ?_
  obtain ⟨f_12, g_12, ea_12, ek_12, es_12, ql_12, qr_12, qk_12, qt_12⟩ := id H6
  refine mt_getfield mKX1 (i := 0) (by decide) mw_68 dX2_drop_12 ea_12 rfl ?_
  refine mt_iload_n dX2_drop_15 rfl ?_
  refine mp_iaload dX2_drop_16 ek_12 rfl (by omega) (by omega) (v := xk (S.1 r5) p11) (qk_12 _ (by omega)) ?_
  refine mp_istore dX2_drop_17 (ls' := [.ref 0, .int (nI r5), .int (nI p11), .ref (2 + 3 * r5), .int (xk (S.1 r5) p11), .double 0]) rfl (by decide) rfl ?_
  refine mt_aload_n dX2_drop_19 rfl rfl ?_
  refine mt_getfield mKX2 (i := 1) (by decide) mw_113 dX2_drop_20 C0 rfl ?_
  refine mt_getfield mKX0 (i := 2) (by decide) mw_101 dX2_drop_23 C14 rfl ?_
  refine mp_astore dX2_drop_26 (ls' := [.ref 0, .int (nI r5), .int (nI p11), .ref (2 + 3 * r5), .int (xk (S.1 r5) p11), .ref 21]) rfl rfl (by decide) rfl ?_
  refine mt_aload dX2_drop_28 rfl rfl ?_
  obtain ⟨f_17, g_17, ea_17, ek_17, es_17, ql_17, qr_17, qk_17, qt_17⟩ := id HK21
  refine mt_callV (N := mX1_empty) (Rc := rX1_empty) (As := []) (st := []) dX2_drop_30 (kX1_empty hl HK21) sX1_empty mw_407 mKX1 rfl ea_17 rfl (Nat.le_of_ble_eq_true rfl) ⟨⟨Nat.le_of_ble_eq_true rfl, Nat.le_of_ble_eq_true rfl⟩, Nat.le_of_ble_eq_true rfl, Nat.le_of_ble_eq_true rfl⟩ (fun v13 h14 n15 c16 => ?_) (fun _ _ _ hx => hx.elim)
  obtain ⟨c16a, c16b, c16c, c16d⟩ := c16
  rw [c16a, c16b]
  show mT _ _ _ _ 33 [.ref 0, .int (nI r5), .int (nI p11), .ref (2 + 3 * r5), .int (xk (S.1 r5) p11), .ref 21] [] _ _ _ _
  refine mt_aload dX2_drop_33 rfl rfl ?_
  refine mt_aload_n dX2_drop_35 rfl rfl ?_
  refine mt_iconst dX2_drop_36 (v := nI 0) rfl ?_
  refine mt_iload_n dX2_drop_37 rfl ?_
  have H18 : rowAt h14 (2 + 3 * r5) (rroom r5) (mb (decide (r5 < 2))) (S.1 r5) := (H6).fr (fun j j1 j2 => c16d j (by omega))
  obtain ⟨f_23, g_23, ea_23, ek_23, es_23, ql_23, qr_23, qk_23, qt_23⟩ := id c16c
  refine mt_callV (N := mX1_appendSpan) (Rc := rX1_appendSpan) (As := [.ref (2 + 3 * r5), .int (nI 0), .int (nI p11)]) (st := []) dX2_drop_38 (kX1_appendSpan hl c16c H18 (by omega) (by omega) (by first | omega | assumption | (simp only [List.length_append, List.length_cons, List.length_nil, span_len, Nat.sub_zero] at *; omega)) (by omega)) sX1_appendSpan mw_211 mKX1 rfl ea_23 rfl (Nat.le_of_ble_eq_true rfl) ⟨⟨Nat.le_of_ble_eq_true rfl, Nat.le_of_ble_eq_true rfl⟩, Nat.le_of_ble_eq_true rfl, Nat.le_of_ble_eq_true rfl⟩ (fun v19 h20 n21 c22 => ?_) (fun _ _ _ hx => hx.elim)
  have sl42 := span_len (ys := S.1 r5) (i := 0) (e := p11) (by omega)
  obtain ⟨c22a, c22b, c22c, c22d⟩ := c22
  rw [c22a, c22b]
  show mT _ _ _ _ 41 [.ref 0, .int (nI r5), .int (nI p11), .ref (2 + 3 * r5), .int (xk (S.1 r5) p11), .ref 21] [] _ _ _ _
  refine mt_aload dX2_drop_41 rfl rfl ?_
  refine mt_aload_n dX2_drop_43 rfl rfl ?_
  refine mt_iload_n dX2_drop_44 rfl ?_
  refine mt_iconst dX2_drop_45 (v := nI 1) rfl ?_
  refine mp_iadd dX2_drop_46 (v := nI (p11 + 1)) (nI_add _ _) ?_
  refine mt_aload_n dX2_drop_47 rfl rfl ?_
  refine mt_getfield mKX1 (i := 3) (by decide) mw_76 dX2_drop_48 ((c22d (2 + 3 * r5) (by omega)).trans ((c16d (2 + 3 * r5) (by omega)).trans ea_12)) rfl ?_
  have H24 : rowAt h20 (2 + 3 * r5) (rroom r5) (mb (decide (r5 < 2))) (S.1 r5) := (H18).fr (fun j j1 j2 => c22d j (by omega))
  obtain ⟨f_29, g_29, ea_29, ek_29, es_29, ql_29, qr_29, qk_29, qt_29⟩ := id c22c
  refine mt_callV (N := mX1_appendSpan) (Rc := rX1_appendSpan) (As := [.ref (2 + 3 * r5), .int (nI (p11 + 1)), .int (nI ((S.1 r5).length))]) (st := []) dX2_drop_51 (kX1_appendSpan hl c22c H24 (by omega) (by omega) (by first | omega | assumption | (simp only [List.length_append, List.length_cons, List.length_nil, span_len, Nat.sub_zero] at *; omega)) (by omega)) sX1_appendSpan mw_211 mKX1 rfl ea_29 rfl (Nat.le_of_ble_eq_true rfl) ⟨⟨Nat.le_of_ble_eq_true rfl, Nat.le_of_ble_eq_true rfl⟩, Nat.le_of_ble_eq_true rfl, Nat.le_of_ble_eq_true rfl⟩ (fun v25 h26 n27 c28 => ?_) (fun _ _ _ hx => hx.elim)
  have sl56 := span_len (ys := S.1 r5) (i := p11 + 1) (e := (S.1 r5).length) (by omega)
  obtain ⟨c28a, c28b, c28c, c28d⟩ := c28
  rw [c28a, c28b]
  show mT _ _ _ _ 54 [.ref 0, .int (nI r5), .int (nI p11), .ref (2 + 3 * r5), .int (xk (S.1 r5) p11), .ref 21] [] _ _ _ _
  refine mt_aload_n dX2_drop_54 rfl rfl ?_
  refine mt_aload dX2_drop_55 rfl rfl ?_
  have H30 : rowAt h26 (2 + 3 * r5) (rroom r5) (mb (decide (r5 < 2))) (S.1 r5) := (H24).fr (fun j j1 j2 => c28d j (by omega))
  refine mt_callV (N := mX1_become) (Rc := rX1_become) (As := [.ref 21]) (st := []) dX2_drop_57 (kX1_become hl H30 c28c (by omega) (by first | omega | assumption | (simp only [List.length_append, List.length_cons, List.length_nil, span_len, Nat.sub_zero] at *; omega))) sX1_become mw_210 mKX1 rfl ((c28d (2 + 3 * r5) (by omega)).trans ((c22d (2 + 3 * r5) (by omega)).trans ((c16d (2 + 3 * r5) (by omega)).trans ea_12))) rfl (Nat.le_of_ble_eq_true rfl) ⟨⟨Nat.le_of_ble_eq_true rfl, Nat.le_of_ble_eq_true rfl⟩, Nat.le_of_ble_eq_true rfl, Nat.le_of_ble_eq_true rfl⟩ (fun v31 h32 n33 c34 => ?_) (fun _ _ _ hx => hx.elim)
  obtain ⟨c34a, c34b, c34c, c34d⟩ := c34
  rw [c34a, c34b]
  show mT _ _ _ _ 60 [.ref 0, .int (nI r5), .int (nI p11), .ref (2 + 3 * r5), .int (xk (S.1 r5) p11), .ref 21] [] _ _ _ _
  refine mt_aload_n dX2_drop_60 rfl rfl ?_
  refine mt_iload dX2_drop_61 rfl ?_
  refine mt_callV (N := mX2_done) (Rc := rX2_done) (As := [.int (xk (S.1 r5) p11)]) (st := []) dX2_drop_63 (kX2_done hl ((c34d (0) (by omega)).trans ((c28d (0) (by omega)).trans ((c22d (0) (by omega)).trans ((c16d (0) (by omega)).trans C0))))) sX2_done mw_430 mKX2 rfl ((c34d (0) (by omega)).trans ((c28d (0) (by omega)).trans ((c22d (0) (by omega)).trans ((c16d (0) (by omega)).trans C0)))) rfl (Nat.le_of_ble_eq_true rfl) ⟨⟨Nat.le_of_ble_eq_true rfl, Nat.le_of_ble_eq_true rfl⟩, Nat.le_of_ble_eq_true rfl, Nat.le_of_ble_eq_true rfl⟩ (fun v35 h36 n37 c38 => ?_) (fun _ _ _ hx => hx.elim)
  obtain ⟨c38a, c38b, c38c, c38d⟩ := c38
  rw [c38a, c38b]
  show mT _ _ _ _ 66 [.ref 0, .int (nI r5), .int (nI p11), .ref (2 + 3 * r5), .int (xk (S.1 r5) p11), .ref 21] [.int (xk (S.1 r5) p11)] _ _ _ _
  refine mt_ireturn dX2_drop_66 rfl rfl (Nat.le_of_ble_eq_true rfl) (Nat.le_of_ble_eq_true rfl) ?_
  exact cOk.of (x := .int (xk (S.1 r5) p11)) (S' := (fun k => if k = r5 then (([]) ++ span (S.1 r5) 0 p11) ++ span (S.1 r5) (p11 + 1) ((S.1 r5).length) else S.1 k, S.2.1, S.2.2.1 + nI 1, S.2.2.2.1, S.2.2.2.2)) (by simp only [sp_drop, dAt_s hr5 (by decide), dAt_s hp11 (by omega)] <;> rfl) rfl rfl ⟨c38c, ⟨cg, (c38d (1) (by omega)).trans ((c34d (1) (by omega)).trans ((c28d (1) (by omega)).trans ((c22d (1) (by omega)).trans ((c16d (1) (by omega)).trans C1)))), C1g⟩, (c38d (14) (by omega)).trans ((c34d (14) (by omega)).trans ((c28d (14) (by omega)).trans ((c22d (14) (by omega)).trans ((c16d (14) (by omega)).trans C14)))), cRows CR (by omega) ((c34c).fr (fun j j1 j2 => c38d j (by omega))) (fun j j1 j2 j3 => (c38d j (by omega)).trans ((c34d j (by omega)).trans ((c28d j (by omega)).trans ((c22d j (by omega)).trans (c16d j (by omega)))))), ⟨_, (((((HK15).fr (fun j j1 j2 => c16d j (by omega))).fr (fun j j1 j2 => c22d j (by omega))).fr (fun j j1 j2 => c28d j (by omega))).fr (fun j j1 j2 => c34d j (by omega))).fr (fun j j1 j2 => c38d j (by omega))⟩, ⟨_, (((((HK18).fr (fun j j1 j2 => c16d j (by omega))).fr (fun j j1 j2 => c22d j (by omega))).fr (fun j j1 j2 => c28d j (by omega))).fr (fun j j1 j2 => c34d j (by omega))).fr (fun j j1 j2 => c38d j (by omega))⟩, ⟨_, ((c28c).fr (fun j j1 j2 => c34d j (by omega))).fr (fun j j1 j2 => c38d j (by omega))⟩, ⟨_, (((((HK24).fr (fun j j1 j2 => c16d j (by omega))).fr (fun j j1 j2 => c22d j (by omega))).fr (fun j j1 j2 => c28d j (by omega))).fr (fun j j1 j2 => c34d j (by omega))).fr (fun j j1 j2 => c38d j (by omega))⟩⟩ (fun j hj => (c38d j (by omega)).trans ((c34d j (by omega)).trans ((c28d j (by omega)).trans ((c22d j (by omega)).trans (c16d j (by omega))))))
def sp_exchange (S : cS) (row : Int32) (place : Int32) : Nat × Value × cS := dAt S 4 row fun r => dAt S ((S.1 r).length - 1) place fun p => (0, .int (q_wrongerByExchange (S.1 r) p), cAct (cSet S r (swp (S.1 r) p (p + 1))))
abbrev rX2_exchange : Room := { frames := 8, cells := 2, slots := 12, locals := 131 }
set_option maxRecDepth 100000 in
set_option maxHeartbeats 2000000 in
theorem kX2_exchange {l : Launch} (hl : l.stackTraces = false) {h : mH} {n : Nat} {S : cS} {row : Int32} {place : Int32} (C : cAt h S) : mC l mX2_exchange rX2_exchange [.ref 0, .int row, .int place] h n (cOk (sp_exchange S row place) h n) (cNo (sp_exchange S row place).1 h n) := by
  obtain ⟨C0, ⟨cg, C1, C1g⟩, C14, CR, ⟨zs15, HK15⟩, ⟨zs18, HK18⟩, ⟨zs21, HK21⟩, ⟨zs24, HK24⟩⟩ := id C
  refine mm_enter hl (by decide +kernel) rfl rfl rfl (Nat.le_of_ble_eq_true rfl) ?_
  show mT _ _ _ _ 0 [.ref 0, .int row, .int place, .double 0, .double 0] [] _ _ 0 0
  refine mt_aload_n dX2_exchange_0 rfl rfl ?_
  refine mt_iload_n dX2_exchange_1 rfl ?_
  refine mt_callV (N := mX2_rowOf) (Rc := rX2_rowOf) (As := [.int row]) (st := []) dX2_exchange_2 (kX2_rowOf hl C) sX2_rowOf mw_230 mKX2 rfl C0 rfl (Nat.le_of_ble_eq_true rfl) ⟨⟨Nat.le_of_ble_eq_true rfl, Nat.le_of_ble_eq_true rfl⟩, Nat.le_of_ble_eq_true rfl, Nat.le_of_ble_eq_true rfl⟩ (fun v1 h2 n3 c4 => ?_) (fun E h9 n9 hx => mt_out rfl (by obtain ⟨rfl, hq, rfl, rfl⟩ := hx; exact cNo.i (by simp only [sp_exchange, dAt_n hq])) (Nat.le_of_ble_eq_true rfl) (Nat.le_of_ble_eq_true rfl))
  obtain ⟨r5, hr5, rfl, c4a, c4b, c4c⟩ := c4
  rw [c4a, c4b, c4c]
  have hLr5 := (CR r5 hr5).len
  show mT _ _ _ _ 5 [.ref 0, .int (nI r5), .int place, .double 0, .double 0] [.ref (2 + 3 * r5)] _ _ _ _
  refine mp_astore_n dX2_exchange_5 (ls' := [.ref 0, .int (nI r5), .int place, .ref (2 + 3 * r5), .double 0]) rfl rfl (by decide) rfl ?_
  refine mt_aload_n dX2_exchange_6 rfl rfl ?_
  refine mt_iload_n dX2_exchange_7 rfl ?_
  have H6 : rowAt h (2 + 3 * r5) (rroom r5) (mb (decide (r5 < 2))) (S.1 r5) := CR r5 (by omega)
  refine mt_callS (N := mX2_demandPlaceWithNext) (Rc := rX2_demandPlaceWithNext) (As := [.ref (2 + 3 * r5), .int place]) (st := []) dX2_exchange_8 (kX2_demandPlaceWithNext hl H6) sX2_demandPlaceWithNext mw_485 rfl (Nat.le_of_ble_eq_true rfl) ⟨⟨Nat.le_of_ble_eq_true rfl, Nat.le_of_ble_eq_true rfl⟩, Nat.le_of_ble_eq_true rfl, Nat.le_of_ble_eq_true rfl⟩ (fun v7 h8 n9 c10 => ?_) (fun E h9 n9 hx => mt_out rfl (by obtain ⟨rfl, hq, rfl, rfl⟩ := hx; exact cNo.i (by simp only [sp_exchange, dAt_n hq, dAt_s hr5 (by decide)])) (Nat.le_of_ble_eq_true rfl) (Nat.le_of_ble_eq_true rfl))
  obtain ⟨p11, hp11, rfl, c10a, c10b, c10c⟩ := c10
  rw [c10a, c10b, c10c]
  have hLp11 := (H6).len
  show mT _ _ _ _ 11 [.ref 0, .int (nI r5), .int (nI p11), .ref (2 + 3 * r5), .double 0] [] _ _ _ _
  refine mt_aload_n dX2_exchange_11 rfl rfl ?_
  refine mt_iload_n dX2_exchange_12 rfl ?_
  obtain ⟨f_16, g_16, ea_16, ek_16, es_16, ql_16, qr_16, qk_16, qt_16⟩ := id H6
  refine mt_callV (N := mX1_wrongerByExchange) (Rc := rX1_wrongerByExchange) (As := [.int (nI p11)]) (st := []) dX2_exchange_13 (kX1_wrongerByExchange hl H6 (by omega)) sX1_wrongerByExchange mw_488 mKX1 rfl ea_16 rfl (Nat.le_of_ble_eq_true rfl) ⟨⟨Nat.le_of_ble_eq_true rfl, Nat.le_of_ble_eq_true rfl⟩, Nat.le_of_ble_eq_true rfl, Nat.le_of_ble_eq_true rfl⟩ (fun v12 h13 n14 c15 => ?_) (fun _ _ _ hx => hx.elim)
  obtain ⟨c15a, c15b, c15c⟩ := c15
  rw [c15a, c15b, c15c]
  show mT _ _ _ _ 16 [.ref 0, .int (nI r5), .int (nI p11), .ref (2 + 3 * r5), .double 0] [.int (q_wrongerByExchange (S.1 r5) p11)] _ _ _ _
  refine mp_istore dX2_exchange_16 (ls' := [.ref 0, .int (nI r5), .int (nI p11), .ref (2 + 3 * r5), .int (q_wrongerByExchange (S.1 r5) p11)]) rfl (by decide) rfl ?_
  refine mt_aload_n dX2_exchange_18 rfl rfl ?_
  refine mt_iload_n dX2_exchange_19 rfl ?_
  refine mt_iload_n dX2_exchange_20 rfl ?_
  refine mt_iconst dX2_exchange_21 (v := nI 1) rfl ?_
  refine mp_iadd dX2_exchange_22 (v := nI (p11 + 1)) (nI_add _ _) ?_
  refine mt_callV (N := mX1_trade) (Rc := rX1_trade) (As := [.int (nI p11), .int (nI (p11 + 1))]) (st := []) dX2_exchange_23 (kX1_trade hl H6 (by omega) (by omega)) sX1_trade mw_492 mKX1 rfl ea_16 rfl (Nat.le_of_ble_eq_true rfl) ⟨⟨Nat.le_of_ble_eq_true rfl, Nat.le_of_ble_eq_true rfl⟩, Nat.le_of_ble_eq_true rfl, Nat.le_of_ble_eq_true rfl⟩ (fun v17 h18 n19 c20 => ?_) (fun _ _ _ hx => hx.elim)
  obtain ⟨c20a, c20b, c20c, c20d⟩ := c20
  rw [c20a, c20b]
  show mT _ _ _ _ 26 [.ref 0, .int (nI r5), .int (nI p11), .ref (2 + 3 * r5), .int (q_wrongerByExchange (S.1 r5) p11)] [] _ _ _ _
  refine mt_aload_n dX2_exchange_26 rfl rfl ?_
  refine mt_iload dX2_exchange_27 rfl ?_
  refine mt_callV (N := mX2_done) (Rc := rX2_done) (As := [.int (q_wrongerByExchange (S.1 r5) p11)]) (st := []) dX2_exchange_29 (kX2_done hl ((c20d (0) (by omega)).trans C0)) sX2_done mw_430 mKX2 rfl ((c20d (0) (by omega)).trans C0) rfl (Nat.le_of_ble_eq_true rfl) ⟨⟨Nat.le_of_ble_eq_true rfl, Nat.le_of_ble_eq_true rfl⟩, Nat.le_of_ble_eq_true rfl, Nat.le_of_ble_eq_true rfl⟩ (fun v21 h22 n23 c24 => ?_) (fun _ _ _ hx => hx.elim)
  obtain ⟨c24a, c24b, c24c, c24d⟩ := c24
  rw [c24a, c24b]
  show mT _ _ _ _ 32 [.ref 0, .int (nI r5), .int (nI p11), .ref (2 + 3 * r5), .int (q_wrongerByExchange (S.1 r5) p11)] [.int (q_wrongerByExchange (S.1 r5) p11)] _ _ _ _
  refine mt_ireturn dX2_exchange_32 rfl rfl (Nat.le_of_ble_eq_true rfl) (Nat.le_of_ble_eq_true rfl) ?_
  exact cOk.of (x := .int (q_wrongerByExchange (S.1 r5) p11)) (S' := (fun k => if k = r5 then swp (S.1 r5) p11 (p11 + 1) else S.1 k, S.2.1, S.2.2.1 + nI 1, S.2.2.2.1, S.2.2.2.2)) (by simp only [sp_exchange, dAt_s hr5 (by decide), dAt_s hp11 (by omega)] <;> rfl) rfl rfl ⟨c24c, ⟨cg, (c24d (1) (by omega)).trans ((c20d (1) (by omega)).trans C1), C1g⟩, (c24d (14) (by omega)).trans ((c20d (14) (by omega)).trans C14), cRows CR (by omega) ((c20c).fr (fun j j1 j2 => c24d j (by omega))) (fun j j1 j2 j3 => (c24d j (by omega)).trans (c20d j (by omega))), ⟨_, ((HK15).fr (fun j j1 j2 => c20d j (by omega))).fr (fun j j1 j2 => c24d j (by omega))⟩, ⟨_, ((HK18).fr (fun j j1 j2 => c20d j (by omega))).fr (fun j j1 j2 => c24d j (by omega))⟩, ⟨_, ((HK21).fr (fun j j1 j2 => c20d j (by omega))).fr (fun j j1 j2 => c24d j (by omega))⟩, ⟨_, ((HK24).fr (fun j j1 j2 => c20d j (by omega))).fr (fun j j1 j2 => c24d j (by omega))⟩⟩ (fun j hj => (c24d j (by omega)).trans (c20d j (by omega)))
def sp_swap (S : cS) (row : Int32) (place : Int32) (other : Int32) : Nat × Value × cS := dAt S 4 row fun r => dAt S (S.1 r).length place fun p => dAt S (S.1 r).length other fun q => (0, .int (if xk (S.1 r) p = xk (S.1 r) q then nI 0 else nI 1), cAct (cSet S r (swp (S.1 r) p q)))
abbrev rX2_swap : Room := { frames := 8, cells := 3, slots := 18, locals := 131 }
set_option maxRecDepth 100000 in
set_option maxHeartbeats 2000000 in
theorem kX2_swap {l : Launch} (hl : l.stackTraces = false) {h : mH} {n : Nat} {S : cS} {row : Int32} {place : Int32} {other : Int32} (C : cAt h S) : mC l mX2_swap rX2_swap [.ref 0, .int row, .int place, .int other] h n (cOk (sp_swap S row place other) h n) (cNo (sp_swap S row place other).1 h n) := by
  obtain ⟨C0, ⟨cg, C1, C1g⟩, C14, CR, ⟨zs15, HK15⟩, ⟨zs18, HK18⟩, ⟨zs21, HK21⟩, ⟨zs24, HK24⟩⟩ := id C
  refine mm_enter hl (by decide +kernel) rfl rfl rfl (Nat.le_of_ble_eq_true rfl) ?_
  show mT _ _ _ _ 0 [.ref 0, .int row, .int place, .int other, .double 0, .double 0] [] _ _ 0 0
  refine mt_aload_n dX2_swap_0 rfl rfl ?_
  refine mt_iload_n dX2_swap_1 rfl ?_
  refine mt_callV (N := mX2_rowOf) (Rc := rX2_rowOf) (As := [.int row]) (st := []) dX2_swap_2 (kX2_rowOf hl C) sX2_rowOf mw_230 mKX2 rfl C0 rfl (Nat.le_of_ble_eq_true rfl) ⟨⟨Nat.le_of_ble_eq_true rfl, Nat.le_of_ble_eq_true rfl⟩, Nat.le_of_ble_eq_true rfl, Nat.le_of_ble_eq_true rfl⟩ (fun v1 h2 n3 c4 => ?_) (fun E h9 n9 hx => mt_out rfl (by obtain ⟨rfl, hq, rfl, rfl⟩ := hx; exact cNo.i (by simp only [sp_swap, dAt_n hq])) (Nat.le_of_ble_eq_true rfl) (Nat.le_of_ble_eq_true rfl))
  obtain ⟨r5, hr5, rfl, c4a, c4b, c4c⟩ := c4
  rw [c4a, c4b, c4c]
  have hLr5 := (CR r5 hr5).len
  show mT _ _ _ _ 5 [.ref 0, .int (nI r5), .int place, .int other, .double 0, .double 0] [.ref (2 + 3 * r5)] _ _ _ _
  refine mp_astore dX2_swap_5 (ls' := [.ref 0, .int (nI r5), .int place, .int other, .ref (2 + 3 * r5), .double 0]) rfl rfl (by decide) rfl ?_
  refine mt_aload dX2_swap_7 rfl rfl ?_
  refine mt_iload_n dX2_swap_9 rfl ?_
  have H6 : rowAt h (2 + 3 * r5) (rroom r5) (mb (decide (r5 < 2))) (S.1 r5) := CR r5 (by omega)
  refine mt_callS (N := mX2_demandPlace) (Rc := rX2_demandPlace) (As := [.ref (2 + 3 * r5), .int place]) (st := []) dX2_swap_10 (kX2_demandPlace hl H6) sX2_demandPlace mw_457 rfl (Nat.le_of_ble_eq_true rfl) ⟨⟨Nat.le_of_ble_eq_true rfl, Nat.le_of_ble_eq_true rfl⟩, Nat.le_of_ble_eq_true rfl, Nat.le_of_ble_eq_true rfl⟩ (fun v7 h8 n9 c10 => ?_) (fun E h9 n9 hx => mt_out rfl (by obtain ⟨rfl, hq, rfl, rfl⟩ := hx; exact cNo.i (by simp only [sp_swap, dAt_n hq, dAt_s hr5 (by decide)])) (Nat.le_of_ble_eq_true rfl) (Nat.le_of_ble_eq_true rfl))
  obtain ⟨p11, hp11, rfl, c10a, c10b, c10c⟩ := c10
  rw [c10a, c10b, c10c]
  have hLp11 := (H6).len
  show mT _ _ _ _ 13 [.ref 0, .int (nI r5), .int (nI p11), .int other, .ref (2 + 3 * r5), .double 0] [] _ _ _ _
  refine mt_aload dX2_swap_13 rfl rfl ?_
  refine mt_iload_n dX2_swap_15 rfl ?_
  refine mt_callS (N := mX2_demandPlace) (Rc := rX2_demandPlace) (As := [.ref (2 + 3 * r5), .int other]) (st := []) dX2_swap_16 (kX2_demandPlace hl H6) sX2_demandPlace mw_457 rfl (Nat.le_of_ble_eq_true rfl) ⟨⟨Nat.le_of_ble_eq_true rfl, Nat.le_of_ble_eq_true rfl⟩, Nat.le_of_ble_eq_true rfl, Nat.le_of_ble_eq_true rfl⟩ (fun v12 h13 n14 c15 => ?_) (fun E h9 n9 hx => mt_out rfl (by obtain ⟨rfl, hq, rfl, rfl⟩ := hx; exact cNo.i (by simp only [sp_swap, dAt_n hq, dAt_s hr5 (by decide), dAt_s hp11 (by omega)])) (Nat.le_of_ble_eq_true rfl) (Nat.le_of_ble_eq_true rfl))
  obtain ⟨p16, hp16, rfl, c15a, c15b, c15c⟩ := c15
  rw [c15a, c15b, c15c]
  have hLp16 := (H6).len
  show mT _ _ _ _ 19 [.ref 0, .int (nI r5), .int (nI p11), .int (nI p16), .ref (2 + 3 * r5), .double 0] [] _ _ _ _
  refine mt_aload dX2_swap_19 rfl rfl ?_
  obtain ⟨f_17, g_17, ea_17, ek_17, es_17, ql_17, qr_17, qk_17, qt_17⟩ := id H6
  refine mt_getfield mKX1 (i := 0) (by decide) mw_68 dX2_swap_21 ea_17 rfl ?_
  refine mt_iload_n dX2_swap_24 rfl ?_
  refine mp_iaload dX2_swap_25 ek_17 rfl (by omega) (by omega) (v := xk (S.1 r5) p11) (qk_17 _ (by omega)) ?_
  refine mt_aload dX2_swap_26 rfl rfl ?_
  refine mt_getfield mKX1 (i := 0) (by decide) mw_68 dX2_swap_28 ea_17 rfl ?_
  refine mt_iload_n dX2_swap_31 rfl ?_
  refine mp_iaload dX2_swap_32 ek_17 rfl (by omega) (by omega) (v := xk (S.1 r5) p16) (qk_17 _ (by omega)) ?_
  refine mt_icmp_eq dX2_swap_33 (tgt := 40) rfl (fun q18 => ?_) (fun q18 => ?_)
  · refine mt_iconst dX2_swap_40 (v := nI 0) rfl ?_
    refine mp_istore dX2_swap_41 (ls' := [.ref 0, .int (nI r5), .int (nI p11), .int (nI p16), .ref (2 + 3 * r5), .int (nI 0)]) rfl (by decide) rfl ?_
    refine mt_aload dX2_swap_43 rfl rfl ?_
    refine mt_iload_n dX2_swap_45 rfl ?_
    refine mt_iload_n dX2_swap_46 rfl ?_
    refine mt_callV (N := mX1_trade) (Rc := rX1_trade) (As := [.int (nI p11), .int (nI p16)]) (st := []) dX2_swap_47 (kX1_trade hl H6 (by omega) (by omega)) sX1_trade mw_492 mKX1 rfl ea_17 rfl (Nat.le_of_ble_eq_true rfl) ⟨⟨Nat.le_of_ble_eq_true rfl, Nat.le_of_ble_eq_true rfl⟩, Nat.le_of_ble_eq_true rfl, Nat.le_of_ble_eq_true rfl⟩ (fun v19 h20 n21 c22 => ?_) (fun _ _ _ hx => hx.elim)
    obtain ⟨c22a, c22b, c22c, c22d⟩ := c22
    rw [c22a, c22b]
    show mT _ _ _ _ 50 [.ref 0, .int (nI r5), .int (nI p11), .int (nI p16), .ref (2 + 3 * r5), .int (nI 0)] [] _ _ _ _
    refine mt_aload_n dX2_swap_50 rfl rfl ?_
    refine mt_iload dX2_swap_51 rfl ?_
    refine mt_if_eq dX2_swap_53 (tgt := 60) rfl (fun q23 => ?_) (fun q23 => ?_)
    · have q23 := (mI_eq0 (by omega)).mp q23
      refine mt_iconst dX2_swap_60 (v := nI 0) rfl ?_
      refine mt_callV (N := mX2_done) (Rc := rX2_done) (As := [.int (nI 0)]) (st := []) dX2_swap_61 (kX2_done hl ((c22d (0) (by omega)).trans C0)) sX2_done mw_430 mKX2 rfl ((c22d (0) (by omega)).trans C0) rfl (Nat.le_of_ble_eq_true rfl) ⟨⟨Nat.le_of_ble_eq_true rfl, Nat.le_of_ble_eq_true rfl⟩, Nat.le_of_ble_eq_true rfl, Nat.le_of_ble_eq_true rfl⟩ (fun v24 h25 n26 c27 => ?_) (fun _ _ _ hx => hx.elim)
      obtain ⟨c27a, c27b, c27c, c27d⟩ := c27
      rw [c27a, c27b]
      show mT _ _ _ _ 64 [.ref 0, .int (nI r5), .int (nI p11), .int (nI p16), .ref (2 + 3 * r5), .int (nI 0)] [.int (nI 0)] _ _ _ _
      refine mt_ireturn dX2_swap_64 rfl rfl (Nat.le_of_ble_eq_true rfl) (Nat.le_of_ble_eq_true rfl) ?_
      exact cOk.of (x := .int (nI 0)) (S' := (fun k => if k = r5 then swp (S.1 r5) p11 p16 else S.1 k, S.2.1, S.2.2.1 + nI 1, S.2.2.2.1, S.2.2.2.2)) (by simp only [sp_swap, dAt_s hr5 (by decide), dAt_s hp11 (by omega), dAt_s hp16 (by omega)]; simp only [q18, if_true, if_false]; rfl) rfl rfl ⟨c27c, ⟨cg, (c27d (1) (by omega)).trans ((c22d (1) (by omega)).trans C1), C1g⟩, (c27d (14) (by omega)).trans ((c22d (14) (by omega)).trans C14), cRows CR (by omega) ((c22c).fr (fun j j1 j2 => c27d j (by omega))) (fun j j1 j2 j3 => (c27d j (by omega)).trans (c22d j (by omega))), ⟨_, ((HK15).fr (fun j j1 j2 => c22d j (by omega))).fr (fun j j1 j2 => c27d j (by omega))⟩, ⟨_, ((HK18).fr (fun j j1 j2 => c22d j (by omega))).fr (fun j j1 j2 => c27d j (by omega))⟩, ⟨_, ((HK21).fr (fun j j1 j2 => c22d j (by omega))).fr (fun j j1 j2 => c27d j (by omega))⟩, ⟨_, ((HK24).fr (fun j j1 j2 => c22d j (by omega))).fr (fun j j1 j2 => c27d j (by omega))⟩⟩ (fun j hj => (c27d j (by omega)).trans (c22d j (by omega)))
    · have q23 := (not_congr (mI_eq0 (by omega))).mp q23
      exact absurd q23 (by decide)
  · refine mt_iconst dX2_swap_36 (v := nI 1) rfl ?_
    refine mt_goto dX2_swap_37 (tgt := 41) rfl ?_
    refine mp_istore dX2_swap_41 (ls' := [.ref 0, .int (nI r5), .int (nI p11), .int (nI p16), .ref (2 + 3 * r5), .int (nI 1)]) rfl (by decide) rfl ?_
    refine mt_aload dX2_swap_43 rfl rfl ?_
    refine mt_iload_n dX2_swap_45 rfl ?_
    refine mt_iload_n dX2_swap_46 rfl ?_
    refine mt_callV (N := mX1_trade) (Rc := rX1_trade) (As := [.int (nI p11), .int (nI p16)]) (st := []) dX2_swap_47 (kX1_trade hl H6 (by omega) (by omega)) sX1_trade mw_492 mKX1 rfl ea_17 rfl (Nat.le_of_ble_eq_true rfl) ⟨⟨Nat.le_of_ble_eq_true rfl, Nat.le_of_ble_eq_true rfl⟩, Nat.le_of_ble_eq_true rfl, Nat.le_of_ble_eq_true rfl⟩ (fun v28 h29 n30 c31 => ?_) (fun _ _ _ hx => hx.elim)
    obtain ⟨c31a, c31b, c31c, c31d⟩ := c31
    rw [c31a, c31b]
    show mT _ _ _ _ 50 [.ref 0, .int (nI r5), .int (nI p11), .int (nI p16), .ref (2 + 3 * r5), .int (nI 1)] [] _ _ _ _
    refine mt_aload_n dX2_swap_50 rfl rfl ?_
    refine mt_iload dX2_swap_51 rfl ?_
    refine mt_if_eq dX2_swap_53 (tgt := 60) rfl (fun q32 => ?_) (fun q32 => ?_)
    · have q32 := (mI_eq0 (by omega)).mp q32
      exact absurd q32 (by decide)
    · have q32 := (not_congr (mI_eq0 (by omega))).mp q32
      refine mt_iconst dX2_swap_56 (v := nI 1) rfl ?_
      refine mt_goto dX2_swap_57 (tgt := 61) rfl ?_
      refine mt_callV (N := mX2_done) (Rc := rX2_done) (As := [.int (nI 1)]) (st := []) dX2_swap_61 (kX2_done hl ((c31d (0) (by omega)).trans C0)) sX2_done mw_430 mKX2 rfl ((c31d (0) (by omega)).trans C0) rfl (Nat.le_of_ble_eq_true rfl) ⟨⟨Nat.le_of_ble_eq_true rfl, Nat.le_of_ble_eq_true rfl⟩, Nat.le_of_ble_eq_true rfl, Nat.le_of_ble_eq_true rfl⟩ (fun v33 h34 n35 c36 => ?_) (fun _ _ _ hx => hx.elim)
      obtain ⟨c36a, c36b, c36c, c36d⟩ := c36
      rw [c36a, c36b]
      show mT _ _ _ _ 64 [.ref 0, .int (nI r5), .int (nI p11), .int (nI p16), .ref (2 + 3 * r5), .int (nI 1)] [.int (nI 1)] _ _ _ _
      refine mt_ireturn dX2_swap_64 rfl rfl (Nat.le_of_ble_eq_true rfl) (Nat.le_of_ble_eq_true rfl) ?_
      exact cOk.of (x := .int (nI 1)) (S' := (fun k => if k = r5 then swp (S.1 r5) p11 p16 else S.1 k, S.2.1, S.2.2.1 + nI 1, S.2.2.2.1, S.2.2.2.2)) (by simp only [sp_swap, dAt_s hr5 (by decide), dAt_s hp11 (by omega), dAt_s hp16 (by omega)]; simp only [q18, if_true, if_false]; rfl) rfl rfl ⟨c36c, ⟨cg, (c36d (1) (by omega)).trans ((c31d (1) (by omega)).trans C1), C1g⟩, (c36d (14) (by omega)).trans ((c31d (14) (by omega)).trans C14), cRows CR (by omega) ((c31c).fr (fun j j1 j2 => c36d j (by omega))) (fun j j1 j2 j3 => (c36d j (by omega)).trans (c31d j (by omega))), ⟨_, ((HK15).fr (fun j j1 j2 => c31d j (by omega))).fr (fun j j1 j2 => c36d j (by omega))⟩, ⟨_, ((HK18).fr (fun j j1 j2 => c31d j (by omega))).fr (fun j j1 j2 => c36d j (by omega))⟩, ⟨_, ((HK21).fr (fun j j1 j2 => c31d j (by omega))).fr (fun j j1 j2 => c36d j (by omega))⟩, ⟨_, ((HK24).fr (fun j j1 j2 => c31d j (by omega))).fr (fun j j1 j2 => c36d j (by omega))⟩⟩ (fun j hj => (c36d j (by omega)).trans (c31d j (by omega)))
