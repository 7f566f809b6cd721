/-! ===== the class: what is asked of places and rows ===== -/
def sp_many (S : cS) (row : Int32) : Nat × Value × cS := dAt S 4 row fun r => (0, .int (nI (S.1 r).length), S)
abbrev rX2_many : Room := { frames := 7, cells := 1, slots := 6, locals := 111 }
set_option maxRecDepth 100000 in
set_option maxHeartbeats 2000000 in
theorem kX2_many {l : Launch} (hl : l.stackTraces = false) {h : mH} {n : Nat} {S : cS} {row : Int32} (C : cAt h S) : mC l mX2_many rX2_many [.ref 0, .int row] h n (cOk (sp_many S row) h n) (cNo (sp_many S row).1 h n) := by
  obtain ⟨C0, ⟨cg, C1, C1g⟩, C14, CR, ⟨zs15, HK15⟩, ⟨zs18, HK18⟩, ⟨zs21, HK21⟩, ⟨zs24, HK24⟩⟩ := id C
  refine mm_enter hl (by decide +kernel) rfl rfl rfl (Nat.le_of_ble_eq_true rfl) ?_
  show mT _ _ _ _ 0 [.ref 0, .int row] [] _ _ 0 0
  refine mt_aload_n dX2_many_0 rfl rfl ?_
  refine mt_iload_n dX2_many_1 rfl ?_
  refine mt_callV (N := mX2_rowOf) (Rc := rX2_rowOf) (As := [.int row]) (st := []) dX2_many_2 (kX2_rowOf hl C) sX2_rowOf mw_230 mKX2 rfl C0 rfl (Nat.le_of_ble_eq_true rfl) ⟨⟨Nat.le_of_ble_eq_true rfl, Nat.le_of_ble_eq_true rfl⟩, Nat.le_of_ble_eq_true rfl, Nat.le_of_ble_eq_true rfl⟩ (fun v1 h2 n3 c4 => ?_) (fun E h9 n9 hx => mt_out rfl (by obtain ⟨rfl, hq, rfl, rfl⟩ := hx; exact cNo.i (by simp only [sp_many, dAt_n hq])) (Nat.le_of_ble_eq_true rfl) (Nat.le_of_ble_eq_true rfl))
  obtain ⟨r5, hr5, rfl, c4a, c4b, c4c⟩ := c4
  rw [c4a, c4b, c4c]
  have hLr5 := (CR r5 hr5).len
  show mT _ _ _ _ 5 [.ref 0, .int (nI r5)] [.ref (2 + 3 * r5)] _ _ _ _
  obtain ⟨f_6, g_6, ea_6, ek_6, es_6, ql_6, qr_6, qk_6, qt_6⟩ := id CR r5 (by omega)
  refine mt_getfield mKX1 (i := 3) (by decide) mw_76 dX2_many_5 ea_6 rfl ?_
  refine mt_ireturn dX2_many_8 rfl rfl (Nat.le_of_ble_eq_true rfl) (Nat.le_of_ble_eq_true rfl) ?_
  exact cOk.of (x := .int (nI ((S.1 r5).length))) (S' := (S.1, S.2.1, S.2.2.1, S.2.2.2.1, S.2.2.2.2)) (by simp only [sp_many, dAt_s hr5 (by decide)] <;> first | rfl | simp_all) rfl rfl ⟨C0, ⟨cg, C1, C1g⟩, C14, CR, ⟨_, HK15⟩, ⟨_, HK18⟩, ⟨_, HK21⟩, ⟨_, HK24⟩⟩ (fun j hj => rfl)
def sp_isSorted (S : cS) (row : Int32) : Nat × Value × cS := dAt S 4 row fun r => (0, .int (mb (q_isRising (S.1 r))), S)
abbrev rX2_isSorted : Room := { frames := 7, cells := 1, slots := 6, locals := 111 }
set_option maxRecDepth 100000 in
set_option maxHeartbeats 2000000 in
theorem kX2_isSorted {l : Launch} (hl : l.stackTraces = false) {h : mH} {n : Nat} {S : cS} {row : Int32} (C : cAt h S) : mC l mX2_isSorted rX2_isSorted [.ref 0, .int row] h n (cOk (sp_isSorted S row) h n) (cNo (sp_isSorted S row).1 h n) := by
  obtain ⟨C0, ⟨cg, C1, C1g⟩, C14, CR, ⟨zs15, HK15⟩, ⟨zs18, HK18⟩, ⟨zs21, HK21⟩, ⟨zs24, HK24⟩⟩ := id C
  refine mm_enter hl (by decide +kernel) rfl rfl rfl (Nat.le_of_ble_eq_true rfl) ?_
  show mT _ _ _ _ 0 [.ref 0, .int row] [] _ _ 0 0
  refine mt_aload_n dX2_isSorted_0 rfl rfl ?_
  refine mt_iload_n dX2_isSorted_1 rfl ?_
  refine mt_callV (N := mX2_rowOf) (Rc := rX2_rowOf) (As := [.int row]) (st := []) dX2_isSorted_2 (kX2_rowOf hl C) sX2_rowOf mw_230 mKX2 rfl C0 rfl (Nat.le_of_ble_eq_true rfl) ⟨⟨Nat.le_of_ble_eq_true rfl, Nat.le_of_ble_eq_true rfl⟩, Nat.le_of_ble_eq_true rfl, Nat.le_of_ble_eq_true rfl⟩ (fun v1 h2 n3 c4 => ?_) (fun E h9 n9 hx => mt_out rfl (by obtain ⟨rfl, hq, rfl, rfl⟩ := hx; exact cNo.i (by simp only [sp_isSorted, dAt_n hq])) (Nat.le_of_ble_eq_true rfl) (Nat.le_of_ble_eq_true rfl))
  obtain ⟨r5, hr5, rfl, c4a, c4b, c4c⟩ := c4
  rw [c4a, c4b, c4c]
  have hLr5 := (CR r5 hr5).len
  show mT _ _ _ _ 5 [.ref 0, .int (nI r5)] [.ref (2 + 3 * r5)] _ _ _ _
  have H6 : rowAt h (2 + 3 * r5) (rroom r5) (mb (decide (r5 < 2))) (S.1 r5) := CR r5 (by omega)
  obtain ⟨f_11, g_11, ea_11, ek_11, es_11, ql_11, qr_11, qk_11, qt_11⟩ := id H6
  refine mt_callV (N := mX1_isRising) (Rc := rX1_isRising) (As := []) (st := []) dX2_isSorted_5 (kX1_isRising hl H6) sX1_isRising mw_182 mKX1 rfl ea_11 rfl (Nat.le_of_ble_eq_true rfl) ⟨⟨Nat.le_of_ble_eq_true rfl, Nat.le_of_ble_eq_true rfl⟩, Nat.le_of_ble_eq_true rfl, Nat.le_of_ble_eq_true rfl⟩ (fun v7 h8 n9 c10 => ?_) (fun _ _ _ hx => hx.elim)
  obtain ⟨c10a, c10b, c10c⟩ := c10
  rw [c10a, c10b, c10c]
  show mT _ _ _ _ 8 [.ref 0, .int (nI r5)] [.int (mb (q_isRising (S.1 r5)))] _ _ _ _
  refine mt_ireturn dX2_isSorted_8 rfl narrow_mb (Nat.le_of_ble_eq_true rfl) (Nat.le_of_ble_eq_true rfl) ?_
  exact cOk.of (x := .int (mb (q_isRising (S.1 r5)))) (S' := (S.1, S.2.1, S.2.2.1, S.2.2.2.1, S.2.2.2.2)) (by simp only [sp_isSorted, dAt_s hr5 (by decide)] <;> first | rfl | simp_all) rfl rfl ⟨C0, ⟨cg, C1, C1g⟩, C14, CR, ⟨_, HK15⟩, ⟨_, HK18⟩, ⟨_, HK21⟩, ⟨_, HK24⟩⟩ (fun j hj => rfl)
def sp_isFalling (S : cS) (row : Int32) : Nat × Value × cS := dAt S 4 row fun r => (0, .int (mb (q_fallsThroughout (S.1 r))), S)
abbrev rX2_isFalling : Room := { frames := 7, cells := 1, slots := 6, locals := 111 }
set_option maxRecDepth 100000 in
set_option maxHeartbeats 2000000 in
theorem kX2_isFalling {l : Launch} (hl : l.stackTraces = false) {h : mH} {n : Nat} {S : cS} {row : Int32} (C : cAt h S) : mC l mX2_isFalling rX2_isFalling [.ref 0, .int row] h n (cOk (sp_isFalling S row) h n) (cNo (sp_isFalling S row).1 h n) := by
  obtain ⟨C0, ⟨cg, C1, C1g⟩, C14, CR, ⟨zs15, HK15⟩, ⟨zs18, HK18⟩, ⟨zs21, HK21⟩, ⟨zs24, HK24⟩⟩ := id C
  refine mm_enter hl (by decide +kernel) rfl rfl rfl (Nat.le_of_ble_eq_true rfl) ?_
  show mT _ _ _ _ 0 [.ref 0, .int row] [] _ _ 0 0
  refine mt_aload_n dX2_isFalling_0 rfl rfl ?_
  refine mt_iload_n dX2_isFalling_1 rfl ?_
  refine mt_callV (N := mX2_rowOf) (Rc := rX2_rowOf) (As := [.int row]) (st := []) dX2_isFalling_2 (kX2_rowOf hl C) sX2_rowOf mw_230 mKX2 rfl C0 rfl (Nat.le_of_ble_eq_true rfl) ⟨⟨Nat.le_of_ble_eq_true rfl, Nat.le_of_ble_eq_true rfl⟩, Nat.le_of_ble_eq_true rfl, Nat.le_of_ble_eq_true rfl⟩ (fun v1 h2 n3 c4 => ?_) (fun E h9 n9 hx => mt_out rfl (by obtain ⟨rfl, hq, rfl, rfl⟩ := hx; exact cNo.i (by simp only [sp_isFalling, dAt_n hq])) (Nat.le_of_ble_eq_true rfl) (Nat.le_of_ble_eq_true rfl))
  obtain ⟨r5, hr5, rfl, c4a, c4b, c4c⟩ := c4
  rw [c4a, c4b, c4c]
  have hLr5 := (CR r5 hr5).len
  show mT _ _ _ _ 5 [.ref 0, .int (nI r5)] [.ref (2 + 3 * r5)] _ _ _ _
  have H6 : rowAt h (2 + 3 * r5) (rroom r5) (mb (decide (r5 < 2))) (S.1 r5) := CR r5 (by omega)
  obtain ⟨f_11, g_11, ea_11, ek_11, es_11, ql_11, qr_11, qk_11, qt_11⟩ := id H6
  refine mt_callV (N := mX1_fallsThroughout) (Rc := rX1_fallsThroughout) (As := []) (st := []) dX2_isFalling_5 (kX1_fallsThroughout hl H6) sX1_fallsThroughout mw_913 mKX1 rfl ea_11 rfl (Nat.le_of_ble_eq_true rfl) ⟨⟨Nat.le_of_ble_eq_true rfl, Nat.le_of_ble_eq_true rfl⟩, Nat.le_of_ble_eq_true rfl, Nat.le_of_ble_eq_true rfl⟩ (fun v7 h8 n9 c10 => ?_) (fun _ _ _ hx => hx.elim)
  obtain ⟨c10a, c10b, c10c⟩ := c10
  rw [c10a, c10b, c10c]
  show mT _ _ _ _ 8 [.ref 0, .int (nI r5)] [.int (mb (q_fallsThroughout (S.1 r5)))] _ _ _ _
  refine mt_ireturn dX2_isFalling_8 rfl narrow_mb (Nat.le_of_ble_eq_true rfl) (Nat.le_of_ble_eq_true rfl) ?_
  exact cOk.of (x := .int (mb (q_fallsThroughout (S.1 r5)))) (S' := (S.1, S.2.1, S.2.2.1, S.2.2.2.1, S.2.2.2.2)) (by simp only [sp_isFalling, dAt_s hr5 (by decide)] <;> first | rfl | simp_all) rfl rfl ⟨C0, ⟨cg, C1, C1g⟩, C14, CR, ⟨_, HK15⟩, ⟨_, HK18⟩, ⟨_, HK21⟩, ⟨_, HK24⟩⟩ (fun j hj => rfl)
def sp_isKept (S : cS) (row : Int32) : Nat × Value × cS := dAt S 4 row fun r => (0, .int (mb (q_keepsStamps (S.1 r))), S)
abbrev rX2_isKept : Room := { frames := 7, cells := 1, slots := 6, locals := 111 }
set_option maxRecDepth 100000 in
set_option maxHeartbeats 2000000 in
theorem kX2_isKept {l : Launch} (hl : l.stackTraces = false) {h : mH} {n : Nat} {S : cS} {row : Int32} (C : cAt h S) : mC l mX2_isKept rX2_isKept [.ref 0, .int row] h n (cOk (sp_isKept S row) h n) (cNo (sp_isKept S row).1 h n) := by
  obtain ⟨C0, ⟨cg, C1, C1g⟩, C14, CR, ⟨zs15, HK15⟩, ⟨zs18, HK18⟩, ⟨zs21, HK21⟩, ⟨zs24, HK24⟩⟩ := id C
  refine mm_enter hl (by decide +kernel) rfl rfl rfl (Nat.le_of_ble_eq_true rfl) ?_
  show mT _ _ _ _ 0 [.ref 0, .int row] [] _ _ 0 0
  refine mt_aload_n dX2_isKept_0 rfl rfl ?_
  refine mt_iload_n dX2_isKept_1 rfl ?_
  refine mt_callV (N := mX2_rowOf) (Rc := rX2_rowOf) (As := [.int row]) (st := []) dX2_isKept_2 (kX2_rowOf hl C) sX2_rowOf mw_230 mKX2 rfl C0 rfl (Nat.le_of_ble_eq_true rfl) ⟨⟨Nat.le_of_ble_eq_true rfl, Nat.le_of_ble_eq_true rfl⟩, Nat.le_of_ble_eq_true rfl, Nat.le_of_ble_eq_true rfl⟩ (fun v1 h2 n3 c4 => ?_) (fun E h9 n9 hx => mt_out rfl (by obtain ⟨rfl, hq, rfl, rfl⟩ := hx; exact cNo.i (by simp only [sp_isKept, dAt_n hq])) (Nat.le_of_ble_eq_true rfl) (Nat.le_of_ble_eq_true rfl))
  obtain ⟨r5, hr5, rfl, c4a, c4b, c4c⟩ := c4
  rw [c4a, c4b, c4c]
  have hLr5 := (CR r5 hr5).len
  show mT _ _ _ _ 5 [.ref 0, .int (nI r5)] [.ref (2 + 3 * r5)] _ _ _ _
  have H6 : rowAt h (2 + 3 * r5) (rroom r5) (mb (decide (r5 < 2))) (S.1 r5) := CR r5 (by omega)
  obtain ⟨f_11, g_11, ea_11, ek_11, es_11, ql_11, qr_11, qk_11, qt_11⟩ := id H6
  refine mt_callV (N := mX1_keepsStamps) (Rc := rX1_keepsStamps) (As := []) (st := []) dX2_isKept_5 (kX1_keepsStamps hl H6) sX1_keepsStamps mw_924 mKX1 rfl ea_11 rfl (Nat.le_of_ble_eq_true rfl) ⟨⟨Nat.le_of_ble_eq_true rfl, Nat.le_of_ble_eq_true rfl⟩, Nat.le_of_ble_eq_true rfl, Nat.le_of_ble_eq_true rfl⟩ (fun v7 h8 n9 c10 => ?_) (fun _ _ _ hx => hx.elim)
  obtain ⟨c10a, c10b, c10c⟩ := c10
  rw [c10a, c10b, c10c]
  show mT _ _ _ _ 8 [.ref 0, .int (nI r5)] [.int (mb (q_keepsStamps (S.1 r5)))] _ _ _ _
  refine mt_ireturn dX2_isKept_8 rfl narrow_mb (Nat.le_of_ble_eq_true rfl) (Nat.le_of_ble_eq_true rfl) ?_
  exact cOk.of (x := .int (mb (q_keepsStamps (S.1 r5)))) (S' := (S.1, S.2.1, S.2.2.1, S.2.2.2.1, S.2.2.2.2)) (by simp only [sp_isKept, dAt_s hr5 (by decide)] <;> first | rfl | simp_all) rfl rfl ⟨C0, ⟨cg, C1, C1g⟩, C14, CR, ⟨_, HK15⟩, ⟨_, HK18⟩, ⟨_, HK21⟩, ⟨_, HK24⟩⟩ (fun j hj => rfl)
def sp_right (S : cS) (row : Int32) : Nat × Value × cS := dAt S 4 row fun r => (0, .int (q_rightPairs (S.1 r)), S)
abbrev rX2_right : Room := { frames := 7, cells := 1, slots := 6, locals := 111 }
set_option maxRecDepth 100000 in
set_option maxHeartbeats 2000000 in
theorem kX2_right {l : Launch} (hl : l.stackTraces = false) {h : mH} {n : Nat} {S : cS} {row : Int32} (C : cAt h S) : mC l mX2_right rX2_right [.ref 0, .int row] h n (cOk (sp_right S row) h n) (cNo (sp_right S row).1 h n) := by
  obtain ⟨C0, ⟨cg, C1, C1g⟩, C14, CR, ⟨zs15, HK15⟩, ⟨zs18, HK18⟩, ⟨zs21, HK21⟩, ⟨zs24, HK24⟩⟩ := id C
  refine mm_enter hl (by decide +kernel) rfl rfl rfl (Nat.le_of_ble_eq_true rfl) ?_
  show mT _ _ _ _ 0 [.ref 0, .int row] [] _ _ 0 0
  refine mt_aload_n dX2_right_0 rfl rfl ?_
  refine mt_iload_n dX2_right_1 rfl ?_
  refine mt_callV (N := mX2_rowOf) (Rc := rX2_rowOf) (As := [.int row]) (st := []) dX2_right_2 (kX2_rowOf hl C) sX2_rowOf mw_230 mKX2 rfl C0 rfl (Nat.le_of_ble_eq_true rfl) ⟨⟨Nat.le_of_ble_eq_true rfl, Nat.le_of_ble_eq_true rfl⟩, Nat.le_of_ble_eq_true rfl, Nat.le_of_ble_eq_true rfl⟩ (fun v1 h2 n3 c4 => ?_) (fun E h9 n9 hx => mt_out rfl (by obtain ⟨rfl, hq, rfl, rfl⟩ := hx; exact cNo.i (by simp only [sp_right, dAt_n hq])) (Nat.le_of_ble_eq_true rfl) (Nat.le_of_ble_eq_true rfl))
  obtain ⟨r5, hr5, rfl, c4a, c4b, c4c⟩ := c4
  rw [c4a, c4b, c4c]
  have hLr5 := (CR r5 hr5).len
  show mT _ _ _ _ 5 [.ref 0, .int (nI r5)] [.ref (2 + 3 * r5)] _ _ _ _
  have H6 : rowAt h (2 + 3 * r5) (rroom r5) (mb (decide (r5 < 2))) (S.1 r5) := CR r5 (by omega)
  obtain ⟨f_11, g_11, ea_11, ek_11, es_11, ql_11, qr_11, qk_11, qt_11⟩ := id H6
  refine mt_callV (N := mX1_rightPairs) (Rc := rX1_rightPairs) (As := []) (st := []) dX2_right_5 (kX1_rightPairs hl H6) sX1_rightPairs mw_186 mKX1 rfl ea_11 rfl (Nat.le_of_ble_eq_true rfl) ⟨⟨Nat.le_of_ble_eq_true rfl, Nat.le_of_ble_eq_true rfl⟩, Nat.le_of_ble_eq_true rfl, Nat.le_of_ble_eq_true rfl⟩ (fun v7 h8 n9 c10 => ?_) (fun _ _ _ hx => hx.elim)
  obtain ⟨c10a, c10b, c10c⟩ := c10
  rw [c10a, c10b, c10c]
  show mT _ _ _ _ 8 [.ref 0, .int (nI r5)] [.int (q_rightPairs (S.1 r5))] _ _ _ _
  refine mt_ireturn dX2_right_8 rfl rfl (Nat.le_of_ble_eq_true rfl) (Nat.le_of_ble_eq_true rfl) ?_
  exact cOk.of (x := .int (q_rightPairs (S.1 r5))) (S' := (S.1, S.2.1, S.2.2.1, S.2.2.2.1, S.2.2.2.2)) (by simp only [sp_right, dAt_s hr5 (by decide)] <;> first | rfl | simp_all) rfl rfl ⟨C0, ⟨cg, C1, C1g⟩, C14, CR, ⟨_, HK15⟩, ⟨_, HK18⟩, ⟨_, HK21⟩, ⟨_, HK24⟩⟩ (fun j hj => rfl)
def sp_runs (S : cS) (row : Int32) : Nat × Value × cS := dAt S 4 row fun r => (0, .int (q_runsInAll (S.1 r)), S)
abbrev rX2_runs : Room := { frames := 7, cells := 1, slots := 6, locals := 111 }
set_option maxRecDepth 100000 in
set_option maxHeartbeats 2000000 in
theorem kX2_runs {l : Launch} (hl : l.stackTraces = false) {h : mH} {n : Nat} {S : cS} {row : Int32} (C : cAt h S) : mC l mX2_runs rX2_runs [.ref 0, .int row] h n (cOk (sp_runs S row) h n) (cNo (sp_runs S row).1 h n) := by
  obtain ⟨C0, ⟨cg, C1, C1g⟩, C14, CR, ⟨zs15, HK15⟩, ⟨zs18, HK18⟩, ⟨zs21, HK21⟩, ⟨zs24, HK24⟩⟩ := id C
  refine mm_enter hl (by decide +kernel) rfl rfl rfl (Nat.le_of_ble_eq_true rfl) ?_
  show mT _ _ _ _ 0 [.ref 0, .int row] [] _ _ 0 0
  refine mt_aload_n dX2_runs_0 rfl rfl ?_
  refine mt_iload_n dX2_runs_1 rfl ?_
  refine mt_callV (N := mX2_rowOf) (Rc := rX2_rowOf) (As := [.int row]) (st := []) dX2_runs_2 (kX2_rowOf hl C) sX2_rowOf mw_230 mKX2 rfl C0 rfl (Nat.le_of_ble_eq_true rfl) ⟨⟨Nat.le_of_ble_eq_true rfl, Nat.le_of_ble_eq_true rfl⟩, Nat.le_of_ble_eq_true rfl, Nat.le_of_ble_eq_true rfl⟩ (fun v1 h2 n3 c4 => ?_) (fun E h9 n9 hx => mt_out rfl (by obtain ⟨rfl, hq, rfl, rfl⟩ := hx; exact cNo.i (by simp only [sp_runs, dAt_n hq])) (Nat.le_of_ble_eq_true rfl) (Nat.le_of_ble_eq_true rfl))
  obtain ⟨r5, hr5, rfl, c4a, c4b, c4c⟩ := c4
  rw [c4a, c4b, c4c]
  have hLr5 := (CR r5 hr5).len
  show mT _ _ _ _ 5 [.ref 0, .int (nI r5)] [.ref (2 + 3 * r5)] _ _ _ _
  have H6 : rowAt h (2 + 3 * r5) (rroom r5) (mb (decide (r5 < 2))) (S.1 r5) := CR r5 (by omega)
  obtain ⟨f_11, g_11, ea_11, ek_11, es_11, ql_11, qr_11, qk_11, qt_11⟩ := id H6
  refine mt_callV (N := mX1_runsInAll) (Rc := rX1_runsInAll) (As := []) (st := []) dX2_runs_5 (kX1_runsInAll hl H6) sX1_runsInAll mw_336 mKX1 rfl ea_11 rfl (Nat.le_of_ble_eq_true rfl) ⟨⟨Nat.le_of_ble_eq_true rfl, Nat.le_of_ble_eq_true rfl⟩, Nat.le_of_ble_eq_true rfl, Nat.le_of_ble_eq_true rfl⟩ (fun v7 h8 n9 c10 => ?_) (fun _ _ _ hx => hx.elim)
  obtain ⟨c10a, c10b, c10c⟩ := c10
  rw [c10a, c10b, c10c]
  show mT _ _ _ _ 8 [.ref 0, .int (nI r5)] [.int (q_runsInAll (S.1 r5))] _ _ _ _
  refine mt_ireturn dX2_runs_8 rfl rfl (Nat.le_of_ble_eq_true rfl) (Nat.le_of_ble_eq_true rfl) ?_
  exact cOk.of (x := .int (q_runsInAll (S.1 r5))) (S' := (S.1, S.2.1, S.2.2.1, S.2.2.2.1, S.2.2.2.2)) (by simp only [sp_runs, dAt_s hr5 (by decide)] <;> first | rfl | simp_all) rfl rfl ⟨C0, ⟨cg, C1, C1g⟩, C14, CR, ⟨_, HK15⟩, ⟨_, HK18⟩, ⟨_, HK21⟩, ⟨_, HK24⟩⟩ (fun j hj => rfl)
def sp_longest (S : cS) (row : Int32) : Nat × Value × cS := dAt S 4 row fun r => (0, .int (q_longestRun (S.1 r)), S)
abbrev rX2_longest : Room := { frames := 7, cells := 1, slots := 6, locals := 111 }
set_option maxRecDepth 100000 in
set_option maxHeartbeats 2000000 in
theorem kX2_longest {l : Launch} (hl : l.stackTraces = false) {h : mH} {n : Nat} {S : cS} {row : Int32} (C : cAt h S) : mC l mX2_longest rX2_longest [.ref 0, .int row] h n (cOk (sp_longest S row) h n) (cNo (sp_longest S row).1 h n) := by
  obtain ⟨C0, ⟨cg, C1, C1g⟩, C14, CR, ⟨zs15, HK15⟩, ⟨zs18, HK18⟩, ⟨zs21, HK21⟩, ⟨zs24, HK24⟩⟩ := id C
  refine mm_enter hl (by decide +kernel) rfl rfl rfl (Nat.le_of_ble_eq_true rfl) ?_
  show mT _ _ _ _ 0 [.ref 0, .int row] [] _ _ 0 0
  refine mt_aload_n dX2_longest_0 rfl rfl ?_
  refine mt_iload_n dX2_longest_1 rfl ?_
  refine mt_callV (N := mX2_rowOf) (Rc := rX2_rowOf) (As := [.int row]) (st := []) dX2_longest_2 (kX2_rowOf hl C) sX2_rowOf mw_230 mKX2 rfl C0 rfl (Nat.le_of_ble_eq_true rfl) ⟨⟨Nat.le_of_ble_eq_true rfl, Nat.le_of_ble_eq_true rfl⟩, Nat.le_of_ble_eq_true rfl, Nat.le_of_ble_eq_true rfl⟩ (fun v1 h2 n3 c4 => ?_) (fun E h9 n9 hx => mt_out rfl (by obtain ⟨rfl, hq, rfl, rfl⟩ := hx; exact cNo.i (by simp only [sp_longest, dAt_n hq])) (Nat.le_of_ble_eq_true rfl) (Nat.le_of_ble_eq_true rfl))
  obtain ⟨r5, hr5, rfl, c4a, c4b, c4c⟩ := c4
  rw [c4a, c4b, c4c]
  have hLr5 := (CR r5 hr5).len
  show mT _ _ _ _ 5 [.ref 0, .int (nI r5)] [.ref (2 + 3 * r5)] _ _ _ _
  have H6 : rowAt h (2 + 3 * r5) (rroom r5) (mb (decide (r5 < 2))) (S.1 r5) := CR r5 (by omega)
  obtain ⟨f_11, g_11, ea_11, ek_11, es_11, ql_11, qr_11, qk_11, qt_11⟩ := id H6
  refine mt_callV (N := mX1_longestRun) (Rc := rX1_longestRun) (As := []) (st := []) dX2_longest_5 (kX1_longestRun hl H6) sX1_longestRun mw_344 mKX1 rfl ea_11 rfl (Nat.le_of_ble_eq_true rfl) ⟨⟨Nat.le_of_ble_eq_true rfl, Nat.le_of_ble_eq_true rfl⟩, Nat.le_of_ble_eq_true rfl, Nat.le_of_ble_eq_true rfl⟩ (fun v7 h8 n9 c10 => ?_) (fun _ _ _ hx => hx.elim)
  obtain ⟨c10a, c10b, c10c⟩ := c10
  rw [c10a, c10b, c10c]
  show mT _ _ _ _ 8 [.ref 0, .int (nI r5)] [.int (q_longestRun (S.1 r5))] _ _ _ _
  refine mt_ireturn dX2_longest_8 rfl rfl (Nat.le_of_ble_eq_true rfl) (Nat.le_of_ble_eq_true rfl) ?_
  exact cOk.of (x := .int (q_longestRun (S.1 r5))) (S' := (S.1, S.2.1, S.2.2.1, S.2.2.2.1, S.2.2.2.2)) (by simp only [sp_longest, dAt_s hr5 (by decide)] <;> first | rfl | simp_all) rfl rfl ⟨C0, ⟨cg, C1, C1g⟩, C14, CR, ⟨_, HK15⟩, ⟨_, HK18⟩, ⟨_, HK21⟩, ⟨_, HK24⟩⟩ (fun j hj => rfl)
def sp_sum (S : cS) (row : Int32) : Nat × Value × cS := dAt S 4 row fun r => (0, .int (q_keysTogether (S.1 r)), S)
abbrev rX2_sum : Room := { frames := 7, cells := 1, slots := 6, locals := 111 }
set_option maxRecDepth 100000 in
set_option maxHeartbeats 2000000 in
theorem kX2_sum {l : Launch} (hl : l.stackTraces = false) {h : mH} {n : Nat} {S : cS} {row : Int32} (C : cAt h S) : mC l mX2_sum rX2_sum [.ref 0, .int row] h n (cOk (sp_sum S row) h n) (cNo (sp_sum S row).1 h n) := by
  obtain ⟨C0, ⟨cg, C1, C1g⟩, C14, CR, ⟨zs15, HK15⟩, ⟨zs18, HK18⟩, ⟨zs21, HK21⟩, ⟨zs24, HK24⟩⟩ := id C
  refine mm_enter hl (by decide +kernel) rfl rfl rfl (Nat.le_of_ble_eq_true rfl) ?_
  show mT _ _ _ _ 0 [.ref 0, .int row] [] _ _ 0 0
  refine mt_aload_n dX2_sum_0 rfl rfl ?_
  refine mt_iload_n dX2_sum_1 rfl ?_
  refine mt_callV (N := mX2_rowOf) (Rc := rX2_rowOf) (As := [.int row]) (st := []) dX2_sum_2 (kX2_rowOf hl C) sX2_rowOf mw_230 mKX2 rfl C0 rfl (Nat.le_of_ble_eq_true rfl) ⟨⟨Nat.le_of_ble_eq_true rfl, Nat.le_of_ble_eq_true rfl⟩, Nat.le_of_ble_eq_true rfl, Nat.le_of_ble_eq_true rfl⟩ (fun v1 h2 n3 c4 => ?_) (fun E h9 n9 hx => mt_out rfl (by obtain ⟨rfl, hq, rfl, rfl⟩ := hx; exact cNo.i (by simp only [sp_sum, dAt_n hq])) (Nat.le_of_ble_eq_true rfl) (Nat.le_of_ble_eq_true rfl))
  obtain ⟨r5, hr5, rfl, c4a, c4b, c4c⟩ := c4
  rw [c4a, c4b, c4c]
  have hLr5 := (CR r5 hr5).len
  show mT _ _ _ _ 5 [.ref 0, .int (nI r5)] [.ref (2 + 3 * r5)] _ _ _ _
  have H6 : rowAt h (2 + 3 * r5) (rroom r5) (mb (decide (r5 < 2))) (S.1 r5) := CR r5 (by omega)
  obtain ⟨f_11, g_11, ea_11, ek_11, es_11, ql_11, qr_11, qk_11, qt_11⟩ := id H6
  refine mt_callV (N := mX1_keysTogether) (Rc := rX1_keysTogether) (As := []) (st := []) dX2_sum_5 (kX1_keysTogether hl H6) sX1_keysTogether mw_355 mKX1 rfl ea_11 rfl (Nat.le_of_ble_eq_true rfl) ⟨⟨Nat.le_of_ble_eq_true rfl, Nat.le_of_ble_eq_true rfl⟩, Nat.le_of_ble_eq_true rfl, Nat.le_of_ble_eq_true rfl⟩ (fun v7 h8 n9 c10 => ?_) (fun _ _ _ hx => hx.elim)
  obtain ⟨c10a, c10b, c10c⟩ := c10
  rw [c10a, c10b, c10c]
  show mT _ _ _ _ 8 [.ref 0, .int (nI r5)] [.int (q_keysTogether (S.1 r5))] _ _ _ _
  refine mt_ireturn dX2_sum_8 rfl rfl (Nat.le_of_ble_eq_true rfl) (Nat.le_of_ble_eq_true rfl) ?_
  exact cOk.of (x := .int (q_keysTogether (S.1 r5))) (S' := (S.1, S.2.1, S.2.2.1, S.2.2.2.1, S.2.2.2.2)) (by simp only [sp_sum, dAt_s hr5 (by decide)] <;> first | rfl | simp_all) rfl rfl ⟨C0, ⟨cg, C1, C1g⟩, C14, CR, ⟨_, HK15⟩, ⟨_, HK18⟩, ⟨_, HK21⟩, ⟨_, HK24⟩⟩ (fun j hj => rfl)
def sp_ties (S : cS) (row : Int32) : Nat × Value × cS := dAt S 4 row fun r => (0, .int (q_tiedPairsOfSorted (msort (S.1 r)).1), S)
abbrev rX2_ties : Room := { frames := 7, cells := 1, slots := 6, locals := 123 }
set_option maxRecDepth 100000 in
set_option maxHeartbeats 2000000 in
theorem kX2_ties {l : Launch} (hl : l.stackTraces = false) {h : mH} {n : Nat} {S : cS} {row : Int32} (C : cAt h S) : mC l mX2_ties rX2_ties [.ref 0, .int row] h n (cOk (sp_ties S row) h n) (cNo (sp_ties S row).1 h n) := by
  obtain ⟨C0, ⟨cg, C1, C1g⟩, C14, CR, ⟨zs15, HK15⟩, ⟨zs18, HK18⟩, ⟨zs21, HK21⟩, ⟨zs24, HK24⟩⟩ := id C
  refine mm_enter hl (by decide +kernel) rfl rfl rfl (Nat.le_of_ble_eq_true rfl) ?_
  show mT _ _ _ _ 0 [.ref 0, .int row] [] _ _ 0 0
  refine mt_aload_n dX2_ties_0 rfl rfl ?_
  refine mt_getfield mKX2 (i := 1) (by decide) mw_113 dX2_ties_1 C0 rfl ?_
  refine mt_aload_n dX2_ties_4 rfl rfl ?_
  refine mt_iload_n dX2_ties_5 rfl ?_
  refine mt_callV (N := mX2_rowOf) (Rc := rX2_rowOf) (As := [.int row]) (st := [.ref 14]) dX2_ties_6 (kX2_rowOf hl C) sX2_rowOf mw_230 mKX2 rfl C0 rfl (Nat.le_of_ble_eq_true rfl) ⟨⟨Nat.le_of_ble_eq_true rfl, Nat.le_of_ble_eq_true rfl⟩, Nat.le_of_ble_eq_true rfl, Nat.le_of_ble_eq_true rfl⟩ (fun v1 h2 n3 c4 => ?_) (fun E h9 n9 hx => mt_out rfl (by obtain ⟨rfl, hq, rfl, rfl⟩ := hx; exact cNo.i (by simp only [sp_ties, dAt_n hq])) (Nat.le_of_ble_eq_true rfl) (Nat.le_of_ble_eq_true rfl))
  obtain ⟨r5, hr5, rfl, c4a, c4b, c4c⟩ := c4
  rw [c4a, c4b, c4c]
  have hLr5 := (CR r5 hr5).len
  show mT _ _ _ _ 9 [.ref 0, .int (nI r5)] [.ref (2 + 3 * r5), .ref 14] _ _ _ _
  refine mt_aload_n dX2_ties_9 rfl rfl ?_
  refine mt_getfield mKX2 (i := 1) (by decide) mw_113 dX2_ties_10 C0 rfl ?_
  refine mt_getfield mKX0 (i := 0) (by decide) mw_97 dX2_ties_13 C14 rfl ?_
  have H6 : rowAt h (2 + 3 * r5) (rroom r5) (mb (decide (r5 < 2))) (S.1 r5) := CR r5 (by omega)
  refine mt_callV (N := mX0_sortUp) (Rc := rX0_sortUp) (As := [.ref (2 + 3 * r5), .ref 15]) (st := []) dX2_ties_16 (kX0_sortUp hl C14 HK15 H6 HK24 (by omega) (by omega) (by omega) (by omega)) sX0_sortUp mw_143 mKX0 rfl C14 rfl (Nat.le_of_ble_eq_true rfl) ⟨⟨Nat.le_of_ble_eq_true rfl, Nat.le_of_ble_eq_true rfl⟩, Nat.le_of_ble_eq_true rfl, Nat.le_of_ble_eq_true rfl⟩ (fun v7 h8 n9 c10 => ?_) (fun _ _ _ hx => hx.elim)
  obtain ⟨c10a, c10b, c10c, ⟨c10z, c10d⟩, c10e⟩ := c10
  rw [c10a, c10b]
  have c10f : ∀ j, ((j < 15 ∨ 15 + 3 ≤ j) ∧ (j < 24 ∨ 24 + 3 ≤ j)) → h8 j = h j := fun j hj => c10e j hj.1 hj.2
  have mlc10 := msort_len (ys := S.1 r5)
  show mT _ _ _ _ 19 [.ref 0, .int (nI r5)] [.int ((msort (S.1 r5)).2)] _ _ _ _
  refine mt_pop dX2_ties_19 rfl ?_
  refine mt_aload_n dX2_ties_20 rfl rfl ?_
  refine mt_getfield mKX2 (i := 1) (by decide) mw_113 dX2_ties_21 ((c10f (0) (by omega)).trans C0) rfl ?_
  refine mt_getfield mKX0 (i := 0) (by decide) mw_97 dX2_ties_24 ((c10f (14) (by omega)).trans C14) rfl ?_
  obtain ⟨f_15, g_15, ea_15, ek_15, es_15, ql_15, qr_15, qk_15, qt_15⟩ := id c10c
  refine mt_callV (N := mX1_tiedPairsOfSorted) (Rc := rX1_tiedPairsOfSorted) (As := []) (st := []) dX2_ties_27 (kX1_tiedPairsOfSorted hl c10c) sX1_tiedPairsOfSorted mw_190 mKX1 rfl ea_15 rfl (Nat.le_of_ble_eq_true rfl) ⟨⟨Nat.le_of_ble_eq_true rfl, Nat.le_of_ble_eq_true rfl⟩, Nat.le_of_ble_eq_true rfl, Nat.le_of_ble_eq_true rfl⟩ (fun v11 h12 n13 c14 => ?_) (fun _ _ _ hx => hx.elim)
  obtain ⟨c14a, c14b, c14c⟩ := c14
  rw [c14a, c14b, c14c]
  show mT _ _ _ _ 30 [.ref 0, .int (nI r5)] [.int (q_tiedPairsOfSorted ((msort (S.1 r5)).1))] _ _ _ _
  refine mt_ireturn dX2_ties_30 rfl rfl (Nat.le_of_ble_eq_true rfl) (Nat.le_of_ble_eq_true rfl) ?_
  exact cOk.of (x := .int (q_tiedPairsOfSorted ((msort (S.1 r5)).1))) (S' := (S.1, S.2.1, S.2.2.1, S.2.2.2.1, S.2.2.2.2)) (by simp only [sp_ties, dAt_s hr5 (by decide)] <;> first | rfl | simp_all) rfl rfl ⟨(c10f (0) (by omega)).trans C0, ⟨cg, (c10f (1) (by omega)).trans C1, C1g⟩, (c10f (14) (by omega)).trans C14, cRows0 CR (fun j j1 j2 => c10f j (by omega)), ⟨_, c10c⟩, ⟨_, (HK18).fr (fun j j1 j2 => c10f j (by omega))⟩, ⟨_, (HK21).fr (fun j j1 j2 => c10f j (by omega))⟩, ⟨_, c10d⟩⟩ (fun j hj => c10f j (by omega))
def sp_unlike (S : cS) (row : Int32) : Nat × Value × cS := dAt S 4 row fun r => (0, .int (q_unlikeKeysOfSorted (msort (S.1 r)).1), S)
abbrev rX2_unlike : Room := { frames := 7, cells := 1, slots := 6, locals := 123 }
set_option maxRecDepth 100000 in
set_option maxHeartbeats 2000000 in
theorem kX2_unlike {l : Launch} (hl : l.stackTraces = false) {h : mH} {n : Nat} {S : cS} {row : Int32} (C : cAt h S) : mC l mX2_unlike rX2_unlike [.ref 0, .int row] h n (cOk (sp_unlike S row) h n) (cNo (sp_unlike S row).1 h n) := by
  obtain ⟨C0, ⟨cg, C1, C1g⟩, C14, CR, ⟨zs15, HK15⟩, ⟨zs18, HK18⟩, ⟨zs21, HK21⟩, ⟨zs24, HK24⟩⟩ := id C
  refine mm_enter hl (by decide +kernel) rfl rfl rfl (Nat.le_of_ble_eq_true rfl) ?_
  show mT _ _ _ _ 0 [.ref 0, .int row] [] _ _ 0 0
  refine mt_aload_n dX2_unlike_0 rfl rfl ?_
  refine mt_getfield mKX2 (i := 1) (by decide) mw_113 dX2_unlike_1 C0 rfl ?_
  refine mt_aload_n dX2_unlike_4 rfl rfl ?_
  refine mt_iload_n dX2_unlike_5 rfl ?_
  refine mt_callV (N := mX2_rowOf) (Rc := rX2_rowOf) (As := [.int row]) (st := [.ref 14]) dX2_unlike_6 (kX2_rowOf hl C) sX2_rowOf mw_230 mKX2 rfl C0 rfl (Nat.le_of_ble_eq_true rfl) ⟨⟨Nat.le_of_ble_eq_true rfl, Nat.le_of_ble_eq_true rfl⟩, Nat.le_of_ble_eq_true rfl, Nat.le_of_ble_eq_true rfl⟩ (fun v1 h2 n3 c4 => ?_) (fun E h9 n9 hx => mt_out rfl (by obtain ⟨rfl, hq, rfl, rfl⟩ := hx; exact cNo.i (by simp only [sp_unlike, dAt_n hq])) (Nat.le_of_ble_eq_true rfl) (Nat.le_of_ble_eq_true rfl))
  obtain ⟨r5, hr5, rfl, c4a, c4b, c4c⟩ := c4
  rw [c4a, c4b, c4c]
  have hLr5 := (CR r5 hr5).len
  show mT _ _ _ _ 9 [.ref 0, .int (nI r5)] [.ref (2 + 3 * r5), .ref 14] _ _ _ _
  refine mt_aload_n dX2_unlike_9 rfl rfl ?_
  refine mt_getfield mKX2 (i := 1) (by decide) mw_113 dX2_unlike_10 C0 rfl ?_
  refine mt_getfield mKX0 (i := 0) (by decide) mw_97 dX2_unlike_13 C14 rfl ?_
  have H6 : rowAt h (2 + 3 * r5) (rroom r5) (mb (decide (r5 < 2))) (S.1 r5) := CR r5 (by omega)
  refine mt_callV (N := mX0_sortUp) (Rc := rX0_sortUp) (As := [.ref (2 + 3 * r5), .ref 15]) (st := []) dX2_unlike_16 (kX0_sortUp hl C14 HK15 H6 HK24 (by omega) (by omega) (by omega) (by omega)) sX0_sortUp mw_143 mKX0 rfl C14 rfl (Nat.le_of_ble_eq_true rfl) ⟨⟨Nat.le_of_ble_eq_true rfl, Nat.le_of_ble_eq_true rfl⟩, Nat.le_of_ble_eq_true rfl, Nat.le_of_ble_eq_true rfl⟩ (fun v7 h8 n9 c10 => ?_) (fun _ _ _ hx => hx.elim)
  obtain ⟨c10a, c10b, c10c, ⟨c10z, c10d⟩, c10e⟩ := c10
  rw [c10a, c10b]
  have c10f : ∀ j, ((j < 15 ∨ 15 + 3 ≤ j) ∧ (j < 24 ∨ 24 + 3 ≤ j)) → h8 j = h j := fun j hj => c10e j hj.1 hj.2
  have mlc10 := msort_len (ys := S.1 r5)
  show mT _ _ _ _ 19 [.ref 0, .int (nI r5)] [.int ((msort (S.1 r5)).2)] _ _ _ _
  refine mt_pop dX2_unlike_19 rfl ?_
  refine mt_aload_n dX2_unlike_20 rfl rfl ?_
  refine mt_getfield mKX2 (i := 1) (by decide) mw_113 dX2_unlike_21 ((c10f (0) (by omega)).trans C0) rfl ?_
  refine mt_getfield mKX0 (i := 0) (by decide) mw_97 dX2_unlike_24 ((c10f (14) (by omega)).trans C14) rfl ?_
  obtain ⟨f_15, g_15, ea_15, ek_15, es_15, ql_15, qr_15, qk_15, qt_15⟩ := id c10c
  refine mt_callV (N := mX1_unlikeKeysOfSorted) (Rc := rX1_unlikeKeysOfSorted) (As := []) (st := []) dX2_unlike_27 (kX1_unlikeKeysOfSorted hl c10c) sX1_unlikeKeysOfSorted mw_363 mKX1 rfl ea_15 rfl (Nat.le_of_ble_eq_true rfl) ⟨⟨Nat.le_of_ble_eq_true rfl, Nat.le_of_ble_eq_true rfl⟩, Nat.le_of_ble_eq_true rfl, Nat.le_of_ble_eq_true rfl⟩ (fun v11 h12 n13 c14 => ?_) (fun _ _ _ hx => hx.elim)
  obtain ⟨c14a, c14b, c14c⟩ := c14
  rw [c14a, c14b, c14c]
  show mT _ _ _ _ 30 [.ref 0, .int (nI r5)] [.int (q_unlikeKeysOfSorted ((msort (S.1 r5)).1))] _ _ _ _
  refine mt_ireturn dX2_unlike_30 rfl rfl (Nat.le_of_ble_eq_true rfl) (Nat.le_of_ble_eq_true rfl) ?_
  exact cOk.of (x := .int (q_unlikeKeysOfSorted ((msort (S.1 r5)).1))) (S' := (S.1, S.2.1, S.2.2.1, S.2.2.2.1, S.2.2.2.2)) (by simp only [sp_unlike, dAt_s hr5 (by decide)] <;> first | rfl | simp_all) rfl rfl ⟨(c10f (0) (by omega)).trans C0, ⟨cg, (c10f (1) (by omega)).trans C1, C1g⟩, (c10f (14) (by omega)).trans C14, cRows0 CR (fun j j1 j2 => c10f j (by omega)), ⟨_, c10c⟩, ⟨_, (HK18).fr (fun j j1 j2 => c10f j (by omega))⟩, ⟨_, (HK21).fr (fun j j1 j2 => c10f j (by omega))⟩, ⟨_, c10d⟩⟩ (fun j hj => c10f j (by omega))
def sp_most (S : cS) (row : Int32) : Nat × Value × cS := dAt S 4 row fun r => (0, .int (q_commonestKeyOfSorted (msort (S.1 r)).1), S)
abbrev rX2_most : Room := { frames := 7, cells := 1, slots := 6, locals := 123 }
set_option maxRecDepth 100000 in
set_option maxHeartbeats 2000000 in
theorem kX2_most {l : Launch} (hl : l.stackTraces = false) {h : mH} {n : Nat} {S : cS} {row : Int32} (C : cAt h S) : mC l mX2_most rX2_most [.ref 0, .int row] h n (cOk (sp_most S row) h n) (cNo (sp_most S row).1 h n) := by
  obtain ⟨C0, ⟨cg, C1, C1g⟩, C14, CR, ⟨zs15, HK15⟩, ⟨zs18, HK18⟩, ⟨zs21, HK21⟩, ⟨zs24, HK24⟩⟩ := id C
  refine mm_enter hl (by decide +kernel) rfl rfl rfl (Nat.le_of_ble_eq_true rfl) ?_
  show mT _ _ _ _ 0 [.ref 0, .int row] [] _ _ 0 0
  refine mt_aload_n dX2_most_0 rfl rfl ?_
  refine mt_getfield mKX2 (i := 1) (by decide) mw_113 dX2_most_1 C0 rfl ?_
  refine mt_aload_n dX2_most_4 rfl rfl ?_
  refine mt_iload_n dX2_most_5 rfl ?_
  refine mt_callV (N := mX2_rowOf) (Rc := rX2_rowOf) (As := [.int row]) (st := [.ref 14]) dX2_most_6 (kX2_rowOf hl C) sX2_rowOf mw_230 mKX2 rfl C0 rfl (Nat.le_of_ble_eq_true rfl) ⟨⟨Nat.le_of_ble_eq_true rfl, Nat.le_of_ble_eq_true rfl⟩, Nat.le_of_ble_eq_true rfl, Nat.le_of_ble_eq_true rfl⟩ (fun v1 h2 n3 c4 => ?_) (fun E h9 n9 hx => mt_out rfl (by obtain ⟨rfl, hq, rfl, rfl⟩ := hx; exact cNo.i (by simp only [sp_most, dAt_n hq])) (Nat.le_of_ble_eq_true rfl) (Nat.le_of_ble_eq_true rfl))
  obtain ⟨r5, hr5, rfl, c4a, c4b, c4c⟩ := c4
  rw [c4a, c4b, c4c]
  have hLr5 := (CR r5 hr5).len
  show mT _ _ _ _ 9 [.ref 0, .int (nI r5)] [.ref (2 + 3 * r5), .ref 14] _ _ _ _
  refine mt_aload_n dX2_most_9 rfl rfl ?_
  refine mt_getfield mKX2 (i := 1) (by decide) mw_113 dX2_most_10 C0 rfl ?_
  refine mt_getfield mKX0 (i := 0) (by decide) mw_97 dX2_most_13 C14 rfl ?_
  have H6 : rowAt h (2 + 3 * r5) (rroom r5) (mb (decide (r5 < 2))) (S.1 r5) := CR r5 (by omega)
  refine mt_callV (N := mX0_sortUp) (Rc := rX0_sortUp) (As := [.ref (2 + 3 * r5), .ref 15]) (st := []) dX2_most_16 (kX0_sortUp hl C14 HK15 H6 HK24 (by omega) (by omega) (by omega) (by omega)) sX0_sortUp mw_143 mKX0 rfl C14 rfl (Nat.le_of_ble_eq_true rfl) ⟨⟨Nat.le_of_ble_eq_true rfl, Nat.le_of_ble_eq_true rfl⟩, Nat.le_of_ble_eq_true rfl, Nat.le_of_ble_eq_true rfl⟩ (fun v7 h8 n9 c10 => ?_) (fun _ _ _ hx => hx.elim)
  obtain ⟨c10a, c10b, c10c, ⟨c10z, c10d⟩, c10e⟩ := c10
  rw [c10a, c10b]
  have c10f : ∀ j, ((j < 15 ∨ 15 + 3 ≤ j) ∧ (j < 24 ∨ 24 + 3 ≤ j)) → h8 j = h j := fun j hj => c10e j hj.1 hj.2
  have mlc10 := msort_len (ys := S.1 r5)
  show mT _ _ _ _ 19 [.ref 0, .int (nI r5)] [.int ((msort (S.1 r5)).2)] _ _ _ _
  refine mt_pop dX2_most_19 rfl ?_
  refine mt_aload_n dX2_most_20 rfl rfl ?_
  refine mt_getfield mKX2 (i := 1) (by decide) mw_113 dX2_most_21 ((c10f (0) (by omega)).trans C0) rfl ?_
  refine mt_getfield mKX0 (i := 0) (by decide) mw_97 dX2_most_24 ((c10f (14) (by omega)).trans C14) rfl ?_
  obtain ⟨f_15, g_15, ea_15, ek_15, es_15, ql_15, qr_15, qk_15, qt_15⟩ := id c10c
  refine mt_callV (N := mX1_commonestKeyOfSorted) (Rc := rX1_commonestKeyOfSorted) (As := []) (st := []) dX2_most_27 (kX1_commonestKeyOfSorted hl c10c) sX1_commonestKeyOfSorted mw_1015 mKX1 rfl ea_15 rfl (Nat.le_of_ble_eq_true rfl) ⟨⟨Nat.le_of_ble_eq_true rfl, Nat.le_of_ble_eq_true rfl⟩, Nat.le_of_ble_eq_true rfl, Nat.le_of_ble_eq_true rfl⟩ (fun v11 h12 n13 c14 => ?_) (fun _ _ _ hx => hx.elim)
  obtain ⟨c14a, c14b, c14c⟩ := c14
  rw [c14a, c14b, c14c]
  show mT _ _ _ _ 30 [.ref 0, .int (nI r5)] [.int (q_commonestKeyOfSorted ((msort (S.1 r5)).1))] _ _ _ _
  refine mt_ireturn dX2_most_30 rfl rfl (Nat.le_of_ble_eq_true rfl) (Nat.le_of_ble_eq_true rfl) ?_
  exact cOk.of (x := .int (q_commonestKeyOfSorted ((msort (S.1 r5)).1))) (S' := (S.1, S.2.1, S.2.2.1, S.2.2.2.1, S.2.2.2.2)) (by simp only [sp_most, dAt_s hr5 (by decide)] <;> first | rfl | simp_all) rfl rfl ⟨(c10f (0) (by omega)).trans C0, ⟨cg, (c10f (1) (by omega)).trans C1, C1g⟩, (c10f (14) (by omega)).trans C14, cRows0 CR (fun j j1 j2 => c10f j (by omega)), ⟨_, c10c⟩, ⟨_, (HK18).fr (fun j j1 j2 => c10f j (by omega))⟩, ⟨_, (HK21).fr (fun j j1 j2 => c10f j (by omega))⟩, ⟨_, c10d⟩⟩ (fun j hj => c10f j (by omega))
def sp_key (S : cS) (row : Int32) (place : Int32) : Nat × Value × cS := dAt S 4 row fun r => dAt S (S.1 r).length place fun p => (0, .int (xk (S.1 r) p), S)
abbrev rX2_key : Room := { frames := 8, cells := 2, slots := 12, locals := 131 }
set_option maxRecDepth 100000 in
set_option maxHeartbeats 2000000 in
theorem kX2_key {l : Launch} (hl : l.stackTraces = false) {h : mH} {n : Nat} {S : cS} {row : Int32} {place : Int32} (C : cAt h S) : mC l mX2_key rX2_key [.ref 0, .int row, .int place] h n (cOk (sp_key S row place) h n) (cNo (sp_key S row place).1 h n) := by
  obtain ⟨C0, ⟨cg, C1, C1g⟩, C14, CR, ⟨zs15, HK15⟩, ⟨zs18, HK18⟩, ⟨zs21, HK21⟩, ⟨zs24, HK24⟩⟩ := id C
  refine mm_enter hl (by decide +kernel) rfl rfl rfl (Nat.le_of_ble_eq_true rfl) ?_
  show mT _ _ _ _ 0 [.ref 0, .int row, .int place, .double 0] [] _ _ 0 0
  refine mt_aload_n dX2_key_0 rfl rfl ?_
  refine mt_iload_n dX2_key_1 rfl ?_
  refine mt_callV (N := mX2_rowOf) (Rc := rX2_rowOf) (As := [.int row]) (st := []) dX2_key_2 (kX2_rowOf hl C) sX2_rowOf mw_230 mKX2 rfl C0 rfl (Nat.le_of_ble_eq_true rfl) ⟨⟨Nat.le_of_ble_eq_true rfl, Nat.le_of_ble_eq_true rfl⟩, Nat.le_of_ble_eq_true rfl, Nat.le_of_ble_eq_true rfl⟩ (fun v1 h2 n3 c4 => ?_) (fun E h9 n9 hx => mt_out rfl (by obtain ⟨rfl, hq, rfl, rfl⟩ := hx; exact cNo.i (by simp only [sp_key, dAt_n hq])) (Nat.le_of_ble_eq_true rfl) (Nat.le_of_ble_eq_true rfl))
  obtain ⟨r5, hr5, rfl, c4a, c4b, c4c⟩ := c4
  rw [c4a, c4b, c4c]
  have hLr5 := (CR r5 hr5).len
  show mT _ _ _ _ 5 [.ref 0, .int (nI r5), .int place, .double 0] [.ref (2 + 3 * r5)] _ _ _ _
  refine mp_astore_n dX2_key_5 (ls' := [.ref 0, .int (nI r5), .int place, .ref (2 + 3 * r5)]) rfl rfl (by decide) rfl ?_
  refine mt_aload_n dX2_key_6 rfl rfl ?_
  refine mt_iload_n dX2_key_7 rfl ?_
  have H6 : rowAt h (2 + 3 * r5) (rroom r5) (mb (decide (r5 < 2))) (S.1 r5) := CR r5 (by omega)
  refine mt_callS (N := mX2_demandPlace) (Rc := rX2_demandPlace) (As := [.ref (2 + 3 * r5), .int place]) (st := []) dX2_key_8 (kX2_demandPlace hl H6) sX2_demandPlace mw_457 rfl (Nat.le_of_ble_eq_true rfl) ⟨⟨Nat.le_of_ble_eq_true rfl, Nat.le_of_ble_eq_true rfl⟩, Nat.le_of_ble_eq_true rfl, Nat.le_of_ble_eq_true rfl⟩ (fun v7 h8 n9 c10 => ?_) (fun E h9 n9 hx => mt_out rfl (by obtain ⟨rfl, hq, rfl, rfl⟩ := hx; exact cNo.i (by simp only [sp_key, dAt_n hq, dAt_s hr5 (by decide)])) (Nat.le_of_ble_eq_true rfl) (Nat.le_of_ble_eq_true rfl))
  obtain ⟨p11, hp11, rfl, c10a, c10b, c10c⟩ := c10
  rw [c10a, c10b, c10c]
  have hLp11 := (H6).len
  show mT _ _ _ _ 11 [.ref 0, .int (nI r5), .int (nI p11), .ref (2 + 3 * r5)] [] _ _ _ _
  refine mt_aload_n dX2_key_11 rfl rfl ?_
  obtain ⟨f_12, g_12, ea_12, ek_12, es_12, ql_12, qr_12, qk_12, qt_12⟩ := id H6
  refine mt_getfield mKX1 (i := 0) (by decide) mw_68 dX2_key_12 ea_12 rfl ?_
  refine mt_iload_n dX2_key_15 rfl ?_
  refine mp_iaload dX2_key_16 ek_12 rfl (by omega) (by omega) (v := xk (S.1 r5) p11) (qk_12 _ (by omega)) ?_
  refine mt_ireturn dX2_key_17 rfl rfl (Nat.le_of_ble_eq_true rfl) (Nat.le_of_ble_eq_true rfl) ?_
  exact cOk.of (x := .int (xk (S.1 r5) p11)) (S' := (S.1, S.2.1, S.2.2.1, S.2.2.2.1, S.2.2.2.2)) (by simp only [sp_key, dAt_s hr5 (by decide), dAt_s hp11 (by omega)] <;> first | rfl | simp_all) rfl rfl ⟨C0, ⟨cg, C1, C1g⟩, C14, CR, ⟨_, HK15⟩, ⟨_, HK18⟩, ⟨_, HK21⟩, ⟨_, HK24⟩⟩ (fun j hj => rfl)
def sp_stamp (S : cS) (row : Int32) (place : Int32) : Nat × Value × cS := dAt S 4 row fun r => dAt S (S.1 r).length place fun p => (0, .int (xt (S.1 r) p), S)
abbrev rX2_stamp : Room := { frames := 8, cells := 2, slots := 12, locals := 131 }
set_option maxRecDepth 100000 in
set_option maxHeartbeats 2000000 in
theorem kX2_stamp {l : Launch} (hl : l.stackTraces = false) {h : mH} {n : Nat} {S : cS} {row : Int32} {place : Int32} (C : cAt h S) : mC l mX2_stamp rX2_stamp [.ref 0, .int row, .int place] h n (cOk (sp_stamp S row place) h n) (cNo (sp_stamp S row place).1 h n) := by
  obtain ⟨C0, ⟨cg, C1, C1g⟩, C14, CR, ⟨zs15, HK15⟩, ⟨zs18, HK18⟩, ⟨zs21, HK21⟩, ⟨zs24, HK24⟩⟩ := id C
  refine mm_enter hl (by decide +kernel) rfl rfl rfl (Nat.le_of_ble_eq_true rfl) ?_
  show mT _ _ _ _ 0 [.ref 0, .int row, .int place, .double 0] [] _ _ 0 0
  refine mt_aload_n dX2_stamp_0 rfl rfl ?_
  refine mt_iload_n dX2_stamp_1 rfl ?_
  refine mt_callV (N := mX2_rowOf) (Rc := rX2_rowOf) (As := [.int row]) (st := []) dX2_stamp_2 (kX2_rowOf hl C) sX2_rowOf mw_230 mKX2 rfl C0 rfl (Nat.le_of_ble_eq_true rfl) ⟨⟨Nat.le_of_ble_eq_true rfl, Nat.le_of_ble_eq_true rfl⟩, Nat.le_of_ble_eq_true rfl, Nat.le_of_ble_eq_true rfl⟩ (fun v1 h2 n3 c4 => ?_) (fun E h9 n9 hx => mt_out rfl (by obtain ⟨rfl, hq, rfl, rfl⟩ := hx; exact cNo.i (by simp only [sp_stamp, dAt_n hq])) (Nat.le_of_ble_eq_true rfl) (Nat.le_of_ble_eq_true rfl))
  obtain ⟨r5, hr5, rfl, c4a, c4b, c4c⟩ := c4
  rw [c4a, c4b, c4c]
  have hLr5 := (CR r5 hr5).len
  show mT _ _ _ _ 5 [.ref 0, .int (nI r5), .int place, .double 0] [.ref (2 + 3 * r5)] _ _ _ _
  refine mp_astore_n dX2_stamp_5 (ls' := [.ref 0, .int (nI r5), .int place, .ref (2 + 3 * r5)]) rfl rfl (by decide) rfl ?_
  refine mt_aload_n dX2_stamp_6 rfl rfl ?_
  refine mt_iload_n dX2_stamp_7 rfl ?_
  have H6 : rowAt h (2 + 3 * r5) (rroom r5) (mb (decide (r5 < 2))) (S.1 r5) := CR r5 (by omega)
  refine mt_callS (N := mX2_demandPlace) (Rc := rX2_demandPlace) (As := [.ref (2 + 3 * r5), .int place]) (st := []) dX2_stamp_8 (kX2_demandPlace hl H6) sX2_demandPlace mw_457 rfl (Nat.le_of_ble_eq_true rfl) ⟨⟨Nat.le_of_ble_eq_true rfl, Nat.le_of_ble_eq_true rfl⟩, Nat.le_of_ble_eq_true rfl, Nat.le_of_ble_eq_true rfl⟩ (fun v7 h8 n9 c10 => ?_) (fun E h9 n9 hx => mt_out rfl (by obtain ⟨rfl, hq, rfl, rfl⟩ := hx; exact cNo.i (by simp only [sp_stamp, dAt_n hq, dAt_s hr5 (by decide)])) (Nat.le_of_ble_eq_true rfl) (Nat.le_of_ble_eq_true rfl))
  obtain ⟨p11, hp11, rfl, c10a, c10b, c10c⟩ := c10
  rw [c10a, c10b, c10c]
  have hLp11 := (H6).len
  show mT _ _ _ _ 11 [.ref 0, .int (nI r5), .int (nI p11), .ref (2 + 3 * r5)] [] _ _ _ _
  refine mt_aload_n dX2_stamp_11 rfl rfl ?_
  obtain ⟨f_12, g_12, ea_12, ek_12, es_12, ql_12, qr_12, qk_12, qt_12⟩ := id H6
  refine mt_getfield mKX1 (i := 1) (by decide) mw_71 dX2_stamp_12 ea_12 rfl ?_
  refine mt_iload_n dX2_stamp_15 rfl ?_
  refine mp_iaload dX2_stamp_16 es_12 rfl (by omega) (by omega) (v := xt (S.1 r5) p11) (qt_12 _ (by omega)) ?_
  refine mt_ireturn dX2_stamp_17 rfl rfl (Nat.le_of_ble_eq_true rfl) (Nat.le_of_ble_eq_true rfl) ?_
  exact cOk.of (x := .int (xt (S.1 r5) p11)) (S' := (S.1, S.2.1, S.2.2.1, S.2.2.2.1, S.2.2.2.2)) (by simp only [sp_stamp, dAt_s hr5 (by decide), dAt_s hp11 (by omega)] <;> first | rfl | simp_all) rfl rfl ⟨C0, ⟨cg, C1, C1g⟩, C14, CR, ⟨_, HK15⟩, ⟨_, HK18⟩, ⟨_, HK21⟩, ⟨_, HK24⟩⟩ (fun j hj => rfl)
def sp_rank (S : cS) (row : Int32) (place : Int32) : Nat × Value × cS := dAt S 4 row fun r => dAt S (S.1 r).length place fun p => (0, .int (nI (rankf (S.1 r) p)), S)
abbrev rX2_rank : Room := { frames := 8, cells := 2, slots := 12, locals := 131 }
set_option maxRecDepth 100000 in
set_option maxHeartbeats 2000000 in
theorem kX2_rank {l : Launch} (hl : l.stackTraces = false) {h : mH} {n : Nat} {S : cS} {row : Int32} {place : Int32} (C : cAt h S) : mC l mX2_rank rX2_rank [.ref 0, .int row, .int place] h n (cOk (sp_rank S row place) h n) (cNo (sp_rank S row place).1 h n) := by
  obtain ⟨C0, ⟨cg, C1, C1g⟩, C14, CR, ⟨zs15, HK15⟩, ⟨zs18, HK18⟩, ⟨zs21, HK21⟩, ⟨zs24, HK24⟩⟩ := id C
  refine mm_enter hl (by decide +kernel) rfl rfl rfl (Nat.le_of_ble_eq_true rfl) ?_
  show mT _ _ _ _ 0 [.ref 0, .int row, .int place, .double 0] [] _ _ 0 0
  refine mt_aload_n dX2_rank_0 rfl rfl ?_
  refine mt_iload_n dX2_rank_1 rfl ?_
  refine mt_callV (N := mX2_rowOf) (Rc := rX2_rowOf) (As := [.int row]) (st := []) dX2_rank_2 (kX2_rowOf hl C) sX2_rowOf mw_230 mKX2 rfl C0 rfl (Nat.le_of_ble_eq_true rfl) ⟨⟨Nat.le_of_ble_eq_true rfl, Nat.le_of_ble_eq_true rfl⟩, Nat.le_of_ble_eq_true rfl, Nat.le_of_ble_eq_true rfl⟩ (fun v1 h2 n3 c4 => ?_) (fun E h9 n9 hx => mt_out rfl (by obtain ⟨rfl, hq, rfl, rfl⟩ := hx; exact cNo.i (by simp only [sp_rank, dAt_n hq])) (Nat.le_of_ble_eq_true rfl) (Nat.le_of_ble_eq_true rfl))
  obtain ⟨r5, hr5, rfl, c4a, c4b, c4c⟩ := c4
  rw [c4a, c4b, c4c]
  have hLr5 := (CR r5 hr5).len
  show mT _ _ _ _ 5 [.ref 0, .int (nI r5), .int place, .double 0] [.ref (2 + 3 * r5)] _ _ _ _
  refine mp_astore_n dX2_rank_5 (ls' := [.ref 0, .int (nI r5), .int place, .ref (2 + 3 * r5)]) rfl rfl (by decide) rfl ?_
  refine mt_aload_n dX2_rank_6 rfl rfl ?_
  refine mt_iload_n dX2_rank_7 rfl ?_
  have H6 : rowAt h (2 + 3 * r5) (rroom r5) (mb (decide (r5 < 2))) (S.1 r5) := CR r5 (by omega)
  refine mt_callS (N := mX2_demandPlace) (Rc := rX2_demandPlace) (As := [.ref (2 + 3 * r5), .int place]) (st := []) dX2_rank_8 (kX2_demandPlace hl H6) sX2_demandPlace mw_457 rfl (Nat.le_of_ble_eq_true rfl) ⟨⟨Nat.le_of_ble_eq_true rfl, Nat.le_of_ble_eq_true rfl⟩, Nat.le_of_ble_eq_true rfl, Nat.le_of_ble_eq_true rfl⟩ (fun v7 h8 n9 c10 => ?_) (fun E h9 n9 hx => mt_out rfl (by obtain ⟨rfl, hq, rfl, rfl⟩ := hx; exact cNo.i (by simp only [sp_rank, dAt_n hq, dAt_s hr5 (by decide)])) (Nat.le_of_ble_eq_true rfl) (Nat.le_of_ble_eq_true rfl))
  obtain ⟨p11, hp11, rfl, c10a, c10b, c10c⟩ := c10
  rw [c10a, c10b, c10c]
  have hLp11 := (H6).len
  show mT _ _ _ _ 11 [.ref 0, .int (nI r5), .int (nI p11), .ref (2 + 3 * r5)] [] _ _ _ _
  refine mt_aload_n dX2_rank_11 rfl rfl ?_
  refine mt_iload_n dX2_rank_12 rfl ?_
  obtain ⟨f_16, g_16, ea_16, ek_16, es_16, ql_16, qr_16, qk_16, qt_16⟩ := id H6
  refine mt_callV (N := mX1_rankAt) (Rc := rX1_rankAt) (As := [.int (nI p11)]) (st := []) dX2_rank_13 (kX1_rankAt hl H6 (by omega)) sX1_rankAt mw_589 mKX1 rfl ea_16 rfl (Nat.le_of_ble_eq_true rfl) ⟨⟨Nat.le_of_ble_eq_true rfl, Nat.le_of_ble_eq_true rfl⟩, Nat.le_of_ble_eq_true rfl, Nat.le_of_ble_eq_true rfl⟩ (fun v12 h13 n14 c15 => ?_) (fun _ _ _ hx => hx.elim)
  obtain ⟨c15a, c15b, c15c⟩ := c15
  rw [c15a, c15b, c15c]
  show mT _ _ _ _ 16 [.ref 0, .int (nI r5), .int (nI p11), .ref (2 + 3 * r5)] [.int (nI (rankf (S.1 r5) p11))] _ _ _ _
  refine mt_ireturn dX2_rank_16 rfl rfl (Nat.le_of_ble_eq_true rfl) (Nat.le_of_ble_eq_true rfl) ?_
  exact cOk.of (x := .int (nI (rankf (S.1 r5) p11))) (S' := (S.1, S.2.1, S.2.2.1, S.2.2.2.1, S.2.2.2.2)) (by simp only [sp_rank, dAt_s hr5 (by decide), dAt_s hp11 (by omega)] <;> first | rfl | simp_all) rfl rfl ⟨C0, ⟨cg, C1, C1g⟩, C14, CR, ⟨_, HK15⟩, ⟨_, HK18⟩, ⟨_, HK21⟩, ⟨_, HK24⟩⟩ (fun j hj => rfl)
def sp_would (S : cS) (row : Int32) (place : Int32) : Nat × Value × cS := dAt S 4 row fun r => dAt S (S.1 r).length place fun p => (0, .int (xk (msort (S.1 r)).1 p), S)
abbrev rX2_would : Room := { frames := 8, cells := 2, slots := 12, locals := 131 }
set_option maxRecDepth 100000 in
set_option maxHeartbeats 2000000 in
theorem kX2_would {l : Launch} (hl : l.stackTraces = false) {h : mH} {n : Nat} {S : cS} {row : Int32} {place : Int32} (C : cAt h S) : mC l mX2_would rX2_would [.ref 0, .int row, .int place] h n (cOk (sp_would S row place) h n) (cNo (sp_would S row place).1 h n) := by
  obtain ⟨C0, ⟨cg, C1, C1g⟩, C14, CR, ⟨zs15, HK15⟩, ⟨zs18, HK18⟩, ⟨zs21, HK21⟩, ⟨zs24, HK24⟩⟩ := id C
  refine mm_enter hl (by decide +kernel) rfl rfl rfl (Nat.le_of_ble_eq_true rfl) ?_
  show mT _ _ _ _ 0 [.ref 0, .int row, .int place, .double 0] [] _ _ 0 0
  refine mt_aload_n dX2_would_0 rfl rfl ?_
  refine mt_iload_n dX2_would_1 rfl ?_
  refine mt_callV (N := mX2_rowOf) (Rc := rX2_rowOf) (As := [.int row]) (st := []) dX2_would_2 (kX2_rowOf hl C) sX2_rowOf mw_230 mKX2 rfl C0 rfl (Nat.le_of_ble_eq_true rfl) ⟨⟨Nat.le_of_ble_eq_true rfl, Nat.le_of_ble_eq_true rfl⟩, Nat.le_of_ble_eq_true rfl, Nat.le_of_ble_eq_true rfl⟩ (fun v1 h2 n3 c4 => ?_) (fun E h9 n9 hx => mt_out rfl (by obtain ⟨rfl, hq, rfl, rfl⟩ := hx; exact cNo.i (by simp only [sp_would, dAt_n hq])) (Nat.le_of_ble_eq_true rfl) (Nat.le_of_ble_eq_true rfl))
  obtain ⟨r5, hr5, rfl, c4a, c4b, c4c⟩ := c4
  rw [c4a, c4b, c4c]
  have hLr5 := (CR r5 hr5).len
  show mT _ _ _ _ 5 [.ref 0, .int (nI r5), .int place, .double 0] [.ref (2 + 3 * r5)] _ _ _ _
  refine mp_astore_n dX2_would_5 (ls' := [.ref 0, .int (nI r5), .int place, .ref (2 + 3 * r5)]) rfl rfl (by decide) rfl ?_
  refine mt_aload_n dX2_would_6 rfl rfl ?_
  refine mt_iload_n dX2_would_7 rfl ?_
  have H6 : rowAt h (2 + 3 * r5) (rroom r5) (mb (decide (r5 < 2))) (S.1 r5) := CR r5 (by omega)
  refine mt_callS (N := mX2_demandPlace) (Rc := rX2_demandPlace) (As := [.ref (2 + 3 * r5), .int place]) (st := []) dX2_would_8 (kX2_demandPlace hl H6) sX2_demandPlace mw_457 rfl (Nat.le_of_ble_eq_true rfl) ⟨⟨Nat.le_of_ble_eq_true rfl, Nat.le_of_ble_eq_true rfl⟩, Nat.le_of_ble_eq_true rfl, Nat.le_of_ble_eq_true rfl⟩ (fun v7 h8 n9 c10 => ?_) (fun E h9 n9 hx => mt_out rfl (by obtain ⟨rfl, hq, rfl, rfl⟩ := hx; exact cNo.i (by simp only [sp_would, dAt_n hq, dAt_s hr5 (by decide)])) (Nat.le_of_ble_eq_true rfl) (Nat.le_of_ble_eq_true rfl))
  obtain ⟨p11, hp11, rfl, c10a, c10b, c10c⟩ := c10
  rw [c10a, c10b, c10c]
  have hLp11 := (H6).len
  show mT _ _ _ _ 11 [.ref 0, .int (nI r5), .int (nI p11), .ref (2 + 3 * r5)] [] _ _ _ _
  refine mt_aload_n dX2_would_11 rfl rfl ?_
  refine mt_getfield mKX2 (i := 1) (by decide) mw_113 dX2_would_12 C0 rfl ?_
  refine mt_aload_n dX2_would_15 rfl rfl ?_
  refine mt_aload_n dX2_would_16 rfl rfl ?_
  refine mt_getfield mKX2 (i := 1) (by decide) mw_113 dX2_would_17 C0 rfl ?_
  refine mt_getfield mKX0 (i := 0) (by decide) mw_97 dX2_would_20 C14 rfl ?_
  refine mt_callV (N := mX0_sortUp) (Rc := rX0_sortUp) (As := [.ref (2 + 3 * r5), .ref 15]) (st := []) dX2_would_23 (kX0_sortUp hl C14 HK15 H6 HK24 (by omega) (by omega) (by omega) (by omega)) sX0_sortUp mw_143 mKX0 rfl C14 rfl (Nat.le_of_ble_eq_true rfl) ⟨⟨Nat.le_of_ble_eq_true rfl, Nat.le_of_ble_eq_true rfl⟩, Nat.le_of_ble_eq_true rfl, Nat.le_of_ble_eq_true rfl⟩ (fun v12 h13 n14 c15 => ?_) (fun _ _ _ hx => hx.elim)
  obtain ⟨c15a, c15b, c15c, ⟨c15z, c15d⟩, c15e⟩ := c15
  rw [c15a, c15b]
  have c15f : ∀ j, ((j < 15 ∨ 15 + 3 ≤ j) ∧ (j < 24 ∨ 24 + 3 ≤ j)) → h13 j = h j := fun j hj => c15e j hj.1 hj.2
  have mlc15 := msort_len (ys := S.1 r5)
  show mT _ _ _ _ 26 [.ref 0, .int (nI r5), .int (nI p11), .ref (2 + 3 * r5)] [.int ((msort (S.1 r5)).2)] _ _ _ _
  refine mt_pop dX2_would_26 rfl ?_
  refine mt_aload_n dX2_would_27 rfl rfl ?_
  refine mt_getfield mKX2 (i := 1) (by decide) mw_113 dX2_would_28 ((c15f (0) (by omega)).trans C0) rfl ?_
  refine mt_getfield mKX0 (i := 0) (by decide) mw_97 dX2_would_31 ((c15f (14) (by omega)).trans C14) rfl ?_
  obtain ⟨f_16, g_16, ea_16, ek_16, es_16, ql_16, qr_16, qk_16, qt_16⟩ := id c15c
  refine mt_getfield mKX1 (i := 0) (by decide) mw_68 dX2_would_34 ea_16 rfl ?_
  refine mt_iload_n dX2_would_37 rfl ?_
  refine mp_iaload dX2_would_38 ek_16 rfl (by omega) (by omega) (v := xk ((msort (S.1 r5)).1) p11) (qk_16 _ (by omega)) ?_
  refine mt_ireturn dX2_would_39 rfl rfl (Nat.le_of_ble_eq_true rfl) (Nat.le_of_ble_eq_true rfl) ?_
  exact cOk.of (x := .int (xk ((msort (S.1 r5)).1) p11)) (S' := (S.1, S.2.1, S.2.2.1, S.2.2.2.1, S.2.2.2.2)) (by simp only [sp_would, dAt_s hr5 (by decide), dAt_s hp11 (by omega)] <;> first | rfl | simp_all) rfl rfl ⟨(c15f (0) (by omega)).trans C0, ⟨cg, (c15f (1) (by omega)).trans C1, C1g⟩, (c15f (14) (by omega)).trans C14, cRows0 CR (fun j j1 j2 => c15f j (by omega)), ⟨_, c15c⟩, ⟨_, (HK18).fr (fun j j1 j2 => c15f j (by omega))⟩, ⟨_, (HK21).fr (fun j j1 j2 => c15f j (by omega))⟩, ⟨_, c15d⟩⟩ (fun j hj => c15f j (by omega))
def sp_wouldStamp (S : cS) (row : Int32) (place : Int32) : Nat × Value × cS := dAt S 4 row fun r => dAt S (S.1 r).length place fun p => (0, .int (xt (msort (S.1 r)).1 p), S)
abbrev rX2_wouldStamp : Room := { frames := 8, cells := 2, slots := 12, locals := 131 }
set_option maxRecDepth 100000 in
set_option maxHeartbeats 2000000 in
theorem kX2_wouldStamp {l : Launch} (hl : l.stackTraces = false) {h : mH} {n : Nat} {S : cS} {row : Int32} {place : Int32} (C : cAt h S) : mC l mX2_wouldStamp rX2_wouldStamp [.ref 0, .int row, .int place] h n (cOk (sp_wouldStamp S row place) h n) (cNo (sp_wouldStamp S row place).1 h n) := by
  obtain ⟨C0, ⟨cg, C1, C1g⟩, C14, CR, ⟨zs15, HK15⟩, ⟨zs18, HK18⟩, ⟨zs21, HK21⟩, ⟨zs24, HK24⟩⟩ := id C
  refine mm_enter hl (by decide +kernel) rfl rfl rfl (Nat.le_of_ble_eq_true rfl) ?_
  show mT _ _ _ _ 0 [.ref 0, .int row, .int place, .double 0] [] _ _ 0 0
  refine mt_aload_n dX2_wouldStamp_0 rfl rfl ?_
  refine mt_iload_n dX2_wouldStamp_1 rfl ?_
  refine mt_callV (N := mX2_rowOf) (Rc := rX2_rowOf) (As := [.int row]) (st := []) dX2_wouldStamp_2 (kX2_rowOf hl C) sX2_rowOf mw_230 mKX2 rfl C0 rfl (Nat.le_of_ble_eq_true rfl) ⟨⟨Nat.le_of_ble_eq_true rfl, Nat.le_of_ble_eq_true rfl⟩, Nat.le_of_ble_eq_true rfl, Nat.le_of_ble_eq_true rfl⟩ (fun v1 h2 n3 c4 => ?_) (fun E h9 n9 hx => mt_out rfl (by obtain ⟨rfl, hq, rfl, rfl⟩ := hx; exact cNo.i (by simp only [sp_wouldStamp, dAt_n hq])) (Nat.le_of_ble_eq_true rfl) (Nat.le_of_ble_eq_true rfl))
  obtain ⟨r5, hr5, rfl, c4a, c4b, c4c⟩ := c4
  rw [c4a, c4b, c4c]
  have hLr5 := (CR r5 hr5).len
  show mT _ _ _ _ 5 [.ref 0, .int (nI r5), .int place, .double 0] [.ref (2 + 3 * r5)] _ _ _ _
  refine mp_astore_n dX2_wouldStamp_5 (ls' := [.ref 0, .int (nI r5), .int place, .ref (2 + 3 * r5)]) rfl rfl (by decide) rfl ?_
  refine mt_aload_n dX2_wouldStamp_6 rfl rfl ?_
  refine mt_iload_n dX2_wouldStamp_7 rfl ?_
  have H6 : rowAt h (2 + 3 * r5) (rroom r5) (mb (decide (r5 < 2))) (S.1 r5) := CR r5 (by omega)
  refine mt_callS (N := mX2_demandPlace) (Rc := rX2_demandPlace) (As := [.ref (2 + 3 * r5), .int place]) (st := []) dX2_wouldStamp_8 (kX2_demandPlace hl H6) sX2_demandPlace mw_457 rfl (Nat.le_of_ble_eq_true rfl) ⟨⟨Nat.le_of_ble_eq_true rfl, Nat.le_of_ble_eq_true rfl⟩, Nat.le_of_ble_eq_true rfl, Nat.le_of_ble_eq_true rfl⟩ (fun v7 h8 n9 c10 => ?_) (fun E h9 n9 hx => mt_out rfl (by obtain ⟨rfl, hq, rfl, rfl⟩ := hx; exact cNo.i (by simp only [sp_wouldStamp, dAt_n hq, dAt_s hr5 (by decide)])) (Nat.le_of_ble_eq_true rfl) (Nat.le_of_ble_eq_true rfl))
  obtain ⟨p11, hp11, rfl, c10a, c10b, c10c⟩ := c10
  rw [c10a, c10b, c10c]
  have hLp11 := (H6).len
  show mT _ _ _ _ 11 [.ref 0, .int (nI r5), .int (nI p11), .ref (2 + 3 * r5)] [] _ _ _ _
  refine mt_aload_n dX2_wouldStamp_11 rfl rfl ?_
  refine mt_getfield mKX2 (i := 1) (by decide) mw_113 dX2_wouldStamp_12 C0 rfl ?_
  refine mt_aload_n dX2_wouldStamp_15 rfl rfl ?_
  refine mt_aload_n dX2_wouldStamp_16 rfl rfl ?_
  refine mt_getfield mKX2 (i := 1) (by decide) mw_113 dX2_wouldStamp_17 C0 rfl ?_
  refine mt_getfield mKX0 (i := 0) (by decide) mw_97 dX2_wouldStamp_20 C14 rfl ?_
  refine mt_callV (N := mX0_sortUp) (Rc := rX0_sortUp) (As := [.ref (2 + 3 * r5), .ref 15]) (st := []) dX2_wouldStamp_23 (kX0_sortUp hl C14 HK15 H6 HK24 (by omega) (by omega) (by omega) (by omega)) sX0_sortUp mw_143 mKX0 rfl C14 rfl (Nat.le_of_ble_eq_true rfl) ⟨⟨Nat.le_of_ble_eq_true rfl, Nat.le_of_ble_eq_true rfl⟩, Nat.le_of_ble_eq_true rfl, Nat.le_of_ble_eq_true rfl⟩ (fun v12 h13 n14 c15 => ?_) (fun _ _ _ hx => hx.elim)
  obtain ⟨c15a, c15b, c15c, ⟨c15z, c15d⟩, c15e⟩ := c15
  rw [c15a, c15b]
  have c15f : ∀ j, ((j < 15 ∨ 15 + 3 ≤ j) ∧ (j < 24 ∨ 24 + 3 ≤ j)) → h13 j = h j := fun j hj => c15e j hj.1 hj.2
  have mlc15 := msort_len (ys := S.1 r5)
  show mT _ _ _ _ 26 [.ref 0, .int (nI r5), .int (nI p11), .ref (2 + 3 * r5)] [.int ((msort (S.1 r5)).2)] _ _ _ _
  refine mt_pop dX2_wouldStamp_26 rfl ?_
  refine mt_aload_n dX2_wouldStamp_27 rfl rfl ?_
  refine mt_getfield mKX2 (i := 1) (by decide) mw_113 dX2_wouldStamp_28 ((c15f (0) (by omega)).trans C0) rfl ?_
  refine mt_getfield mKX0 (i := 0) (by decide) mw_97 dX2_wouldStamp_31 ((c15f (14) (by omega)).trans C14) rfl ?_
  obtain ⟨f_16, g_16, ea_16, ek_16, es_16, ql_16, qr_16, qk_16, qt_16⟩ := id c15c
  refine mt_getfield mKX1 (i := 1) (by decide) mw_71 dX2_wouldStamp_34 ea_16 rfl ?_
  refine mt_iload_n dX2_wouldStamp_37 rfl ?_
  refine mp_iaload dX2_wouldStamp_38 es_16 rfl (by omega) (by omega) (v := xt ((msort (S.1 r5)).1) p11) (qt_16 _ (by omega)) ?_
  refine mt_ireturn dX2_wouldStamp_39 rfl rfl (Nat.le_of_ble_eq_true rfl) (Nat.le_of_ble_eq_true rfl) ?_
  exact cOk.of (x := .int (xt ((msort (S.1 r5)).1) p11)) (S' := (S.1, S.2.1, S.2.2.1, S.2.2.2.1, S.2.2.2.2)) (by simp only [sp_wouldStamp, dAt_s hr5 (by decide), dAt_s hp11 (by omega)] <;> first | rfl | simp_all) rfl rfl ⟨(c15f (0) (by omega)).trans C0, ⟨cg, (c15f (1) (by omega)).trans C1, C1g⟩, (c15f (14) (by omega)).trans C14, cRows0 CR (fun j j1 j2 => c15f j (by omega)), ⟨_, c15c⟩, ⟨_, (HK18).fr (fun j j1 j2 => c15f j (by omega))⟩, ⟨_, (HK21).fr (fun j j1 j2 => c15f j (by omega))⟩, ⟨_, c15d⟩⟩ (fun j hj => c15f j (by omega))
def sp_wrongAt (S : cS) (row : Int32) (place : Int32) : Nat × Value × cS := dAt S 4 row fun r => dAt S (S.1 r).length place fun p => (0, .int (q_wrongPairsWith (S.1 r) p), S)
abbrev rX2_wrongAt : Room := { frames := 8, cells := 2, slots := 12, locals := 131 }
set_option maxRecDepth 100000 in
set_option maxHeartbeats 2000000 in
theorem kX2_wrongAt {l : Launch} (hl : l.stackTraces = false) {h : mH} {n : Nat} {S : cS} {row : Int32} {place : Int32} (C : cAt h S) : mC l mX2_wrongAt rX2_wrongAt [.ref 0, .int row, .int place] h n (cOk (sp_wrongAt S row place) h n) (cNo (sp_wrongAt S row place).1 h n) := by
  obtain ⟨C0, ⟨cg, C1, C1g⟩, C14, CR, ⟨zs15, HK15⟩, ⟨zs18, HK18⟩, ⟨zs21, HK21⟩, ⟨zs24, HK24⟩⟩ := id C
  refine mm_enter hl (by decide +kernel) rfl rfl rfl (Nat.le_of_ble_eq_true rfl) ?_
  show mT _ _ _ _ 0 [.ref 0, .int row, .int place, .double 0] [] _ _ 0 0
  refine mt_aload_n dX2_wrongAt_0 rfl rfl ?_
  refine mt_iload_n dX2_wrongAt_1 rfl ?_
  refine mt_callV (N := mX2_rowOf) (Rc := rX2_rowOf) (As := [.int row]) (st := []) dX2_wrongAt_2 (kX2_rowOf hl C) sX2_rowOf mw_230 mKX2 rfl C0 rfl (Nat.le_of_ble_eq_true rfl) ⟨⟨Nat.le_of_ble_eq_true rfl, Nat.le_of_ble_eq_true rfl⟩, Nat.le_of_ble_eq_true rfl, Nat.le_of_ble_eq_true rfl⟩ (fun v1 h2 n3 c4 => ?_) (fun E h9 n9 hx => mt_out rfl (by obtain ⟨rfl, hq, rfl, rfl⟩ := hx; exact cNo.i (by simp only [sp_wrongAt, dAt_n hq])) (Nat.le_of_ble_eq_true rfl) (Nat.le_of_ble_eq_true rfl))
  obtain ⟨r5, hr5, rfl, c4a, c4b, c4c⟩ := c4
  rw [c4a, c4b, c4c]
  have hLr5 := (CR r5 hr5).len
  show mT _ _ _ _ 5 [.ref 0, .int (nI r5), .int place, .double 0] [.ref (2 + 3 * r5)] _ _ _ _
  refine mp_astore_n dX2_wrongAt_5 (ls' := [.ref 0, .int (nI r5), .int place, .ref (2 + 3 * r5)]) rfl rfl (by decide) rfl ?_
  refine mt_aload_n dX2_wrongAt_6 rfl rfl ?_
  refine mt_iload_n dX2_wrongAt_7 rfl ?_
  have H6 : rowAt h (2 + 3 * r5) (rroom r5) (mb (decide (r5 < 2))) (S.1 r5) := CR r5 (by omega)
  refine mt_callS (N := mX2_demandPlace) (Rc := rX2_demandPlace) (As := [.ref (2 + 3 * r5), .int place]) (st := []) dX2_wrongAt_8 (kX2_demandPlace hl H6) sX2_demandPlace mw_457 rfl (Nat.le_of_ble_eq_true rfl) ⟨⟨Nat.le_of_ble_eq_true rfl, Nat.le_of_ble_eq_true rfl⟩, Nat.le_of_ble_eq_true rfl, Nat.le_of_ble_eq_true rfl⟩ (fun v7 h8 n9 c10 => ?_) (fun E h9 n9 hx => mt_out rfl (by obtain ⟨rfl, hq, rfl, rfl⟩ := hx; exact cNo.i (by simp only [sp_wrongAt, dAt_n hq, dAt_s hr5 (by decide)])) (Nat.le_of_ble_eq_true rfl) (Nat.le_of_ble_eq_true rfl))
  obtain ⟨p11, hp11, rfl, c10a, c10b, c10c⟩ := c10
  rw [c10a, c10b, c10c]
  have hLp11 := (H6).len
  show mT _ _ _ _ 11 [.ref 0, .int (nI r5), .int (nI p11), .ref (2 + 3 * r5)] [] _ _ _ _
  refine mt_aload_n dX2_wrongAt_11 rfl rfl ?_
  refine mt_iload_n dX2_wrongAt_12 rfl ?_
  obtain ⟨f_16, g_16, ea_16, ek_16, es_16, ql_16, qr_16, qk_16, qt_16⟩ := id H6
  refine mt_callV (N := mX1_wrongPairsWith) (Rc := rX1_wrongPairsWith) (As := [.int (nI p11)]) (st := []) dX2_wrongAt_13 (kX1_wrongPairsWith hl H6 (by omega)) sX1_wrongPairsWith mw_611 mKX1 rfl ea_16 rfl (Nat.le_of_ble_eq_true rfl) ⟨⟨Nat.le_of_ble_eq_true rfl, Nat.le_of_ble_eq_true rfl⟩, Nat.le_of_ble_eq_true rfl, Nat.le_of_ble_eq_true rfl⟩ (fun v12 h13 n14 c15 => ?_) (fun _ _ _ hx => hx.elim)
  obtain ⟨c15a, c15b, c15c⟩ := c15
  rw [c15a, c15b, c15c]
  show mT _ _ _ _ 16 [.ref 0, .int (nI r5), .int (nI p11), .ref (2 + 3 * r5)] [.int (q_wrongPairsWith (S.1 r5) p11)] _ _ _ _
  refine mt_ireturn dX2_wrongAt_16 rfl rfl (Nat.le_of_ble_eq_true rfl) (Nat.le_of_ble_eq_true rfl) ?_
  exact cOk.of (x := .int (q_wrongPairsWith (S.1 r5) p11)) (S' := (S.1, S.2.1, S.2.2.1, S.2.2.2.1, S.2.2.2.2)) (by simp only [sp_wrongAt, dAt_s hr5 (by decide), dAt_s hp11 (by omega)] <;> first | rfl | simp_all) rfl rfl ⟨C0, ⟨cg, C1, C1g⟩, C14, CR, ⟨_, HK15⟩, ⟨_, HK18⟩, ⟨_, HK21⟩, ⟨_, HK24⟩⟩ (fun j hj => rfl)
def sp_after (S : cS) (row : Int32) (place : Int32) : Nat × Value × cS := dAt S 4 row fun r => dAt S ((S.1 r).length - 1) place fun p => (0, .int ((msort (S.1 r)).2 + q_wrongerByExchange (S.1 r) p), S)
abbrev rX2_after : Room := { frames := 8, cells := 2, slots := 12, locals := 131 }
set_option maxRecDepth 100000 in
set_option maxHeartbeats 2000000 in
theorem kX2_after {l : Launch} (hl : l.stackTraces = false) {h : mH} {n : Nat} {S : cS} {row : Int32} {place : Int32} (C : cAt h S) : mC l mX2_after rX2_after [.ref 0, .int row, .int place] h n (cOk (sp_after S row place) h n) (cNo (sp_after S row place).1 h n) := by
  obtain ⟨C0, ⟨cg, C1, C1g⟩, C14, CR, ⟨zs15, HK15⟩, ⟨zs18, HK18⟩, ⟨zs21, HK21⟩, ⟨zs24, HK24⟩⟩ := id C
  refine mm_enter hl (by decide +kernel) rfl rfl rfl (Nat.le_of_ble_eq_true rfl) ?_
  show mT _ _ _ _ 0 [.ref 0, .int row, .int place, .double 0] [] _ _ 0 0
  refine mt_aload_n dX2_after_0 rfl rfl ?_
  refine mt_iload_n dX2_after_1 rfl ?_
  refine mt_callV (N := mX2_rowOf) (Rc := rX2_rowOf) (As := [.int row]) (st := []) dX2_after_2 (kX2_rowOf hl C) sX2_rowOf mw_230 mKX2 rfl C0 rfl (Nat.le_of_ble_eq_true rfl) ⟨⟨Nat.le_of_ble_eq_true rfl, Nat.le_of_ble_eq_true rfl⟩, Nat.le_of_ble_eq_true rfl, Nat.le_of_ble_eq_true rfl⟩ (fun v1 h2 n3 c4 => ?_) (fun E h9 n9 hx => mt_out rfl (by obtain ⟨rfl, hq, rfl, rfl⟩ := hx; exact cNo.i (by simp only [sp_after, dAt_n hq])) (Nat.le_of_ble_eq_true rfl) (Nat.le_of_ble_eq_true rfl))
  obtain ⟨r5, hr5, rfl, c4a, c4b, c4c⟩ := c4
  rw [c4a, c4b, c4c]
  have hLr5 := (CR r5 hr5).len
  show mT _ _ _ _ 5 [.ref 0, .int (nI r5), .int place, .double 0] [.ref (2 + 3 * r5)] _ _ _ _
  refine mp_astore_n dX2_after_5 (ls' := [.ref 0, .int (nI r5), .int place, .ref (2 + 3 * r5)]) rfl rfl (by decide) rfl ?_
  refine mt_aload_n dX2_after_6 rfl rfl ?_
  refine mt_iload_n dX2_after_7 rfl ?_
  have H6 : rowAt h (2 + 3 * r5) (rroom r5) (mb (decide (r5 < 2))) (S.1 r5) := CR r5 (by omega)
  refine mt_callS (N := mX2_demandPlaceWithNext) (Rc := rX2_demandPlaceWithNext) (As := [.ref (2 + 3 * r5), .int place]) (st := []) dX2_after_8 (kX2_demandPlaceWithNext hl H6) sX2_demandPlaceWithNext mw_485 rfl (Nat.le_of_ble_eq_true rfl) ⟨⟨Nat.le_of_ble_eq_true rfl, Nat.le_of_ble_eq_true rfl⟩, Nat.le_of_ble_eq_true rfl, Nat.le_of_ble_eq_true rfl⟩ (fun v7 h8 n9 c10 => ?_) (fun E h9 n9 hx => mt_out rfl (by obtain ⟨rfl, hq, rfl, rfl⟩ := hx; exact cNo.i (by simp only [sp_after, dAt_n hq, dAt_s hr5 (by decide)])) (Nat.le_of_ble_eq_true rfl) (Nat.le_of_ble_eq_true rfl))
  obtain ⟨p11, hp11, rfl, c10a, c10b, c10c⟩ := c10
  rw [c10a, c10b, c10c]
  have hLp11 := (H6).len
  show mT _ _ _ _ 11 [.ref 0, .int (nI r5), .int (nI p11), .ref (2 + 3 * r5)] [] _ _ _ _
  refine mt_aload_n dX2_after_11 rfl rfl ?_
  refine mt_getfield mKX2 (i := 1) (by decide) mw_113 dX2_after_12 C0 rfl ?_
  refine mt_aload_n dX2_after_15 rfl rfl ?_
  refine mt_aload_n dX2_after_16 rfl rfl ?_
  refine mt_getfield mKX2 (i := 1) (by decide) mw_113 dX2_after_17 C0 rfl ?_
  refine mt_getfield mKX0 (i := 0) (by decide) mw_97 dX2_after_20 C14 rfl ?_
  refine mt_callV (N := mX0_sortUp) (Rc := rX0_sortUp) (As := [.ref (2 + 3 * r5), .ref 15]) (st := []) dX2_after_23 (kX0_sortUp hl C14 HK15 H6 HK24 (by omega) (by omega) (by omega) (by omega)) sX0_sortUp mw_143 mKX0 rfl C14 rfl (Nat.le_of_ble_eq_true rfl) ⟨⟨Nat.le_of_ble_eq_true rfl, Nat.le_of_ble_eq_true rfl⟩, Nat.le_of_ble_eq_true rfl, Nat.le_of_ble_eq_true rfl⟩ (fun v12 h13 n14 c15 => ?_) (fun _ _ _ hx => hx.elim)
  obtain ⟨c15a, c15b, c15c, ⟨c15z, c15d⟩, c15e⟩ := c15
  rw [c15a, c15b]
  have c15f : ∀ j, ((j < 15 ∨ 15 + 3 ≤ j) ∧ (j < 24 ∨ 24 + 3 ≤ j)) → h13 j = h j := fun j hj => c15e j hj.1 hj.2
  have mlc15 := msort_len (ys := S.1 r5)
  show mT _ _ _ _ 26 [.ref 0, .int (nI r5), .int (nI p11), .ref (2 + 3 * r5)] [.int ((msort (S.1 r5)).2)] _ _ _ _
  refine mt_aload_n dX2_after_26 rfl rfl ?_
  refine mt_iload_n dX2_after_27 rfl ?_
  have H16 : rowAt h13 (2 + 3 * r5) (rroom r5) (mb (decide (r5 < 2))) (S.1 r5) := (H6).fr (fun j j1 j2 => c15f j (by omega))
  obtain ⟨f_21, g_21, ea_21, ek_21, es_21, ql_21, qr_21, qk_21, qt_21⟩ := id H16
  refine mt_callV (N := mX1_wrongerByExchange) (Rc := rX1_wrongerByExchange) (As := [.int (nI p11)]) (st := [.int ((msort (S.1 r5)).2)]) dX2_after_28 (kX1_wrongerByExchange hl H16 (by omega)) sX1_wrongerByExchange mw_488 mKX1 rfl ea_21 rfl (Nat.le_of_ble_eq_true rfl) ⟨⟨Nat.le_of_ble_eq_true rfl, Nat.le_of_ble_eq_true rfl⟩, Nat.le_of_ble_eq_true rfl, Nat.le_of_ble_eq_true rfl⟩ (fun v17 h18 n19 c20 => ?_) (fun _ _ _ hx => hx.elim)
  obtain ⟨c20a, c20b, c20c⟩ := c20
  rw [c20a, c20b, c20c]
  show mT _ _ _ _ 31 [.ref 0, .int (nI r5), .int (nI p11), .ref (2 + 3 * r5)] [.int (q_wrongerByExchange (S.1 r5) p11), .int ((msort (S.1 r5)).2)] _ _ _ _
  refine mp_iadd dX2_after_31 (v := ((msort (S.1 r5)).2) + (q_wrongerByExchange (S.1 r5) p11)) rfl ?_
  refine mt_ireturn dX2_after_32 rfl rfl (Nat.le_of_ble_eq_true rfl) (Nat.le_of_ble_eq_true rfl) ?_
  exact cOk.of (x := .int (((msort (S.1 r5)).2) + (q_wrongerByExchange (S.1 r5) p11))) (S' := (S.1, S.2.1, S.2.2.1, S.2.2.2.1, S.2.2.2.2)) (by simp only [sp_after, dAt_s hr5 (by decide), dAt_s hp11 (by omega)] <;> first | rfl | simp_all) rfl rfl ⟨(c15f (0) (by omega)).trans C0, ⟨cg, (c15f (1) (by omega)).trans C1, C1g⟩, (c15f (14) (by omega)).trans C14, cRows0 CR (fun j j1 j2 => c15f j (by omega)), ⟨_, c15c⟩, ⟨_, (HK18).fr (fun j j1 j2 => c15f j (by omega))⟩, ⟨_, (HK21).fr (fun j j1 j2 => c15f j (by omega))⟩, ⟨_, c15d⟩⟩ (fun j hj => c15f j (by omega))
def sp_runAt (S : cS) (row : Int32) (place : Int32) : Nat × Value × cS := dAt S 4 row fun r => dAt S (S.1 r).length place fun p => (0, .int (nI (q_endOfRun (S.1 r) p - p)), S)
abbrev rX2_runAt : Room := { frames := 8, cells := 2, slots := 12, locals := 131 }
set_option maxRecDepth 100000 in
set_option maxHeartbeats 2000000 in
theorem kX2_runAt {l : Launch} (hl : l.stackTraces = false) {h : mH} {n : Nat} {S : cS} {row : Int32} {place : Int32} (C : cAt h S) : mC l mX2_runAt rX2_runAt [.ref 0, .int row, .int place] h n (cOk (sp_runAt S row place) h n) (cNo (sp_runAt S row place).1 h n) := by
  obtain ⟨C0, ⟨cg, C1, C1g⟩, C14, CR, ⟨zs15, HK15⟩, ⟨zs18, HK18⟩, ⟨zs21, HK21⟩, ⟨zs24, HK24⟩⟩ := id C
  refine mm_enter hl (by decide +kernel) rfl rfl rfl (Nat.le_of_ble_eq_true rfl) ?_
  show mT _ _ _ _ 0 [.ref 0, .int row, .int place, .double 0] [] _ _ 0 0
  refine mt_aload_n dX2_runAt_0 rfl rfl ?_
  refine mt_iload_n dX2_runAt_1 rfl ?_
  refine mt_callV (N := mX2_rowOf) (Rc := rX2_rowOf) (As := [.int row]) (st := []) dX2_runAt_2 (kX2_rowOf hl C) sX2_rowOf mw_230 mKX2 rfl C0 rfl (Nat.le_of_ble_eq_true rfl) ⟨⟨Nat.le_of_ble_eq_true rfl, Nat.le_of_ble_eq_true rfl⟩, Nat.le_of_ble_eq_true rfl, Nat.le_of_ble_eq_true rfl⟩ (fun v1 h2 n3 c4 => ?_) (fun E h9 n9 hx => mt_out rfl (by obtain ⟨rfl, hq, rfl, rfl⟩ := hx; exact cNo.i (by simp only [sp_runAt, dAt_n hq])) (Nat.le_of_ble_eq_true rfl) (Nat.le_of_ble_eq_true rfl))
  obtain ⟨r5, hr5, rfl, c4a, c4b, c4c⟩ := c4
  rw [c4a, c4b, c4c]
  have hLr5 := (CR r5 hr5).len
  show mT _ _ _ _ 5 [.ref 0, .int (nI r5), .int place, .double 0] [.ref (2 + 3 * r5)] _ _ _ _
  refine mp_astore_n dX2_runAt_5 (ls' := [.ref 0, .int (nI r5), .int place, .ref (2 + 3 * r5)]) rfl rfl (by decide) rfl ?_
  refine mt_aload_n dX2_runAt_6 rfl rfl ?_
  refine mt_iload_n dX2_runAt_7 rfl ?_
  have H6 : rowAt h (2 + 3 * r5) (rroom r5) (mb (decide (r5 < 2))) (S.1 r5) := CR r5 (by omega)
  refine mt_callS (N := mX2_demandPlace) (Rc := rX2_demandPlace) (As := [.ref (2 + 3 * r5), .int place]) (st := []) dX2_runAt_8 (kX2_demandPlace hl H6) sX2_demandPlace mw_457 rfl (Nat.le_of_ble_eq_true rfl) ⟨⟨Nat.le_of_ble_eq_true rfl, Nat.le_of_ble_eq_true rfl⟩, Nat.le_of_ble_eq_true rfl, Nat.le_of_ble_eq_true rfl⟩ (fun v7 h8 n9 c10 => ?_) (fun E h9 n9 hx => mt_out rfl (by obtain ⟨rfl, hq, rfl, rfl⟩ := hx; exact cNo.i (by simp only [sp_runAt, dAt_n hq, dAt_s hr5 (by decide)])) (Nat.le_of_ble_eq_true rfl) (Nat.le_of_ble_eq_true rfl))
  obtain ⟨p11, hp11, rfl, c10a, c10b, c10c⟩ := c10
  rw [c10a, c10b, c10c]
  have hLp11 := (H6).len
  show mT _ _ _ _ 11 [.ref 0, .int (nI r5), .int (nI p11), .ref (2 + 3 * r5)] [] _ _ _ _
  refine mt_aload_n dX2_runAt_11 rfl rfl ?_
  refine mt_iload_n dX2_runAt_12 rfl ?_
  obtain ⟨f_16, g_16, ea_16, ek_16, es_16, ql_16, qr_16, qk_16, qt_16⟩ := id H6
  refine mt_callV (N := mX1_endOfRun) (Rc := rX1_endOfRun) (As := [.int (nI p11)]) (st := []) dX2_runAt_13 (kX1_endOfRun hl H6 (by omega)) sX1_endOfRun mw_629 mKX1 rfl ea_16 rfl (Nat.le_of_ble_eq_true rfl) ⟨⟨Nat.le_of_ble_eq_true rfl, Nat.le_of_ble_eq_true rfl⟩, Nat.le_of_ble_eq_true rfl, Nat.le_of_ble_eq_true rfl⟩ (fun v12 h13 n14 c15 => ?_) (fun _ _ _ hx => hx.elim)
  obtain ⟨c15a, c15b, c15c⟩ := c15
  rw [c15a, c15b, c15c]
  show mT _ _ _ _ 16 [.ref 0, .int (nI r5), .int (nI p11), .ref (2 + 3 * r5)] [.int (nI (q_endOfRun (S.1 r5) p11))] _ _ _ _
  refine mt_iload_n dX2_runAt_16 rfl ?_
  have el := @erun_le (S.1 r5) ((S.1 r5).length - (p11 + 1)) (p11 + 1)
  have el2 : p11 + 1 ≤ q_endOfRun (S.1 r5) p11 := el.1
  refine mp_isub dX2_runAt_17 (v := nI ((q_endOfRun (S.1 r5) p11) - p11)) (pk_sub (by omega)) ?_
  refine mt_ireturn dX2_runAt_18 rfl rfl (Nat.le_of_ble_eq_true rfl) (Nat.le_of_ble_eq_true rfl) ?_
  exact cOk.of (x := .int (nI ((q_endOfRun (S.1 r5) p11) - p11))) (S' := (S.1, S.2.1, S.2.2.1, S.2.2.2.1, S.2.2.2.2)) (by simp only [sp_runAt, dAt_s hr5 (by decide), dAt_s hp11 (by omega)] <;> first | rfl | simp_all) rfl rfl ⟨C0, ⟨cg, C1, C1g⟩, C14, CR, ⟨_, HK15⟩, ⟨_, HK18⟩, ⟨_, HK21⟩, ⟨_, HK24⟩⟩ (fun j hj => rfl)
def sp_count (S : cS) (row : Int32) (key : Int32) : Nat × Value × cS := dAt S 4 row fun r => dFit S (keyOk key) (0, .int (q_itemsWith (S.1 r) key), S)
abbrev rX2_count : Room := { frames := 8, cells := 2, slots := 12, locals := 130 }
set_option maxRecDepth 100000 in
set_option maxHeartbeats 2000000 in
theorem kX2_count {l : Launch} (hl : l.stackTraces = false) {h : mH} {n : Nat} {S : cS} {row : Int32} {key : Int32} (C : cAt h S) : mC l mX2_count rX2_count [.ref 0, .int row, .int key] h n (cOk (sp_count S row key) h n) (cNo (sp_count S row key).1 h n) := by
  obtain ⟨C0, ⟨cg, C1, C1g⟩, C14, CR, ⟨zs15, HK15⟩, ⟨zs18, HK18⟩, ⟨zs21, HK21⟩, ⟨zs24, HK24⟩⟩ := id C
  refine mm_enter hl (by decide +kernel) rfl rfl rfl (Nat.le_of_ble_eq_true rfl) ?_
  show mT _ _ _ _ 0 [.ref 0, .int row, .int key, .double 0] [] _ _ 0 0
  refine mt_aload_n dX2_count_0 rfl rfl ?_
  refine mt_iload_n dX2_count_1 rfl ?_
  refine mt_callV (N := mX2_rowOf) (Rc := rX2_rowOf) (As := [.int row]) (st := []) dX2_count_2 (kX2_rowOf hl C) sX2_rowOf mw_230 mKX2 rfl C0 rfl (Nat.le_of_ble_eq_true rfl) ⟨⟨Nat.le_of_ble_eq_true rfl, Nat.le_of_ble_eq_true rfl⟩, Nat.le_of_ble_eq_true rfl, Nat.le_of_ble_eq_true rfl⟩ (fun v1 h2 n3 c4 => ?_) (fun E h9 n9 hx => mt_out rfl (by obtain ⟨rfl, hq, rfl, rfl⟩ := hx; exact cNo.i (by simp only [sp_count, dAt_n hq])) (Nat.le_of_ble_eq_true rfl) (Nat.le_of_ble_eq_true rfl))
  obtain ⟨r5, hr5, rfl, c4a, c4b, c4c⟩ := c4
  rw [c4a, c4b, c4c]
  have hLr5 := (CR r5 hr5).len
  show mT _ _ _ _ 5 [.ref 0, .int (nI r5), .int key, .double 0] [.ref (2 + 3 * r5)] _ _ _ _
  refine mp_astore_n dX2_count_5 (ls' := [.ref 0, .int (nI r5), .int key, .ref (2 + 3 * r5)]) rfl rfl (by decide) rfl ?_
  refine mt_iload_n dX2_count_6 rfl ?_
  refine mt_callS (N := mX2_demandKey) (Rc := rX2_demandKey) (As := [.int key]) (st := []) dX2_count_7 (kX2_demandKey hl) sX2_demandKey mw_441 rfl (Nat.le_of_ble_eq_true rfl) ⟨⟨Nat.le_of_ble_eq_true rfl, Nat.le_of_ble_eq_true rfl⟩, Nat.le_of_ble_eq_true rfl, Nat.le_of_ble_eq_true rfl⟩ (fun v6 h7 n8 c9 => ?_) (fun E h9 n9 hx => mt_out rfl (by obtain ⟨rfl, hq, rfl, rfl⟩ := hx; exact cNo.a (by simp only [sp_count, dFit_n hq, dAt_s hr5 (by decide)])) (Nat.le_of_ble_eq_true rfl) (Nat.le_of_ble_eq_true rfl))
  obtain ⟨c9a, c9k, c9b, c9c⟩ := c9
  rw [c9a, c9b, c9c]
  show mT _ _ _ _ 10 [.ref 0, .int (nI r5), .int key, .ref (2 + 3 * r5)] [] _ _ _ _
  refine mt_aload_n dX2_count_10 rfl rfl ?_
  refine mt_iload_n dX2_count_11 rfl ?_
  have H10 : rowAt h (2 + 3 * r5) (rroom r5) (mb (decide (r5 < 2))) (S.1 r5) := CR r5 (by omega)
  obtain ⟨f_15, g_15, ea_15, ek_15, es_15, ql_15, qr_15, qk_15, qt_15⟩ := id H10
  refine mt_callV (N := mX1_itemsWith) (Rc := rX1_itemsWith) (As := [.int key]) (st := []) dX2_count_12 (kX1_itemsWith hl H10) sX1_itemsWith mw_958 mKX1 rfl ea_15 rfl (Nat.le_of_ble_eq_true rfl) ⟨⟨Nat.le_of_ble_eq_true rfl, Nat.le_of_ble_eq_true rfl⟩, Nat.le_of_ble_eq_true rfl, Nat.le_of_ble_eq_true rfl⟩ (fun v11 h12 n13 c14 => ?_) (fun _ _ _ hx => hx.elim)
  obtain ⟨c14a, c14b, c14c⟩ := c14
  rw [c14a, c14b, c14c]
  show mT _ _ _ _ 15 [.ref 0, .int (nI r5), .int key, .ref (2 + 3 * r5)] [.int (q_itemsWith (S.1 r5) key)] _ _ _ _
  refine mt_ireturn dX2_count_15 rfl rfl (Nat.le_of_ble_eq_true rfl) (Nat.le_of_ble_eq_true rfl) ?_
  exact cOk.of (x := .int (q_itemsWith (S.1 r5) key)) (S' := (S.1, S.2.1, S.2.2.1, S.2.2.2.1, S.2.2.2.2)) (by simp only [sp_count, dAt_s hr5 (by decide), dFit_s c9k] <;> first | rfl | simp_all) rfl rfl ⟨C0, ⟨cg, C1, C1g⟩, C14, CR, ⟨_, HK15⟩, ⟨_, HK18⟩, ⟨_, HK21⟩, ⟨_, HK24⟩⟩ (fun j hj => rfl)
def sp_below (S : cS) (row : Int32) (key : Int32) : Nat × Value × cS := dAt S 4 row fun r => dFit S (keyOk key) (0, .int (q_itemsBelow (S.1 r) key), S)
abbrev rX2_below : Room := { frames := 8, cells := 2, slots := 12, locals := 130 }
set_option maxRecDepth 100000 in
set_option maxHeartbeats 2000000 in
theorem kX2_below {l : Launch} (hl : l.stackTraces = false) {h : mH} {n : Nat} {S : cS} {row : Int32} {key : Int32} (C : cAt h S) : mC l mX2_below rX2_below [.ref 0, .int row, .int key] h n (cOk (sp_below S row key) h n) (cNo (sp_below S row key).1 h n) := by
  obtain ⟨C0, ⟨cg, C1, C1g⟩, C14, CR, ⟨zs15, HK15⟩, ⟨zs18, HK18⟩, ⟨zs21, HK21⟩, ⟨zs24, HK24⟩⟩ := id C
  refine mm_enter hl (by decide +kernel) rfl rfl rfl (Nat.le_of_ble_eq_true rfl) ?_
  show mT _ _ _ _ 0 [.ref 0, .int row, .int key, .double 0] [] _ _ 0 0
  refine mt_aload_n dX2_below_0 rfl rfl ?_
  refine mt_iload_n dX2_below_1 rfl ?_
  refine mt_callV (N := mX2_rowOf) (Rc := rX2_rowOf) (As := [.int row]) (st := []) dX2_below_2 (kX2_rowOf hl C) sX2_rowOf mw_230 mKX2 rfl C0 rfl (Nat.le_of_ble_eq_true rfl) ⟨⟨Nat.le_of_ble_eq_true rfl, Nat.le_of_ble_eq_true rfl⟩, Nat.le_of_ble_eq_true rfl, Nat.le_of_ble_eq_true rfl⟩ (fun v1 h2 n3 c4 => ?_) (fun E h9 n9 hx => mt_out rfl (by obtain ⟨rfl, hq, rfl, rfl⟩ := hx; exact cNo.i (by simp only [sp_below, dAt_n hq])) (Nat.le_of_ble_eq_true rfl) (Nat.le_of_ble_eq_true rfl))
  obtain ⟨r5, hr5, rfl, c4a, c4b, c4c⟩ := c4
  rw [c4a, c4b, c4c]
  have hLr5 := (CR r5 hr5).len
  show mT _ _ _ _ 5 [.ref 0, .int (nI r5), .int key, .double 0] [.ref (2 + 3 * r5)] _ _ _ _
  refine mp_astore_n dX2_below_5 (ls' := [.ref 0, .int (nI r5), .int key, .ref (2 + 3 * r5)]) rfl rfl (by decide) rfl ?_
  refine mt_iload_n dX2_below_6 rfl ?_
  refine mt_callS (N := mX2_demandKey) (Rc := rX2_demandKey) (As := [.int key]) (st := []) dX2_below_7 (kX2_demandKey hl) sX2_demandKey mw_441 rfl (Nat.le_of_ble_eq_true rfl) ⟨⟨Nat.le_of_ble_eq_true rfl, Nat.le_of_ble_eq_true rfl⟩, Nat.le_of_ble_eq_true rfl, Nat.le_of_ble_eq_true rfl⟩ (fun v6 h7 n8 c9 => ?_) (fun E h9 n9 hx => mt_out rfl (by obtain ⟨rfl, hq, rfl, rfl⟩ := hx; exact cNo.a (by simp only [sp_below, dFit_n hq, dAt_s hr5 (by decide)])) (Nat.le_of_ble_eq_true rfl) (Nat.le_of_ble_eq_true rfl))
  obtain ⟨c9a, c9k, c9b, c9c⟩ := c9
  rw [c9a, c9b, c9c]
  show mT _ _ _ _ 10 [.ref 0, .int (nI r5), .int key, .ref (2 + 3 * r5)] [] _ _ _ _
  refine mt_aload_n dX2_below_10 rfl rfl ?_
  refine mt_iload_n dX2_below_11 rfl ?_
  have H10 : rowAt h (2 + 3 * r5) (rroom r5) (mb (decide (r5 < 2))) (S.1 r5) := CR r5 (by omega)
  obtain ⟨f_15, g_15, ea_15, ek_15, es_15, ql_15, qr_15, qk_15, qt_15⟩ := id H10
  refine mt_callV (N := mX1_itemsBelow) (Rc := rX1_itemsBelow) (As := [.int key]) (st := []) dX2_below_12 (kX1_itemsBelow hl H10) sX1_itemsBelow mw_969 mKX1 rfl ea_15 rfl (Nat.le_of_ble_eq_true rfl) ⟨⟨Nat.le_of_ble_eq_true rfl, Nat.le_of_ble_eq_true rfl⟩, Nat.le_of_ble_eq_true rfl, Nat.le_of_ble_eq_true rfl⟩ (fun v11 h12 n13 c14 => ?_) (fun _ _ _ hx => hx.elim)
  obtain ⟨c14a, c14b, c14c⟩ := c14
  rw [c14a, c14b, c14c]
  show mT _ _ _ _ 15 [.ref 0, .int (nI r5), .int key, .ref (2 + 3 * r5)] [.int (q_itemsBelow (S.1 r5) key)] _ _ _ _
  refine mt_ireturn dX2_below_15 rfl rfl (Nat.le_of_ble_eq_true rfl) (Nat.le_of_ble_eq_true rfl) ?_
  exact cOk.of (x := .int (q_itemsBelow (S.1 r5) key)) (S' := (S.1, S.2.1, S.2.2.1, S.2.2.2.1, S.2.2.2.2)) (by simp only [sp_below, dAt_s hr5 (by decide), dFit_s c9k] <;> first | rfl | simp_all) rfl rfl ⟨C0, ⟨cg, C1, C1g⟩, C14, CR, ⟨_, HK15⟩, ⟨_, HK18⟩, ⟨_, HK21⟩, ⟨_, HK24⟩⟩ (fun j hj => rfl)
def sp_first (S : cS) (row : Int32) (key : Int32) (isLast : Bool) : Nat × Value × cS := dAt S 4 row fun r => dFit S (keyOk key) (0, .int (if isLast = false then q_firstPlaceOf (S.1 r) key else q_lastPlaceOf (S.1 r) key), S)
abbrev rX2_first : Room := { frames := 8, cells := 2, slots := 12, locals := 130 }
set_option maxRecDepth 100000 in
set_option maxHeartbeats 2000000 in
theorem kX2_first {l : Launch} (hl : l.stackTraces = false) {h : mH} {n : Nat} {S : cS} {row : Int32} {key : Int32} {isLast : Bool} (C : cAt h S) : mC l mX2_first rX2_first [.ref 0, .int row, .int key, .int (mb (isLast))] h n (cOk (sp_first S row key isLast) h n) (cNo (sp_first S row key isLast).1 h n) := by
  obtain ⟨C0, ⟨cg, C1, C1g⟩, C14, CR, ⟨zs15, HK15⟩, ⟨zs18, HK18⟩, ⟨zs21, HK21⟩, ⟨zs24, HK24⟩⟩ := id C
  refine mm_enter hl (by decide +kernel) rfl rfl rfl (Nat.le_of_ble_eq_true rfl) ?_
  show mT _ _ _ _ 0 [.ref 0, .int row, .int key, .int (mb (isLast)), .double 0] [] _ _ 0 0
  refine mt_aload_n dX2_first_0 rfl rfl ?_
  refine mt_iload_n dX2_first_1 rfl ?_
  refine mt_callV (N := mX2_rowOf) (Rc := rX2_rowOf) (As := [.int row]) (st := []) dX2_first_2 (kX2_rowOf hl C) sX2_rowOf mw_230 mKX2 rfl C0 rfl (Nat.le_of_ble_eq_true rfl) ⟨⟨Nat.le_of_ble_eq_true rfl, Nat.le_of_ble_eq_true rfl⟩, Nat.le_of_ble_eq_true rfl, Nat.le_of_ble_eq_true rfl⟩ (fun v1 h2 n3 c4 => ?_) (fun E h9 n9 hx => mt_out rfl (by obtain ⟨rfl, hq, rfl, rfl⟩ := hx; exact cNo.i (by simp only [sp_first, dAt_n hq])) (Nat.le_of_ble_eq_true rfl) (Nat.le_of_ble_eq_true rfl))
  obtain ⟨r5, hr5, rfl, c4a, c4b, c4c⟩ := c4
  rw [c4a, c4b, c4c]
  have hLr5 := (CR r5 hr5).len
  show mT _ _ _ _ 5 [.ref 0, .int (nI r5), .int key, .int (mb (isLast)), .double 0] [.ref (2 + 3 * r5)] _ _ _ _
  refine mp_astore dX2_first_5 (ls' := [.ref 0, .int (nI r5), .int key, .int (mb (isLast)), .ref (2 + 3 * r5)]) rfl rfl (by decide) rfl ?_
  refine mt_iload_n dX2_first_7 rfl ?_
  refine mt_callS (N := mX2_demandKey) (Rc := rX2_demandKey) (As := [.int key]) (st := []) dX2_first_8 (kX2_demandKey hl) sX2_demandKey mw_441 rfl (Nat.le_of_ble_eq_true rfl) ⟨⟨Nat.le_of_ble_eq_true rfl, Nat.le_of_ble_eq_true rfl⟩, Nat.le_of_ble_eq_true rfl, Nat.le_of_ble_eq_true rfl⟩ (fun v6 h7 n8 c9 => ?_) (fun E h9 n9 hx => mt_out rfl (by obtain ⟨rfl, hq, rfl, rfl⟩ := hx; exact cNo.a (by simp only [sp_first, dFit_n hq, dAt_s hr5 (by decide)])) (Nat.le_of_ble_eq_true rfl) (Nat.le_of_ble_eq_true rfl))
  obtain ⟨c9a, c9k, c9b, c9c⟩ := c9
  rw [c9a, c9b, c9c]
  show mT _ _ _ _ 11 [.ref 0, .int (nI r5), .int key, .int (mb (isLast)), .ref (2 + 3 * r5)] [] _ _ _ _
  refine mt_iload_n dX2_first_11 rfl ?_
  refine mt_if_eq dX2_first_12 (tgt := 24) rfl (fun q10 => ?_) (fun q10 => ?_)
  · have q10 : isLast = false := mb_0.mp q10
    refine mt_aload dX2_first_24 rfl rfl ?_
    refine mt_iload_n dX2_first_26 rfl ?_
    have H11 : rowAt h (2 + 3 * r5) (rroom r5) (mb (decide (r5 < 2))) (S.1 r5) := CR r5 (by omega)
    obtain ⟨f_16, g_16, ea_16, ek_16, es_16, ql_16, qr_16, qk_16, qt_16⟩ := id H11
    refine mt_callV (N := mX1_firstPlaceOf) (Rc := rX1_firstPlaceOf) (As := [.int key]) (st := []) dX2_first_27 (kX1_firstPlaceOf hl H11) sX1_firstPlaceOf mw_984 mKX1 rfl ea_16 rfl (Nat.le_of_ble_eq_true rfl) ⟨⟨Nat.le_of_ble_eq_true rfl, Nat.le_of_ble_eq_true rfl⟩, Nat.le_of_ble_eq_true rfl, Nat.le_of_ble_eq_true rfl⟩ (fun v12 h13 n14 c15 => ?_) (fun _ _ _ hx => hx.elim)
    obtain ⟨c15a, c15b, c15c⟩ := c15
    rw [c15a, c15b, c15c]
    show mT _ _ _ _ 30 [.ref 0, .int (nI r5), .int key, .int (mb (isLast)), .ref (2 + 3 * r5)] [.int (q_firstPlaceOf (S.1 r5) key)] _ _ _ _
    refine mt_ireturn dX2_first_30 rfl rfl (Nat.le_of_ble_eq_true rfl) (Nat.le_of_ble_eq_true rfl) ?_
    exact cOk.of (x := .int (q_firstPlaceOf (S.1 r5) key)) (S' := (S.1, S.2.1, S.2.2.1, S.2.2.2.1, S.2.2.2.2)) (by simp only [sp_first, dAt_s hr5 (by decide), dFit_s c9k, if_pos q10] <;> first | rfl | simp_all) rfl rfl ⟨C0, ⟨cg, C1, C1g⟩, C14, CR, ⟨_, HK15⟩, ⟨_, HK18⟩, ⟨_, HK21⟩, ⟨_, HK24⟩⟩ (fun j hj => rfl)
  · have q10 : isLast = true := mb_1.mp q10
    refine mt_aload dX2_first_15 rfl rfl ?_
    refine mt_iload_n dX2_first_17 rfl ?_
    have H17 : rowAt h (2 + 3 * r5) (rroom r5) (mb (decide (r5 < 2))) (S.1 r5) := CR r5 (by omega)
    obtain ⟨f_22, g_22, ea_22, ek_22, es_22, ql_22, qr_22, qk_22, qt_22⟩ := id H17
    refine mt_callV (N := mX1_lastPlaceOf) (Rc := rX1_lastPlaceOf) (As := [.int key]) (st := []) dX2_first_18 (kX1_lastPlaceOf hl H17) sX1_lastPlaceOf mw_980 mKX1 rfl ea_22 rfl (Nat.le_of_ble_eq_true rfl) ⟨⟨Nat.le_of_ble_eq_true rfl, Nat.le_of_ble_eq_true rfl⟩, Nat.le_of_ble_eq_true rfl, Nat.le_of_ble_eq_true rfl⟩ (fun v18 h19 n20 c21 => ?_) (fun _ _ _ hx => hx.elim)
    obtain ⟨c21a, c21b, c21c⟩ := c21
    rw [c21a, c21b, c21c]
    show mT _ _ _ _ 21 [.ref 0, .int (nI r5), .int key, .int (mb (isLast)), .ref (2 + 3 * r5)] [.int (q_lastPlaceOf (S.1 r5) key)] _ _ _ _
    refine mt_goto dX2_first_21 (tgt := 30) rfl ?_
    refine mt_ireturn dX2_first_30 rfl rfl (Nat.le_of_ble_eq_true rfl) (Nat.le_of_ble_eq_true rfl) ?_
    exact cOk.of (x := .int (q_lastPlaceOf (S.1 r5) key)) (S' := (S.1, S.2.1, S.2.2.1, S.2.2.2.1, S.2.2.2.2)) (by simp only [sp_first, dAt_s hr5 (by decide), dFit_s c9k, if_neg (bt_nf q10)] <;> first | rfl | simp_all) rfl rfl ⟨C0, ⟨cg, C1, C1g⟩, C14, CR, ⟨_, HK15⟩, ⟨_, HK18⟩, ⟨_, HK21⟩, ⟨_, HK24⟩⟩ (fun j hj => rfl)
def sp_end (S : cS) (row : Int32) (isGreatest : Bool) : Nat × Value × cS := dAt S 4 row fun r => (0, .int (if isGreatest = false then q_leastKey (S.1 r) else q_greatestKey (S.1 r)), S)
abbrev rX2_end : Room := { frames := 7, cells := 1, slots := 6, locals := 111 }
set_option maxRecDepth 100000 in
set_option maxHeartbeats 2000000 in
theorem kX2_end {l : Launch} (hl : l.stackTraces = false) {h : mH} {n : Nat} {S : cS} {row : Int32} {isGreatest : Bool} (C : cAt h S) : mC l mX2_end rX2_end [.ref 0, .int row, .int (mb (isGreatest))] h n (cOk (sp_end S row isGreatest) h n) (cNo (sp_end S row isGreatest).1 h n) := by
  obtain ⟨C0, ⟨cg, C1, C1g⟩, C14, CR, ⟨zs15, HK15⟩, ⟨zs18, HK18⟩, ⟨zs21, HK21⟩, ⟨zs24, HK24⟩⟩ := id C
  refine mm_enter hl (by decide +kernel) rfl rfl rfl (Nat.le_of_ble_eq_true rfl) ?_
  show mT _ _ _ _ 0 [.ref 0, .int row, .int (mb (isGreatest)), .double 0] [] _ _ 0 0
  refine mt_aload_n dX2_end_0 rfl rfl ?_
  refine mt_iload_n dX2_end_1 rfl ?_
  refine mt_callV (N := mX2_rowOf) (Rc := rX2_rowOf) (As := [.int row]) (st := []) dX2_end_2 (kX2_rowOf hl C) sX2_rowOf mw_230 mKX2 rfl C0 rfl (Nat.le_of_ble_eq_true rfl) ⟨⟨Nat.le_of_ble_eq_true rfl, Nat.le_of_ble_eq_true rfl⟩, Nat.le_of_ble_eq_true rfl, Nat.le_of_ble_eq_true rfl⟩ (fun v1 h2 n3 c4 => ?_) (fun E h9 n9 hx => mt_out rfl (by obtain ⟨rfl, hq, rfl, rfl⟩ := hx; exact cNo.i (by simp only [sp_end, dAt_n hq])) (Nat.le_of_ble_eq_true rfl) (Nat.le_of_ble_eq_true rfl))
  obtain ⟨r5, hr5, rfl, c4a, c4b, c4c⟩ := c4
  rw [c4a, c4b, c4c]
  have hLr5 := (CR r5 hr5).len
  show mT _ _ _ _ 5 [.ref 0, .int (nI r5), .int (mb (isGreatest)), .double 0] [.ref (2 + 3 * r5)] _ _ _ _
  refine mp_astore_n dX2_end_5 (ls' := [.ref 0, .int (nI r5), .int (mb (isGreatest)), .ref (2 + 3 * r5)]) rfl rfl (by decide) rfl ?_
  refine mt_iload_n dX2_end_6 rfl ?_
  refine mt_if_eq dX2_end_7 (tgt := 17) rfl (fun q6 => ?_) (fun q6 => ?_)
  · have q6 : isGreatest = false := mb_0.mp q6
    refine mt_aload_n dX2_end_17 rfl rfl ?_
    have H7 : rowAt h (2 + 3 * r5) (rroom r5) (mb (decide (r5 < 2))) (S.1 r5) := CR r5 (by omega)
    obtain ⟨f_12, g_12, ea_12, ek_12, es_12, ql_12, qr_12, qk_12, qt_12⟩ := id H7
    refine mt_callV (N := mX1_leastKey) (Rc := rX1_leastKey) (As := []) (st := []) dX2_end_18 (kX1_leastKey hl H7) sX1_leastKey mw_1000 mKX1 rfl ea_12 rfl (Nat.le_of_ble_eq_true rfl) ⟨⟨Nat.le_of_ble_eq_true rfl, Nat.le_of_ble_eq_true rfl⟩, Nat.le_of_ble_eq_true rfl, Nat.le_of_ble_eq_true rfl⟩ (fun v8 h9 n10 c11 => ?_) (fun _ _ _ hx => hx.elim)
    obtain ⟨c11a, c11b, c11c⟩ := c11
    rw [c11a, c11b, c11c]
    show mT _ _ _ _ 21 [.ref 0, .int (nI r5), .int (mb (isGreatest)), .ref (2 + 3 * r5)] [.int (q_leastKey (S.1 r5))] _ _ _ _
    refine mt_ireturn dX2_end_21 rfl rfl (Nat.le_of_ble_eq_true rfl) (Nat.le_of_ble_eq_true rfl) ?_
    exact cOk.of (x := .int (q_leastKey (S.1 r5))) (S' := (S.1, S.2.1, S.2.2.1, S.2.2.2.1, S.2.2.2.2)) (by simp only [sp_end, dAt_s hr5 (by decide), if_pos q6] <;> first | rfl | simp_all) rfl rfl ⟨C0, ⟨cg, C1, C1g⟩, C14, CR, ⟨_, HK15⟩, ⟨_, HK18⟩, ⟨_, HK21⟩, ⟨_, HK24⟩⟩ (fun j hj => rfl)
  · have q6 : isGreatest = true := mb_1.mp q6
    refine mt_aload_n dX2_end_10 rfl rfl ?_
    have H13 : rowAt h (2 + 3 * r5) (rroom r5) (mb (decide (r5 < 2))) (S.1 r5) := CR r5 (by omega)
    obtain ⟨f_18, g_18, ea_18, ek_18, es_18, ql_18, qr_18, qk_18, qt_18⟩ := id H13
    refine mt_callV (N := mX1_greatestKey) (Rc := rX1_greatestKey) (As := []) (st := []) dX2_end_11 (kX1_greatestKey hl H13) sX1_greatestKey mw_995 mKX1 rfl ea_18 rfl (Nat.le_of_ble_eq_true rfl) ⟨⟨Nat.le_of_ble_eq_true rfl, Nat.le_of_ble_eq_true rfl⟩, Nat.le_of_ble_eq_true rfl, Nat.le_of_ble_eq_true rfl⟩ (fun v14 h15 n16 c17 => ?_) (fun _ _ _ hx => hx.elim)
    obtain ⟨c17a, c17b, c17c⟩ := c17
    rw [c17a, c17b, c17c]
    show mT _ _ _ _ 14 [.ref 0, .int (nI r5), .int (mb (isGreatest)), .ref (2 + 3 * r5)] [.int (q_greatestKey (S.1 r5))] _ _ _ _
    refine mt_goto dX2_end_14 (tgt := 21) rfl ?_
    refine mt_ireturn dX2_end_21 rfl rfl (Nat.le_of_ble_eq_true rfl) (Nat.le_of_ble_eq_true rfl) ?_
    exact cOk.of (x := .int (q_greatestKey (S.1 r5))) (S' := (S.1, S.2.1, S.2.2.1, S.2.2.2.1, S.2.2.2.2)) (by simp only [sp_end, dAt_s hr5 (by decide), if_neg (bt_nf q6)] <;> first | rfl | simp_all) rfl rfl ⟨C0, ⟨cg, C1, C1g⟩, C14, CR, ⟨_, HK15⟩, ⟨_, HK18⟩, ⟨_, HK21⟩, ⟨_, HK24⟩⟩ (fun j hj => rfl)
def sp_wrong (S : cS) (row : Int32) (how : Int32) : Nat × Value × cS := dAt S 4 row fun r => if how = 0 then (0, .int (msort (S.1 r)).2, S) else if how = 1 then (0, .int (q_wrongPairs (S.1 r)), S) else (2, .null, S)
abbrev rX2_wrong : Room := { frames := 7, cells := 2, slots := 12, locals := 123 }
set_option maxRecDepth 100000 in
set_option maxHeartbeats 2000000 in
theorem kX2_wrong {l : Launch} (hl : l.stackTraces = false) {h : mH} {n : Nat} {S : cS} {row : Int32} {how : Int32} (C : cAt h S) : mC l mX2_wrong rX2_wrong [.ref 0, .int row, .int how] h n (cOk (sp_wrong S row how) h n) (cNo (sp_wrong S row how).1 h n) := by
  obtain ⟨C0, ⟨cg, C1, C1g⟩, C14, CR, ⟨zs15, HK15⟩, ⟨zs18, HK18⟩, ⟨zs21, HK21⟩, ⟨zs24, HK24⟩⟩ := id C
  refine mm_enter hl (by decide +kernel) rfl rfl rfl (Nat.le_of_ble_eq_true rfl) ?_
  show mT _ _ _ _ 0 [.ref 0, .int row, .int how, .double 0] [] _ _ 0 0
  refine mt_aload_n dX2_wrong_0 rfl rfl ?_
  refine mt_iload_n dX2_wrong_1 rfl ?_
  refine mt_callV (N := mX2_rowOf) (Rc := rX2_rowOf) (As := [.int row]) (st := []) dX2_wrong_2 (kX2_rowOf hl C) sX2_rowOf mw_230 mKX2 rfl C0 rfl (Nat.le_of_ble_eq_true rfl) ⟨⟨Nat.le_of_ble_eq_true rfl, Nat.le_of_ble_eq_true rfl⟩, Nat.le_of_ble_eq_true rfl, Nat.le_of_ble_eq_true rfl⟩ (fun v1 h2 n3 c4 => ?_) (fun E h9 n9 hx => mt_out rfl (by obtain ⟨rfl, hq, rfl, rfl⟩ := hx; exact cNo.i (by simp only [sp_wrong, dAt_n hq])) (Nat.le_of_ble_eq_true rfl) (Nat.le_of_ble_eq_true rfl))
  obtain ⟨r5, hr5, rfl, c4a, c4b, c4c⟩ := c4
  rw [c4a, c4b, c4c]
  have hLr5 := (CR r5 hr5).len
  show mT _ _ _ _ 5 [.ref 0, .int (nI r5), .int how, .double 0] [.ref (2 + 3 * r5)] _ _ _ _
  refine mp_astore_n dX2_wrong_5 (ls' := [.ref 0, .int (nI r5), .int how, .ref (2 + 3 * r5)]) rfl rfl (by decide) rfl ?_
  refine mt_iload_n dX2_wrong_6 rfl ?_
  refine mt_if_eq dX2_wrong_7 (tgt := 15) rfl (fun q6 => ?_) (fun q6 => ?_)
  · refine mt_iconst dX2_wrong_15 (v := nI 1) rfl ?_
    refine mt_goto dX2_wrong_16 (tgt := 20) rfl ?_
    refine mt_callS (N := mX2_demand) (Rc := rX2_demand) (As := [.int (nI 1)]) (st := []) dX2_wrong_20 (kX2_demand_t hl) sX2_demand mw_309 rfl (Nat.le_of_ble_eq_true rfl) ⟨⟨Nat.le_of_ble_eq_true rfl, Nat.le_of_ble_eq_true rfl⟩, Nat.le_of_ble_eq_true rfl, Nat.le_of_ble_eq_true rfl⟩ (fun v7 h8 n9 c10 => ?_) (fun _ _ _ hx => hx.elim)
    obtain ⟨c10a, c10b, c10c⟩ := c10
    rw [c10a, c10b, c10c]
    show mT _ _ _ _ 23 [.ref 0, .int (nI r5), .int how, .ref (2 + 3 * r5)] [] _ _ _ _
    refine mt_iload_n dX2_wrong_23 rfl ?_
    refine mt_if_ne dX2_wrong_24 (tgt := 45) rfl (fun q11 => ?_) (fun q11 => ?_)
    · refine mt_aload_n dX2_wrong_45 rfl rfl ?_
      have H12 : rowAt h (2 + 3 * r5) (rroom r5) (mb (decide (r5 < 2))) (S.1 r5) := CR r5 (by omega)
      obtain ⟨f_17, g_17, ea_17, ek_17, es_17, ql_17, qr_17, qk_17, qt_17⟩ := id H12
      refine mt_callV (N := mX1_wrongPairs) (Rc := rX1_wrongPairs) (As := []) (st := []) dX2_wrong_46 (kX1_wrongPairs hl H12) sX1_wrongPairs mw_178 mKX1 rfl ea_17 rfl (Nat.le_of_ble_eq_true rfl) ⟨⟨Nat.le_of_ble_eq_true rfl, Nat.le_of_ble_eq_true rfl⟩, Nat.le_of_ble_eq_true rfl, Nat.le_of_ble_eq_true rfl⟩ (fun v13 h14 n15 c16 => ?_) (fun _ _ _ hx => hx.elim)
      obtain ⟨c16a, c16b, c16c⟩ := c16
      rw [c16a, c16b, c16c]
      show mT _ _ _ _ 49 [.ref 0, .int (nI r5), .int how, .ref (2 + 3 * r5)] [.int (q_wrongPairs (S.1 r5))] _ _ _ _
      refine mt_ireturn dX2_wrong_49 rfl rfl (Nat.le_of_ble_eq_true rfl) (Nat.le_of_ble_eq_true rfl) ?_
      exact cOk.of (x := .int (q_wrongPairs (S.1 r5))) (S' := (S.1, S.2.1, S.2.2.1, S.2.2.2.1, S.2.2.2.2)) (by simp only [sp_wrong, dAt_s hr5 (by decide), if_pos q6, if_neg q11] <;> first | rfl | simp_all) rfl rfl ⟨C0, ⟨cg, C1, C1g⟩, C14, CR, ⟨_, HK15⟩, ⟨_, HK18⟩, ⟨_, HK21⟩, ⟨_, HK24⟩⟩ (fun j hj => rfl)
    · refine mt_aload_n dX2_wrong_27 rfl rfl ?_
      refine mt_getfield mKX2 (i := 1) (by decide) mw_113 dX2_wrong_28 C0 rfl ?_
      refine mt_aload_n dX2_wrong_31 rfl rfl ?_
      refine mt_aload_n dX2_wrong_32 rfl rfl ?_
      refine mt_getfield mKX2 (i := 1) (by decide) mw_113 dX2_wrong_33 C0 rfl ?_
      refine mt_getfield mKX0 (i := 0) (by decide) mw_97 dX2_wrong_36 C14 rfl ?_
      have H18 : rowAt h (2 + 3 * r5) (rroom r5) (mb (decide (r5 < 2))) (S.1 r5) := CR r5 (by omega)
      refine mt_callV (N := mX0_sortUp) (Rc := rX0_sortUp) (As := [.ref (2 + 3 * r5), .ref 15]) (st := []) dX2_wrong_39 (kX0_sortUp hl C14 HK15 H18 HK24 (by omega) (by omega) (by omega) (by omega)) sX0_sortUp mw_143 mKX0 rfl C14 rfl (Nat.le_of_ble_eq_true rfl) ⟨⟨Nat.le_of_ble_eq_true rfl, Nat.le_of_ble_eq_true rfl⟩, Nat.le_of_ble_eq_true rfl, Nat.le_of_ble_eq_true rfl⟩ (fun v19 h20 n21 c22 => ?_) (fun _ _ _ hx => hx.elim)
      obtain ⟨c22a, c22b, c22c, ⟨c22z, c22d⟩, c22e⟩ := c22
      rw [c22a, c22b]
      have c22f : ∀ j, ((j < 15 ∨ 15 + 3 ≤ j) ∧ (j < 24 ∨ 24 + 3 ≤ j)) → h20 j = h j := fun j hj => c22e j hj.1 hj.2
      have mlc22 := msort_len (ys := S.1 r5)
      show mT _ _ _ _ 42 [.ref 0, .int (nI r5), .int how, .ref (2 + 3 * r5)] [.int ((msort (S.1 r5)).2)] _ _ _ _
      refine mt_goto dX2_wrong_42 (tgt := 49) rfl ?_
      refine mt_ireturn dX2_wrong_49 rfl rfl (Nat.le_of_ble_eq_true rfl) (Nat.le_of_ble_eq_true rfl) ?_
      exact cOk.of (x := .int ((msort (S.1 r5)).2)) (S' := (S.1, S.2.1, S.2.2.1, S.2.2.2.1, S.2.2.2.2)) (by simp only [sp_wrong, dAt_s hr5 (by decide), if_pos q6, if_pos q11] <;> first | rfl | simp_all) rfl rfl ⟨(c22f (0) (by omega)).trans C0, ⟨cg, (c22f (1) (by omega)).trans C1, C1g⟩, (c22f (14) (by omega)).trans C14, cRows0 CR (fun j j1 j2 => c22f j (by omega)), ⟨_, c22c⟩, ⟨_, (HK18).fr (fun j j1 j2 => c22f j (by omega))⟩, ⟨_, (HK21).fr (fun j j1 j2 => c22f j (by omega))⟩, ⟨_, c22d⟩⟩ (fun j hj => c22f j (by omega))
  · refine mt_iload_n dX2_wrong_10 rfl ?_
    refine mt_iconst dX2_wrong_11 (v := nI 1) rfl ?_
    refine mt_icmp_ne dX2_wrong_12 (tgt := 19) rfl (fun q23 => ?_) (fun q23 => ?_)
    · simp only [mI_one, nI_0] at q23
      refine mt_iconst dX2_wrong_19 (v := nI 0) rfl ?_
      refine mt_callS (N := mX2_demand) (Rc := rX2_demand) (As := [.int (nI 0)]) (st := []) dX2_wrong_20 (kX2_demand_f hl) sX2_demand mw_309 rfl (Nat.le_of_ble_eq_true rfl) ⟨⟨Nat.le_of_ble_eq_true rfl, Nat.le_of_ble_eq_true rfl⟩, Nat.le_of_ble_eq_true rfl, Nat.le_of_ble_eq_true rfl⟩ (fun _ _ _ hv => hv.elim) (fun E h9 n9 hx => ?_)
      obtain ⟨rfl, rfl, rfl⟩ := hx
      refine mt_out rfl ?_ (Nat.le_of_ble_eq_true rfl) (Nat.le_of_ble_eq_true rfl)
      exact cNo.a (by simp only [sp_wrong, if_neg q6, if_neg q23, dAt_s hr5 (by decide)])
    · simp only [mI_one, nI_0] at q23
      refine mt_iconst dX2_wrong_15 (v := nI 1) rfl ?_
      refine mt_goto dX2_wrong_16 (tgt := 20) rfl ?_
      refine mt_callS (N := mX2_demand) (Rc := rX2_demand) (As := [.int (nI 1)]) (st := []) dX2_wrong_20 (kX2_demand_t hl) sX2_demand mw_309 rfl (Nat.le_of_ble_eq_true rfl) ⟨⟨Nat.le_of_ble_eq_true rfl, Nat.le_of_ble_eq_true rfl⟩, Nat.le_of_ble_eq_true rfl, Nat.le_of_ble_eq_true rfl⟩ (fun v28 h29 n30 c31 => ?_) (fun _ _ _ hx => hx.elim)
      obtain ⟨c31a, c31b, c31c⟩ := c31
      rw [c31a, c31b, c31c]
      show mT _ _ _ _ 23 [.ref 0, .int (nI r5), .int how, .ref (2 + 3 * r5)] [] _ _ _ _
      refine mt_iload_n dX2_wrong_23 rfl ?_
      refine mt_if_ne dX2_wrong_24 (tgt := 45) rfl (fun q32 => ?_) (fun q32 => ?_)
      · refine mt_aload_n dX2_wrong_45 rfl rfl ?_
        have H33 : rowAt h (2 + 3 * r5) (rroom r5) (mb (decide (r5 < 2))) (S.1 r5) := CR r5 (by omega)
        obtain ⟨f_38, g_38, ea_38, ek_38, es_38, ql_38, qr_38, qk_38, qt_38⟩ := id H33
        refine mt_callV (N := mX1_wrongPairs) (Rc := rX1_wrongPairs) (As := []) (st := []) dX2_wrong_46 (kX1_wrongPairs hl H33) sX1_wrongPairs mw_178 mKX1 rfl ea_38 rfl (Nat.le_of_ble_eq_true rfl) ⟨⟨Nat.le_of_ble_eq_true rfl, Nat.le_of_ble_eq_true rfl⟩, Nat.le_of_ble_eq_true rfl, Nat.le_of_ble_eq_true rfl⟩ (fun v34 h35 n36 c37 => ?_) (fun _ _ _ hx => hx.elim)
        obtain ⟨c37a, c37b, c37c⟩ := c37
        rw [c37a, c37b, c37c]
        show mT _ _ _ _ 49 [.ref 0, .int (nI r5), .int how, .ref (2 + 3 * r5)] [.int (q_wrongPairs (S.1 r5))] _ _ _ _
        refine mt_ireturn dX2_wrong_49 rfl rfl (Nat.le_of_ble_eq_true rfl) (Nat.le_of_ble_eq_true rfl) ?_
        exact cOk.of (x := .int (q_wrongPairs (S.1 r5))) (S' := (S.1, S.2.1, S.2.2.1, S.2.2.2.1, S.2.2.2.2)) (by simp only [sp_wrong, dAt_s hr5 (by decide), if_neg q6, if_pos q23, if_neg q32] <;> first | rfl | simp_all) rfl rfl ⟨C0, ⟨cg, C1, C1g⟩, C14, CR, ⟨_, HK15⟩, ⟨_, HK18⟩, ⟨_, HK21⟩, ⟨_, HK24⟩⟩ (fun j hj => rfl)
      · refine mt_aload_n dX2_wrong_27 rfl rfl ?_
        refine mt_getfield mKX2 (i := 1) (by decide) mw_113 dX2_wrong_28 C0 rfl ?_
        refine mt_aload_n dX2_wrong_31 rfl rfl ?_
        refine mt_aload_n dX2_wrong_32 rfl rfl ?_
        refine mt_getfield mKX2 (i := 1) (by decide) mw_113 dX2_wrong_33 C0 rfl ?_
        refine mt_getfield mKX0 (i := 0) (by decide) mw_97 dX2_wrong_36 C14 rfl ?_
        have H39 : rowAt h (2 + 3 * r5) (rroom r5) (mb (decide (r5 < 2))) (S.1 r5) := CR r5 (by omega)
        refine mt_callV (N := mX0_sortUp) (Rc := rX0_sortUp) (As := [.ref (2 + 3 * r5), .ref 15]) (st := []) dX2_wrong_39 (kX0_sortUp hl C14 HK15 H39 HK24 (by omega) (by omega) (by omega) (by omega)) sX0_sortUp mw_143 mKX0 rfl C14 rfl (Nat.le_of_ble_eq_true rfl) ⟨⟨Nat.le_of_ble_eq_true rfl, Nat.le_of_ble_eq_true rfl⟩, Nat.le_of_ble_eq_true rfl, Nat.le_of_ble_eq_true rfl⟩ (fun v40 h41 n42 c43 => ?_) (fun _ _ _ hx => hx.elim)
        obtain ⟨c43a, c43b, c43c, ⟨c43z, c43d⟩, c43e⟩ := c43
        rw [c43a, c43b]
        have c43f : ∀ j, ((j < 15 ∨ 15 + 3 ≤ j) ∧ (j < 24 ∨ 24 + 3 ≤ j)) → h41 j = h j := fun j hj => c43e j hj.1 hj.2
        have mlc43 := msort_len (ys := S.1 r5)
        show mT _ _ _ _ 42 [.ref 0, .int (nI r5), .int how, .ref (2 + 3 * r5)] [.int ((msort (S.1 r5)).2)] _ _ _ _
        refine mt_goto dX2_wrong_42 (tgt := 49) rfl ?_
        refine mt_ireturn dX2_wrong_49 rfl rfl (Nat.le_of_ble_eq_true rfl) (Nat.le_of_ble_eq_true rfl) ?_
        exact cOk.of (x := .int ((msort (S.1 r5)).2)) (S' := (S.1, S.2.1, S.2.2.1, S.2.2.2.1, S.2.2.2.2)) (by simp only [sp_wrong, dAt_s hr5 (by decide), if_neg q6, if_pos q23, if_pos q32] <;> first | rfl | simp_all) rfl rfl ⟨(c43f (0) (by omega)).trans C0, ⟨cg, (c43f (1) (by omega)).trans C1, C1g⟩, (c43f (14) (by omega)).trans C14, cRows0 CR (fun j j1 j2 => c43f j (by omega)), ⟨_, c43c⟩, ⟨_, (HK18).fr (fun j j1 j2 => c43f j (by omega))⟩, ⟨_, (HK21).fr (fun j j1 j2 => c43f j (by omega))⟩, ⟨_, c43d⟩⟩ (fun j hj => c43f j (by omega))
def sp_same (S : cS) (row : Int32) (other : Int32) : Nat × Value × cS := dAt S 4 row fun r => dAt S 4 other fun q => (0, .int (mb (decide ((S.1 r).length = (S.1 q).length) && decide (q_otherKeys (S.1 r) (S.1 q) = 0))), S)
abbrev rX2_same : Room := { frames := 7, cells := 2, slots := 12, locals := 111 }
set_option maxRecDepth 100000 in
set_option maxHeartbeats 2000000 in
theorem kX2_same {l : Launch} (hl : l.stackTraces = false) {h : mH} {n : Nat} {S : cS} {row : Int32} {other : Int32} (C : cAt h S) : mC l mX2_same rX2_same [.ref 0, .int row, .int other] h n (cOk (sp_same S row other) h n) (cNo (sp_same S row other).1 h n) := by
  obtain ⟨C0, ⟨cg, C1, C1g⟩, C14, CR, ⟨zs15, HK15⟩, ⟨zs18, HK18⟩, ⟨zs21, HK21⟩, ⟨zs24, HK24⟩⟩ := id C
  refine mm_enter hl (by decide +kernel) rfl rfl rfl (Nat.le_of_ble_eq_true rfl) ?_
  show mT _ _ _ _ 0 [.ref 0, .int row, .int other, .double 0, .double 0] [] _ _ 0 0
  refine mt_aload_n dX2_same_0 rfl rfl ?_
  refine mt_iload_n dX2_same_1 rfl ?_
  refine mt_callV (N := mX2_rowOf) (Rc := rX2_rowOf) (As := [.int row]) (st := []) dX2_same_2 (kX2_rowOf hl C) sX2_rowOf mw_230 mKX2 rfl C0 rfl (Nat.le_of_ble_eq_true rfl) ⟨⟨Nat.le_of_ble_eq_true rfl, Nat.le_of_ble_eq_true rfl⟩, Nat.le_of_ble_eq_true rfl, Nat.le_of_ble_eq_true rfl⟩ (fun v1 h2 n3 c4 => ?_) (fun E h9 n9 hx => mt_out rfl (by obtain ⟨rfl, hq, rfl, rfl⟩ := hx; exact cNo.i (by simp only [sp_same, dAt_n hq])) (Nat.le_of_ble_eq_true rfl) (Nat.le_of_ble_eq_true rfl))
  obtain ⟨r5, hr5, rfl, c4a, c4b, c4c⟩ := c4
  rw [c4a, c4b, c4c]
  have hLr5 := (CR r5 hr5).len
  show mT _ _ _ _ 5 [.ref 0, .int (nI r5), .int other, .double 0, .double 0] [.ref (2 + 3 * r5)] _ _ _ _
  refine mp_astore_n dX2_same_5 (ls' := [.ref 0, .int (nI r5), .int other, .ref (2 + 3 * r5), .double 0]) rfl rfl (by decide) rfl ?_
  refine mt_aload_n dX2_same_6 rfl rfl ?_
  refine mt_iload_n dX2_same_7 rfl ?_
  refine mt_callV (N := mX2_rowOf) (Rc := rX2_rowOf) (As := [.int other]) (st := []) dX2_same_8 (kX2_rowOf hl C) sX2_rowOf mw_230 mKX2 rfl C0 rfl (Nat.le_of_ble_eq_true rfl) ⟨⟨Nat.le_of_ble_eq_true rfl, Nat.le_of_ble_eq_true rfl⟩, Nat.le_of_ble_eq_true rfl, Nat.le_of_ble_eq_true rfl⟩ (fun v6 h7 n8 c9 => ?_) (fun E h9 n9 hx => mt_out rfl (by obtain ⟨rfl, hq, rfl, rfl⟩ := hx; exact cNo.i (by simp only [sp_same, dAt_n hq, dAt_s hr5 (by decide)])) (Nat.le_of_ble_eq_true rfl) (Nat.le_of_ble_eq_true rfl))
  obtain ⟨r10, hr10, rfl, c9a, c9b, c9c⟩ := c9
  rw [c9a, c9b, c9c]
  have hLr10 := (CR r10 hr10).len
  show mT _ _ _ _ 11 [.ref 0, .int (nI r5), .int (nI r10), .ref (2 + 3 * r5), .double 0] [.ref (2 + 3 * r10)] _ _ _ _
  refine mp_astore dX2_same_11 (ls' := [.ref 0, .int (nI r5), .int (nI r10), .ref (2 + 3 * r5), .ref (2 + 3 * r10)]) rfl rfl (by decide) rfl ?_
  refine mt_aload_n dX2_same_13 rfl rfl ?_
  obtain ⟨f_11, g_11, ea_11, ek_11, es_11, ql_11, qr_11, qk_11, qt_11⟩ := id CR r5 (by omega)
  refine mt_getfield mKX1 (i := 3) (by decide) mw_76 dX2_same_14 ea_11 rfl ?_
  refine mt_aload dX2_same_17 rfl rfl ?_
  obtain ⟨f_12, g_12, ea_12, ek_12, es_12, ql_12, qr_12, qk_12, qt_12⟩ := id CR r10 (by omega)
  refine mt_getfield mKX1 (i := 3) (by decide) mw_76 dX2_same_19 ea_12 rfl ?_
  refine mt_icmp_ne dX2_same_22 (tgt := 38) rfl (fun q13 => ?_) (fun q13 => ?_)
  · have q13 := (not_congr (nI_eq (by omega) (by omega))).mp q13
    refine mt_iconst dX2_same_38 (v := nI 0) rfl ?_
    refine mt_ireturn dX2_same_39 rfl rfl (Nat.le_of_ble_eq_true rfl) (Nat.le_of_ble_eq_true rfl) ?_
    exact cOk.of (x := .int (nI 0)) (S' := (S.1, S.2.1, S.2.2.1, S.2.2.2.1, S.2.2.2.2)) (by simp only [sp_same, dAt_s hr5 (by decide), dAt_s hr10 (by decide)]; exact congrArg (a₂ := false) (fun b => ((0 : Nat), Value.int (mb b), S)) (by simp [q13])) rfl rfl ⟨C0, ⟨cg, C1, C1g⟩, C14, CR, ⟨_, HK15⟩, ⟨_, HK18⟩, ⟨_, HK21⟩, ⟨_, HK24⟩⟩ (fun j hj => rfl)
  · have q13 := (nI_eq (by omega) (by omega)).mp q13
    refine mt_aload_n dX2_same_25 rfl rfl ?_
    refine mt_aload dX2_same_26 rfl rfl ?_
    have H14 : rowAt h (2 + 3 * r5) (rroom r5) (mb (decide (r5 < 2))) (S.1 r5) := CR r5 (by omega)
    have H15 : rowAt h (2 + 3 * r10) (rroom r10) (mb (decide (r10 < 2))) (S.1 r10) := CR r10 (by omega)
    refine mt_callV (N := mX1_otherKeys) (Rc := rX1_otherKeys) (As := [.ref (2 + 3 * r10)]) (st := []) dX2_same_28 (kX1_otherKeys hl H14 H15) sX1_otherKeys mw_510 mKX1 rfl ea_11 rfl (Nat.le_of_ble_eq_true rfl) ⟨⟨Nat.le_of_ble_eq_true rfl, Nat.le_of_ble_eq_true rfl⟩, Nat.le_of_ble_eq_true rfl, Nat.le_of_ble_eq_true rfl⟩ (fun v16 h17 n18 c19 => ?_) (fun _ _ _ hx => hx.elim)
    obtain ⟨c19a, c19b, c19c⟩ := c19
    rw [c19a, c19b, c19c]
    show mT _ _ _ _ 31 [.ref 0, .int (nI r5), .int (nI r10), .ref (2 + 3 * r5), .ref (2 + 3 * r10)] [.int (q_otherKeys (S.1 r5) (S.1 r10))] _ _ _ _
    refine mt_if_ne dX2_same_31 (tgt := 38) rfl (fun q20 => ?_) (fun q20 => ?_)
    · refine mt_iconst dX2_same_38 (v := nI 0) rfl ?_
      refine mt_ireturn dX2_same_39 rfl rfl (Nat.le_of_ble_eq_true rfl) (Nat.le_of_ble_eq_true rfl) ?_
      exact cOk.of (x := .int (nI 0)) (S' := (S.1, S.2.1, S.2.2.1, S.2.2.2.1, S.2.2.2.2)) (by simp only [sp_same, dAt_s hr5 (by decide), dAt_s hr10 (by decide)]; exact congrArg (a₂ := false) (fun b => ((0 : Nat), Value.int (mb b), S)) (by simp [q13, q20])) rfl rfl ⟨C0, ⟨cg, C1, C1g⟩, C14, CR, ⟨_, HK15⟩, ⟨_, HK18⟩, ⟨_, HK21⟩, ⟨_, HK24⟩⟩ (fun j hj => rfl)
    · refine mt_iconst dX2_same_34 (v := nI 1) rfl ?_
      refine mt_goto dX2_same_35 (tgt := 39) rfl ?_
      refine mt_ireturn dX2_same_39 rfl rfl (Nat.le_of_ble_eq_true rfl) (Nat.le_of_ble_eq_true rfl) ?_
      exact cOk.of (x := .int (nI 1)) (S' := (S.1, S.2.1, S.2.2.1, S.2.2.2.1, S.2.2.2.2)) (by simp only [sp_same, dAt_s hr5 (by decide), dAt_s hr10 (by decide)]; exact congrArg (a₂ := true) (fun b => ((0 : Nat), Value.int (mb b), S)) (by simp [q13, q20])) rfl rfl ⟨C0, ⟨cg, C1, C1g⟩, C14, CR, ⟨_, HK15⟩, ⟨_, HK18⟩, ⟨_, HK21⟩, ⟨_, HK24⟩⟩ (fun j hj => rfl)
def sp_bag (S : cS) (row : Int32) (other : Int32) : Nat × Value × cS := dAt S 4 row fun r => dAt S 4 other fun q => (0, .int (mb (decide ((S.1 r).length = (S.1 q).length) && decide (q_otherKeys (msort (S.1 r)).1 (msort (S.1 q)).1 = 0))), S)
abbrev rX2_bag : Room := { frames := 7, cells := 2, slots := 12, locals := 123 }
set_option maxRecDepth 100000 in
set_option maxHeartbeats 2000000 in
theorem kX2_bag {l : Launch} (hl : l.stackTraces = false) {h : mH} {n : Nat} {S : cS} {row : Int32} {other : Int32} (C : cAt h S) : mC l mX2_bag rX2_bag [.ref 0, .int row, .int other] h n (cOk (sp_bag S row other) h n) (cNo (sp_bag S row other).1 h n) := by
  obtain ⟨C0, ⟨cg, C1, C1g⟩, C14, CR, ⟨zs15, HK15⟩, ⟨zs18, HK18⟩, ⟨zs21, HK21⟩, ⟨zs24, HK24⟩⟩ := id C
  refine mm_enter hl (by decide +kernel) rfl rfl rfl (Nat.le_of_ble_eq_true rfl) ?_
  show mT _ _ _ _ 0 [.ref 0, .int row, .int other, .double 0, .double 0] [] _ _ 0 0
  refine mt_aload_n dX2_bag_0 rfl rfl ?_
  refine mt_iload_n dX2_bag_1 rfl ?_
  refine mt_callV (N := mX2_rowOf) (Rc := rX2_rowOf) (As := [.int row]) (st := []) dX2_bag_2 (kX2_rowOf hl C) sX2_rowOf mw_230 mKX2 rfl C0 rfl (Nat.le_of_ble_eq_true rfl) ⟨⟨Nat.le_of_ble_eq_true rfl, Nat.le_of_ble_eq_true rfl⟩, Nat.le_of_ble_eq_true rfl, Nat.le_of_ble_eq_true rfl⟩ (fun v1 h2 n3 c4 => ?_) (fun E h9 n9 hx => mt_out rfl (by obtain ⟨rfl, hq, rfl, rfl⟩ := hx; exact cNo.i (by simp only [sp_bag, dAt_n hq])) (Nat.le_of_ble_eq_true rfl) (Nat.le_of_ble_eq_true rfl))
  obtain ⟨r5, hr5, rfl, c4a, c4b, c4c⟩ := c4
  rw [c4a, c4b, c4c]
  have hLr5 := (CR r5 hr5).len
  show mT _ _ _ _ 5 [.ref 0, .int (nI r5), .int other, .double 0, .double 0] [.ref (2 + 3 * r5)] _ _ _ _
  refine mp_astore_n dX2_bag_5 (ls' := [.ref 0, .int (nI r5), .int other, .ref (2 + 3 * r5), .double 0]) rfl rfl (by decide) rfl ?_
  refine mt_aload_n dX2_bag_6 rfl rfl ?_
  refine mt_iload_n dX2_bag_7 rfl ?_
  refine mt_callV (N := mX2_rowOf) (Rc := rX2_rowOf) (As := [.int other]) (st := []) dX2_bag_8 (kX2_rowOf hl C) sX2_rowOf mw_230 mKX2 rfl C0 rfl (Nat.le_of_ble_eq_true rfl) ⟨⟨Nat.le_of_ble_eq_true rfl, Nat.le_of_ble_eq_true rfl⟩, Nat.le_of_ble_eq_true rfl, Nat.le_of_ble_eq_true rfl⟩ (fun v6 h7 n8 c9 => ?_) (fun E h9 n9 hx => mt_out rfl (by obtain ⟨rfl, hq, rfl, rfl⟩ := hx; exact cNo.i (by simp only [sp_bag, dAt_n hq, dAt_s hr5 (by decide)])) (Nat.le_of_ble_eq_true rfl) (Nat.le_of_ble_eq_true rfl))
  obtain ⟨r10, hr10, rfl, c9a, c9b, c9c⟩ := c9
  rw [c9a, c9b, c9c]
  have hLr10 := (CR r10 hr10).len
  show mT _ _ _ _ 11 [.ref 0, .int (nI r5), .int (nI r10), .ref (2 + 3 * r5), .double 0] [.ref (2 + 3 * r10)] _ _ _ _
  refine mp_astore dX2_bag_11 (ls' := [.ref 0, .int (nI r5), .int (nI r10), .ref (2 + 3 * r5), .ref (2 + 3 * r10)]) rfl rfl (by decide) rfl ?_
  refine mt_aload_n dX2_bag_13 rfl rfl ?_
  refine mt_getfield mKX2 (i := 1) (by decide) mw_113 dX2_bag_14 C0 rfl ?_
  refine mt_aload_n dX2_bag_17 rfl rfl ?_
  refine mt_aload_n dX2_bag_18 rfl rfl ?_
  refine mt_getfield mKX2 (i := 1) (by decide) mw_113 dX2_bag_19 C0 rfl ?_
  refine mt_getfield mKX0 (i := 0) (by decide) mw_97 dX2_bag_22 C14 rfl ?_
  have H11 : rowAt h (2 + 3 * r5) (rroom r5) (mb (decide (r5 < 2))) (S.1 r5) := CR r5 (by omega)
  refine mt_callV (N := mX0_sortUp) (Rc := rX0_sortUp) (As := [.ref (2 + 3 * r5), .ref 15]) (st := []) dX2_bag_25 (kX0_sortUp hl C14 HK15 H11 HK24 (by omega) (by omega) (by omega) (by omega)) sX0_sortUp mw_143 mKX0 rfl C14 rfl (Nat.le_of_ble_eq_true rfl) ⟨⟨Nat.le_of_ble_eq_true rfl, Nat.le_of_ble_eq_true rfl⟩, Nat.le_of_ble_eq_true rfl, Nat.le_of_ble_eq_true rfl⟩ (fun v12 h13 n14 c15 => ?_) (fun _ _ _ hx => hx.elim)
  obtain ⟨c15a, c15b, c15c, ⟨c15z, c15d⟩, c15e⟩ := c15
  rw [c15a, c15b]
  have c15f : ∀ j, ((j < 15 ∨ 15 + 3 ≤ j) ∧ (j < 24 ∨ 24 + 3 ≤ j)) → h13 j = h j := fun j hj => c15e j hj.1 hj.2
  have mlc15 := msort_len (ys := S.1 r5)
  show mT _ _ _ _ 28 [.ref 0, .int (nI r5), .int (nI r10), .ref (2 + 3 * r5), .ref (2 + 3 * r10)] [.int ((msort (S.1 r5)).2)] _ _ _ _
  refine mt_pop dX2_bag_28 rfl ?_
  refine mt_aload_n dX2_bag_29 rfl rfl ?_
  refine mt_getfield mKX2 (i := 1) (by decide) mw_113 dX2_bag_30 ((c15f (0) (by omega)).trans C0) rfl ?_
  refine mt_aload dX2_bag_33 rfl rfl ?_
  refine mt_aload_n dX2_bag_35 rfl rfl ?_
  refine mt_getfield mKX2 (i := 1) (by decide) mw_113 dX2_bag_36 ((c15f (0) (by omega)).trans C0) rfl ?_
  refine mt_getfield mKX0 (i := 2) (by decide) mw_101 dX2_bag_39 ((c15f (14) (by omega)).trans C14) rfl ?_
  have H16 : rowAt h13 21 320 (nI 1) zs21 := (HK21).fr (fun j j1 j2 => c15f j (by omega))
  have H17 : rowAt h13 (2 + 3 * r10) (rroom r10) (mb (decide (r10 < 2))) (S.1 r10) := (CR r10 (by omega)).fr (fun j j1 j2 => c15f j (by omega))
  refine mt_callV (N := mX0_sortUp) (Rc := rX0_sortUp) (As := [.ref (2 + 3 * r10), .ref 21]) (st := []) dX2_bag_42 (kX0_sortUp hl ((c15f (14) (by omega)).trans C14) H16 H17 c15d (by omega) (by omega) (by omega) (by omega)) sX0_sortUp mw_143 mKX0 rfl ((c15f (14) (by omega)).trans C14) rfl (Nat.le_of_ble_eq_true rfl) ⟨⟨Nat.le_of_ble_eq_true rfl, Nat.le_of_ble_eq_true rfl⟩, Nat.le_of_ble_eq_true rfl, Nat.le_of_ble_eq_true rfl⟩ (fun v18 h19 n20 c21 => ?_) (fun _ _ _ hx => hx.elim)
  obtain ⟨c21a, c21b, c21c, ⟨c21z, c21d⟩, c21e⟩ := c21
  rw [c21a, c21b]
  have c21f : ∀ j, ((j < 21 ∨ 21 + 3 ≤ j) ∧ (j < 24 ∨ 24 + 3 ≤ j)) → h19 j = h13 j := fun j hj => c21e j hj.1 hj.2
  have mlc21 := msort_len (ys := S.1 r10)
  show mT _ _ _ _ 45 [.ref 0, .int (nI r5), .int (nI r10), .ref (2 + 3 * r5), .ref (2 + 3 * r10)] [.int ((msort (S.1 r10)).2)] _ _ _ _
  refine mt_pop dX2_bag_45 rfl ?_
  refine mt_aload_n dX2_bag_46 rfl rfl ?_
  obtain ⟨f_22, g_22, ea_22, ek_22, es_22, ql_22, qr_22, qk_22, qt_22⟩ := id ((H11).fr (fun j j1 j2 => c15f j (by omega))).fr (fun j j1 j2 => c21f j (by omega))
  refine mt_getfield mKX1 (i := 3) (by decide) mw_76 dX2_bag_47 ea_22 rfl ?_
  refine mt_aload dX2_bag_50 rfl rfl ?_
  obtain ⟨f_23, g_23, ea_23, ek_23, es_23, ql_23, qr_23, qk_23, qt_23⟩ := id (H17).fr (fun j j1 j2 => c21f j (by omega))
  refine mt_getfield mKX1 (i := 3) (by decide) mw_76 dX2_bag_52 ea_23 rfl ?_
  refine mt_icmp_ne dX2_bag_55 (tgt := 82) rfl (fun q24 => ?_) (fun q24 => ?_)
  · have q24 := (not_congr (nI_eq (by omega) (by omega))).mp q24
    refine mt_iconst dX2_bag_82 (v := nI 0) rfl ?_
    refine mt_ireturn dX2_bag_83 rfl rfl (Nat.le_of_ble_eq_true rfl) (Nat.le_of_ble_eq_true rfl) ?_
    exact cOk.of (x := .int (nI 0)) (S' := (S.1, S.2.1, S.2.2.1, S.2.2.2.1, S.2.2.2.2)) (by simp only [sp_bag, dAt_s hr5 (by decide), dAt_s hr10 (by decide)]; exact congrArg (a₂ := false) (fun b => ((0 : Nat), Value.int (mb b), S)) (by simp [q24])) rfl rfl ⟨(c21f (0) (by omega)).trans ((c15f (0) (by omega)).trans C0), ⟨cg, (c21f (1) (by omega)).trans ((c15f (1) (by omega)).trans C1), C1g⟩, (c21f (14) (by omega)).trans ((c15f (14) (by omega)).trans C14), cRows0 CR (fun j j1 j2 => (c21f j (by omega)).trans (c15f j (by omega))), ⟨_, (c15c).fr (fun j j1 j2 => c21f j (by omega))⟩, ⟨_, ((HK18).fr (fun j j1 j2 => c15f j (by omega))).fr (fun j j1 j2 => c21f j (by omega))⟩, ⟨_, c21c⟩, ⟨_, c21d⟩⟩ (fun j hj => (c21f j (by omega)).trans (c15f j (by omega)))
  · have q24 := (nI_eq (by omega) (by omega)).mp q24
    refine mt_aload_n dX2_bag_58 rfl rfl ?_
    refine mt_getfield mKX2 (i := 1) (by decide) mw_113 dX2_bag_59 ((c21f (0) (by omega)).trans ((c15f (0) (by omega)).trans C0)) rfl ?_
    refine mt_getfield mKX0 (i := 0) (by decide) mw_97 dX2_bag_62 ((c21f (14) (by omega)).trans ((c15f (14) (by omega)).trans C14)) rfl ?_
    refine mt_aload_n dX2_bag_65 rfl rfl ?_
    refine mt_getfield mKX2 (i := 1) (by decide) mw_113 dX2_bag_66 ((c21f (0) (by omega)).trans ((c15f (0) (by omega)).trans C0)) rfl ?_
    refine mt_getfield mKX0 (i := 2) (by decide) mw_101 dX2_bag_69 ((c21f (14) (by omega)).trans ((c15f (14) (by omega)).trans C14)) rfl ?_
    have H25 : rowAt h19 15 320 (nI 1) ((msort (S.1 r5)).1) := (c15c).fr (fun j j1 j2 => c21f j (by omega))
    obtain ⟨f_30, g_30, ea_30, ek_30, es_30, ql_30, qr_30, qk_30, qt_30⟩ := id H25
    refine mt_callV (N := mX1_otherKeys) (Rc := rX1_otherKeys) (As := [.ref 21]) (st := []) dX2_bag_72 (kX1_otherKeys hl H25 c21c) sX1_otherKeys mw_510 mKX1 rfl ea_30 rfl (Nat.le_of_ble_eq_true rfl) ⟨⟨Nat.le_of_ble_eq_true rfl, Nat.le_of_ble_eq_true rfl⟩, Nat.le_of_ble_eq_true rfl, Nat.le_of_ble_eq_true rfl⟩ (fun v26 h27 n28 c29 => ?_) (fun _ _ _ hx => hx.elim)
    obtain ⟨c29a, c29b, c29c⟩ := c29
    rw [c29a, c29b, c29c]
    show mT _ _ _ _ 75 [.ref 0, .int (nI r5), .int (nI r10), .ref (2 + 3 * r5), .ref (2 + 3 * r10)] [.int (q_otherKeys ((msort (S.1 r5)).1) ((msort (S.1 r10)).1))] _ _ _ _
    refine mt_if_ne dX2_bag_75 (tgt := 82) rfl (fun q31 => ?_) (fun q31 => ?_)
    · refine mt_iconst dX2_bag_82 (v := nI 0) rfl ?_
      refine mt_ireturn dX2_bag_83 rfl rfl (Nat.le_of_ble_eq_true rfl) (Nat.le_of_ble_eq_true rfl) ?_
      exact cOk.of (x := .int (nI 0)) (S' := (S.1, S.2.1, S.2.2.1, S.2.2.2.1, S.2.2.2.2)) (by simp only [sp_bag, dAt_s hr5 (by decide), dAt_s hr10 (by decide)]; exact congrArg (a₂ := false) (fun b => ((0 : Nat), Value.int (mb b), S)) (by simp [q24, q31])) rfl rfl ⟨(c21f (0) (by omega)).trans ((c15f (0) (by omega)).trans C0), ⟨cg, (c21f (1) (by omega)).trans ((c15f (1) (by omega)).trans C1), C1g⟩, (c21f (14) (by omega)).trans ((c15f (14) (by omega)).trans C14), cRows0 CR (fun j j1 j2 => (c21f j (by omega)).trans (c15f j (by omega))), ⟨_, H25⟩, ⟨_, ((HK18).fr (fun j j1 j2 => c15f j (by omega))).fr (fun j j1 j2 => c21f j (by omega))⟩, ⟨_, c21c⟩, ⟨_, c21d⟩⟩ (fun j hj => (c21f j (by omega)).trans (c15f j (by omega)))
    · refine mt_iconst dX2_bag_78 (v := nI 1) rfl ?_
      refine mt_goto dX2_bag_79 (tgt := 83) rfl ?_
      refine mt_ireturn dX2_bag_83 rfl rfl (Nat.le_of_ble_eq_true rfl) (Nat.le_of_ble_eq_true rfl) ?_
      exact cOk.of (x := .int (nI 1)) (S' := (S.1, S.2.1, S.2.2.1, S.2.2.2.1, S.2.2.2.2)) (by simp only [sp_bag, dAt_s hr5 (by decide), dAt_s hr10 (by decide)]; exact congrArg (a₂ := true) (fun b => ((0 : Nat), Value.int (mb b), S)) (by simp [q24, q31])) rfl rfl ⟨(c21f (0) (by omega)).trans ((c15f (0) (by omega)).trans C0), ⟨cg, (c21f (1) (by omega)).trans ((c15f (1) (by omega)).trans C1), C1g⟩, (c21f (14) (by omega)).trans ((c15f (14) (by omega)).trans C14), cRows0 CR (fun j j1 j2 => (c21f j (by omega)).trans (c15f j (by omega))), ⟨_, H25⟩, ⟨_, ((HK18).fr (fun j j1 j2 => c15f j (by omega))).fr (fun j j1 j2 => c21f j (by omega))⟩, ⟨_, c21c⟩, ⟨_, c21d⟩⟩ (fun j hj => (c21f j (by omega)).trans (c15f j (by omega)))
def sp_knock (S : cS)  : Nat × Value × cS := (0, .int (S.2.2.2.2 + nI 1), (S.1, S.2.1, S.2.2.1, S.2.2.2.1, S.2.2.2.2 + nI 1))
abbrev rX2_knock : Room := { frames := 0, cells := 0, slots := 0, locals := 0 }
set_option maxRecDepth 100000 in
set_option maxHeartbeats 2000000 in
theorem kX2_knock {l : Launch} (hl : l.stackTraces = false) {h : mH} {n : Nat} {S : cS} (C : cAt h S) : mC l mX2_knock rX2_knock [.ref 0] h n (cOk (sp_knock S ) h n) (cNo (sp_knock S ).1 h n) := by
  obtain ⟨C0, ⟨cg, C1, C1g⟩, C14, CR, ⟨zs15, HK15⟩, ⟨zs18, HK18⟩, ⟨zs21, HK21⟩, ⟨zs24, HK24⟩⟩ := id C
  refine mm_enter hl (by decide +kernel) rfl rfl rfl (Nat.le_of_ble_eq_true rfl) ?_
  show mT _ _ _ _ 0 [.ref 0] [] _ _ 0 0
  refine mt_aload_n dX2_knock_0 rfl rfl ?_
  refine mt_dup dX2_knock_1 rfl ?_
  refine mt_getfield mKX2 (i := 5) (by decide) mw_117 dX2_knock_2 C0 rfl ?_
  refine mt_iconst dX2_knock_5 (v := nI 1) rfl ?_
  refine mp_iadd dX2_knock_6 (v := S.2.2.2.2 + (nI 1)) rfl ?_
  refine mp_putfield mKX2 (i := 5) (fs' := [.ref 1, .ref 14, .int S.2.1, .int S.2.2.1, .int S.2.2.2.1, .int (S.2.2.2.2 + (nI 1))]) (by decide) mw_117 rfl dX2_knock_7 C0 (Nat.le_of_ble_eq_true rfl) rfl rfl (fun h1 e2 f3 => ?_)
  refine mt_aload_n dX2_knock_10 rfl rfl ?_
  refine mt_getfield mKX2 (i := 5) (by decide) mw_117 dX2_knock_11 e2 rfl ?_
  refine mt_ireturn dX2_knock_14 rfl rfl (Nat.le_of_ble_eq_true rfl) (Nat.le_of_ble_eq_true rfl) ?_
  exact cOk.of (x := .int (S.2.2.2.2 + (nI 1))) (S' := (S.1, S.2.1, S.2.2.1, S.2.2.2.1, S.2.2.2.2 + (nI 1))) (by simp only [sp_knock] <;> first | rfl | simp_all) rfl rfl ⟨e2, ⟨cg, (f3 (1) (by omega)).trans C1, C1g⟩, (f3 (14) (by omega)).trans C14, cRows0 CR (fun j j1 j2 => f3 j (by omega)), ⟨_, (HK15).fr (fun j j1 j2 => f3 j (by omega))⟩, ⟨_, (HK18).fr (fun j j1 j2 => f3 j (by omega))⟩, ⟨_, (HK21).fr (fun j j1 j2 => f3 j (by omega))⟩, ⟨_, (HK24).fr (fun j j1 j2 => f3 j (by omega))⟩⟩ (fun j hj => f3 j (by omega))
abbrev rX2_mark : Room := { frames := 7, cells := 1, slots := 6, locals := 111 }
set_option maxRecDepth 100000 in
set_option maxHeartbeats 2000000 in
theorem tX2_mark_13 {l : Launch} {R : Room} {K : mK} {cc sc : Nat} {h : mH} {n a room rr : Nat} {fl r : Int32} {b : Bool} {xs : List mIt} (H : rowAt h a room fl xs) (kk0 : ∀ (e : Int32) (i : Nat), (e = r) → mT l mX2_mark R K 57 [.ref 0, .int (nI rr), .int (mb (b)), .ref a, .int e, .int (nI i)] [] h n cc sc) : ∀ (N0 : Nat) (i : Nat) (e : Int32), (xs.length - i) < N0 → (mlp (fun i e => e * nI 31 + (if b = false then xk xs i else xt xs i)) (xs.length - i) i e = r) → (i ≤ xs.length) → mT l mX2_mark R K 13 [.ref 0, .int (nI rr), .int (mb (b)), .ref a, .int e, .int (nI i)] [] h n cc sc := by
  intro N0
  induction N0 with
  | zero => intro i e hm; exact absurd hm (Nat.not_lt_zero _)
  | succ N0 ih =>
    intro i e hm hr hi
    obtain ⟨f_1, g_1, ea_1, ek_1, es_1, ql_1, qr_1, qk_1, qt_1⟩ := id H
    refine mt_iload dX2_mark_13 rfl ?_
    refine mt_aload_n dX2_mark_15 rfl rfl ?_
    refine mt_getfield mKX1 (i := 3) (by decide) mw_76 dX2_mark_16 ea_1 rfl ?_
    refine mt_icmp_ge dX2_mark_19 (tgt := 57) rfl (fun q2 => ?_) (fun q2 => ?_)
    · have q2 := Int32.not_lt.mpr q2
      have q2 := (not_congr (nI_ltI (by omega) (by omega))).mp q2
      exact kk0 e i ((mlp_end (f := fun i e => e * nI 31 + (if b = false then xk xs i else xt xs i)) (by omega)).symm.trans hr)
    · have q2 := Int32.not_le.mp q2
      have q2 := (nI_ltI (by omega) (by omega)).mp q2
      refine mt_iload dX2_mark_22 rfl ?_
      refine mt_bipush dX2_mark_24 (v := nI 31) (by decide) ?_
      refine mp_imul dX2_mark_26 (v := e * (nI 31)) rfl ?_
      refine mt_iload_n dX2_mark_27 rfl ?_
      refine mt_if_eq dX2_mark_28 (tgt := 41) rfl (fun q3 => ?_) (fun q3 => ?_)
      · have q3 : b = false := mb_0.mp q3
        refine mt_aload_n dX2_mark_41 rfl rfl ?_
        refine mt_getfield mKX1 (i := 0) (by decide) mw_68 dX2_mark_42 ea_1 rfl ?_
        refine mt_iload dX2_mark_45 rfl ?_
        refine mp_iaload dX2_mark_47 ek_1 rfl (by omega) (by omega) (v := xk xs i) (qk_1 _ (by omega)) ?_
        refine mp_iadd dX2_mark_48 (v := (e * (nI 31)) + (xk xs i)) rfl ?_
        refine mp_istore dX2_mark_49 (ls' := [.ref 0, .int (nI rr), .int (mb (b)), .ref a, .int ((e * (nI 31)) + (xk xs i)), .int (nI i)]) rfl (by decide) rfl ?_
        refine mp_iinc dX2_mark_51 rfl (v := nI (i + 1)) mI_inc (ls' := [.ref 0, .int (nI rr), .int (mb (b)), .ref a, .int ((e * (nI 31)) + (xk xs i)), .int (nI (i + 1))]) rfl (by decide) rfl ?_
        refine mt_goto dX2_mark_54 (tgt := 13) rfl ?_
        exact ih (i + 1) ((e * (nI 31)) + (xk xs i)) (by omega) ((mlp_go (f := fun i e => e * nI 31 + (if b = false then xk xs i else xt xs i)) (by omega) (by simp only [if_pos q3])).symm.trans hr) (by omega)
      · have q3 : b = true := mb_1.mp q3
        refine mt_aload_n dX2_mark_31 rfl rfl ?_
        refine mt_getfield mKX1 (i := 1) (by decide) mw_71 dX2_mark_32 ea_1 rfl ?_
        refine mt_iload dX2_mark_35 rfl ?_
        refine mp_iaload dX2_mark_37 es_1 rfl (by omega) (by omega) (v := xt xs i) (qt_1 _ (by omega)) ?_
        refine mt_goto dX2_mark_38 (tgt := 48) rfl ?_
        refine mp_iadd dX2_mark_48 (v := (e * (nI 31)) + (xt xs i)) rfl ?_
        refine mp_istore dX2_mark_49 (ls' := [.ref 0, .int (nI rr), .int (mb (b)), .ref a, .int ((e * (nI 31)) + (xt xs i)), .int (nI i)]) rfl (by decide) rfl ?_
        refine mp_iinc dX2_mark_51 rfl (v := nI (i + 1)) mI_inc (ls' := [.ref 0, .int (nI rr), .int (mb (b)), .ref a, .int ((e * (nI 31)) + (xt xs i)), .int (nI (i + 1))]) rfl (by decide) rfl ?_
        refine mt_goto dX2_mark_54 (tgt := 13) rfl ?_
        exact ih (i + 1) ((e * (nI 31)) + (xt xs i)) (by omega) ((mlp_go (f := fun i e => e * nI 31 + (if b = false then xk xs i else xt xs i)) (by omega) (by simp only [if_neg (bt_nf q3)])).symm.trans hr) (by omega)
def q_mark (xs : List mIt) (b : Bool) : Int32 := mlp (fun i e => e * nI 31 + (if b = false then xk xs i else xt xs i)) (xs.length - 0) 0 (nI 17)
def sp_mark (S : cS) (row : Int32) (isStamps : Bool) : Nat × Value × cS := dAt S 4 row fun r => (0, .int (q_mark (S.1 r) isStamps), S)
set_option maxRecDepth 100000 in
set_option maxHeartbeats 2000000 in
theorem kX2_mark {l : Launch} (hl : l.stackTraces = false) {h : mH} {n : Nat} {S : cS} {row : Int32} {isStamps : Bool} (C : cAt h S) : mC l mX2_mark rX2_mark [.ref 0, .int row, .int (mb (isStamps))] h n (cOk (sp_mark S row isStamps) h n) (cNo (sp_mark S row isStamps).1 h n) := by
  obtain ⟨C0, ⟨cg, C1, C1g⟩, C14, CR, ⟨zs15, HK15⟩, ⟨zs18, HK18⟩, ⟨zs21, HK21⟩, ⟨zs24, HK24⟩⟩ := id C
  refine mm_enter hl (by decide +kernel) rfl rfl rfl (Nat.le_of_ble_eq_true rfl) ?_
  show mT _ _ _ _ 0 [.ref 0, .int row, .int (mb (isStamps)), .double 0, .double 0, .double 0] [] _ _ 0 0
  refine mt_aload_n dX2_mark_0 rfl rfl ?_
  refine mt_iload_n dX2_mark_1 rfl ?_
  refine mt_callV (N := mX2_rowOf) (Rc := rX2_rowOf) (As := [.int row]) (st := []) dX2_mark_2 (kX2_rowOf hl C) sX2_rowOf mw_230 mKX2 rfl C0 rfl (Nat.le_of_ble_eq_true rfl) ⟨⟨Nat.le_of_ble_eq_true rfl, Nat.le_of_ble_eq_true rfl⟩, Nat.le_of_ble_eq_true rfl, Nat.le_of_ble_eq_true rfl⟩ (fun v1 h2 n3 c4 => ?_) (fun E h9 n9 hx => mt_out rfl (by obtain ⟨rfl, hq, rfl, rfl⟩ := hx; exact cNo.i (by simp only [sp_mark, dAt_n hq])) (Nat.le_of_ble_eq_true rfl) (Nat.le_of_ble_eq_true rfl))
  obtain ⟨r5, hr5, rfl, c4a, c4b, c4c⟩ := c4
  rw [c4a, c4b, c4c]
  have hLr5 := (CR r5 hr5).len
  show mT _ _ _ _ 5 [.ref 0, .int (nI r5), .int (mb (isStamps)), .double 0, .double 0, .double 0] [.ref (2 + 3 * r5)] _ _ _ _
  refine mp_astore_n dX2_mark_5 (ls' := [.ref 0, .int (nI r5), .int (mb (isStamps)), .ref (2 + 3 * r5), .double 0, .double 0]) rfl rfl (by decide) rfl ?_
  refine mt_bipush dX2_mark_6 (v := nI 17) (by decide) ?_
  refine mp_istore dX2_mark_8 (ls' := [.ref 0, .int (nI r5), .int (mb (isStamps)), .ref (2 + 3 * r5), .int (nI 17), .double 0]) rfl (by decide) rfl ?_
  have H6 : rowAt h (2 + 3 * r5) (rroom r5) (mb (decide (r5 < 2))) (S.1 r5) := CR r5 (by omega)
  obtain ⟨f_7, g_7, ea_7, ek_7, es_7, ql_7, qr_7, qk_7, qt_7⟩ := id H6
  refine mt_iconst dX2_mark_10 (v := nI 0) rfl ?_
  refine mp_istore dX2_mark_11 (ls' := [.ref 0, .int (nI r5), .int (mb (isStamps)), .ref (2 + 3 * r5), .int (nI 17), .int (nI 0)]) rfl (by decide) rfl ?_
  refine tX2_mark_13 H6 (fun e_8 i_9 z10 => ?_) _ 0 (nI 17) (Nat.lt_succ_self _) rfl (by omega)
  refine mt_iload dX2_mark_57 rfl ?_
  refine mt_ireturn dX2_mark_59 rfl rfl (Nat.le_of_ble_eq_true rfl) (Nat.le_of_ble_eq_true rfl) ?_
  exact cOk.of (x := .int e_8) (S' := (S.1, S.2.1, S.2.2.1, S.2.2.2.1, S.2.2.2.2)) (by simp only [sp_mark, dAt_s hr5 (by decide)]; exact congrArg (fun x => ((0 : Nat), Value.int x, S)) z10.symm) rfl rfl ⟨C0, ⟨cg, C1, C1g⟩, C14, CR, ⟨_, HK15⟩, ⟨_, HK18⟩, ⟨_, HK21⟩, ⟨_, HK24⟩⟩ (fun j hj => rfl)
