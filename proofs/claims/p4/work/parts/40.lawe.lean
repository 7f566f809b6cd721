/-! ===== the law: its entry ===== -/
abbrev rX3_init : Room := { frames := 1, cells := 0, slots := 0, locals := 20 }
set_option maxRecDepth 100000 in
set_option maxHeartbeats 2000000 in
theorem kX3_init {l : Launch} (hl : l.stackTraces = false) {h : mH} {n k : Nat}  : mC l mX3_init rX3_init [.ref k] h n (fun v h' n' => v = none ∧ n' = n ∧ h' = h) (mNX) := by
  refine mm_enter hl (by decide +kernel) rfl rfl rfl (Nat.le_of_ble_eq_true rfl) ?_
  show mT _ _ _ _ 0 [.ref k] [] _ _ 0 0
  refine mt_aload_n dX3_init_0 rfl rfl ?_
  refine mt_objInit dX3_init_1 mw_386 mw_58 mw_59 (Nat.le_of_ble_eq_true rfl) ⟨Nat.le_of_ble_eq_true rfl, Nat.le_of_ble_eq_true rfl⟩ ?_
  refine mt_return dX3_init_4 rfl (Nat.le_of_ble_eq_true rfl) (Nat.le_of_ble_eq_true rfl) ?_
  exact ⟨rfl, rfl, rfl⟩
theorem mBeg.fr {h h' : mH} (H : mBeg h) (hf : ∀ j, 27 ≤ j → j < 38 → h' j = h j) : mBeg h' := by
  obtain ⟨c0, ⟨g1, c1, c2⟩, ⟨g2, c3, c4⟩, c5, c6⟩ := H
  exact ⟨(hf _ (by omega) (by omega)).trans c0, ⟨g1, (hf _ (by omega) (by omega)).trans c1, c2⟩, ⟨g2, (hf _ (by omega) (by omega)).trans c3, c4⟩, fun i hi => (hf _ (by omega) (by omega)).trans (c5 i hi), fun i hi => (hf _ (by omega) (by omega)).trans (c6 i hi)⟩
set_option maxRecDepth 100000 in
set_option maxHeartbeats 2000000 in
theorem law_entry {l : Launch} (hl : l.stackTraces = false) {L : Nat} {xs : Nat → Int32} (hL : L ≤ 384) (H23 : lawCase l L xs 1217) {h : mH} : mT l mLw room_1 (mKl L xs) 0 [.retAddr 0, .double 0, .double 0, .double 0, .double 0, .double 0, .double 0] [] h 0 0 0 := by
  show mT _ _ _ _ 0 [.retAddr 0, .double 0, .double 0, .double 0, .double 0, .double 0, .double 0] [] _ _ _ _
  refine mp_new mKX2 dL_law_0 mw_52 mw_53 mw_31 (fs := [.null, .null, .int (nI 0), .int (nI 0), .int (nI 0), .int (nI 0)]) mDX2 (mdf_ok rfl) (by simp only [rX2_init, rX4_init, rX3_init, room_1]; omega) (by simp only [rX2_init, rX4_init, rX3_init, room_1]; omega) (fun h1 e2 f3 => ?_)
  refine mt_dup dL_law_3 rfl ?_
  refine mt_callI (N := mX2_init) (Rc := rX2_init) (As := []) (st := [.ref 0]) dL_law_4 (kX2_init hl e2) sX2_init mw_54 rfl (Nat.le_of_ble_eq_true rfl) ⟨⟨Nat.le_of_ble_eq_true rfl, Nat.le_of_ble_eq_true rfl⟩, (by simp only [rX2_init, rX4_init, rX3_init, room_1]; omega), (by simp only [rX2_init, rX4_init, rX3_init, room_1]; omega)⟩ (fun v4 h5 n6 c7 => ?_)
  obtain ⟨c7a, c7b, c7c⟩ := c7
  rw [c7a, c7b]
  show mT _ _ _ _ 7 [.retAddr 0, .double 0, .double 0, .double 0, .double 0, .double 0, .double 0] [.ref 0] _ _ _ _
  refine mp_astore_n dL_law_7 (ls' := [.retAddr 0, .ref 0, .double 0, .double 0, .double 0, .double 0, .double 0]) rfl rfl (by decide) rfl ?_
  refine mp_new mKX4 dL_law_8 mw_1045 mw_1046 mw_34 (fs := [.null, .null, .int (nI 0), .int (nI 0), .int (nI 0), .int (nI 0), .int (nI 0)]) mDX4 (mdf_ok rfl) (by simp only [rX2_init, rX4_init, rX3_init, room_1]; omega) (by simp only [rX2_init, rX4_init, rX3_init, room_1]; omega) (fun h8 e9 f10 => ?_)
  refine mt_dup dL_law_11 rfl ?_
  refine mt_callI (N := mX4_init) (Rc := rX4_init) (As := []) (st := [.ref 27]) dL_law_12 (kX4_init hl e9) sX4_init mw_1047 rfl (Nat.le_of_ble_eq_true rfl) ⟨⟨Nat.le_of_ble_eq_true rfl, Nat.le_of_ble_eq_true rfl⟩, (by simp only [rX2_init, rX4_init, rX3_init, room_1]; omega), (by simp only [rX2_init, rX4_init, rX3_init, room_1]; omega)⟩ (fun v11 h12 n13 c14 => ?_)
  obtain ⟨c14a, c14b, c14c, c14d, c14e, c14f, c14g, c14h⟩ := c14
  rw [c14a, c14b]
  have Bc14 : mBeg h12 := ⟨c14c, c14d, c14e, c14f, c14g⟩
  have Cc14 := cAt.fr2 c7c (fun j hj => (c14h j hj).trans (f10 j (by omega)))
  show mT _ _ _ _ 15 [.retAddr 0, .ref 0, .double 0, .double 0, .double 0, .double 0, .double 0] [.ref 27] _ _ _ _
  refine mp_astore_n dL_law_15 (ls' := [.retAddr 0, .ref 0, .ref 27, .double 0, .double 0, .double 0, .double 0]) rfl rfl (by decide) rfl ?_
  refine mp_new mKX3 dL_law_16 mw_381 mw_382 mw_35 (fs := [.long 0, .null]) mDX3 (mdf_ok rfl) (by simp only [rX2_init, rX4_init, rX3_init, room_1]; omega) (by simp only [rX2_init, rX4_init, rX3_init, room_1]; omega) (fun h15 e16 f17 => ?_)
  refine mt_dup dL_law_19 rfl ?_
  refine mt_callIN (N := mX3_init) (Rc := rX3_init) (As := []) (st := [.ref 38]) dL_law_20 (kX3_init hl) sX3_init mw_383 rfl (Nat.le_of_ble_eq_true rfl) ⟨⟨Nat.le_of_ble_eq_true rfl, Nat.le_of_ble_eq_true rfl⟩, (by simp only [rX2_init, rX4_init, rX3_init, room_1]; omega), (by simp only [rX2_init, rX4_init, rX3_init, room_1]; omega)⟩ (fun v18 h19 n20 c21 => ?_)
  obtain ⟨c21a, c21b, c21c⟩ := c21
  rw [c21a, c21b, c21c]
  show mT _ _ _ _ 23 [.retAddr 0, .ref 0, .ref 27, .double 0, .double 0, .double 0, .double 0] [.ref 38] _ _ _ _
  refine mp_astore_n dL_law_23 (ls' := [.retAddr 0, .ref 0, .ref 27, .ref 38, .double 0, .double 0, .double 0]) rfl rfl (by decide) rfl ?_
  refine mt_iconst dL_law_24 (v := nI 0) rfl ?_
  refine mp_istore dL_law_25 (ls' := [.retAddr 0, .ref 0, .ref 27, .ref 38, .int (nI 0), .double 0, .double 0]) rfl (by decide) rfl ?_
  exact law_loop hl hL H23 400 0 _ _ cS0 (nI 0) 0 .null _ _ (by omega) (by omega) (cAt.fr2 Cc14 (fun j hj => f17 j (by omega))) (mBeg.fr Bc14 (fun j j1 j2 => f17 j (by omega))).at e16 (by simp only [rX2_init, rX4_init, rX3_init]; omega) (by simp only [rX2_init, rX4_init, rX3_init]; omega)
