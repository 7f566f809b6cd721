/-! ===== the class: the whole ===== -/
abbrev rX2_itemsInAll : Room := { frames := 0, cells := 0, slots := 0, locals := 0 }
set_option maxRecDepth 100000 in
set_option maxHeartbeats 2000000 in
theorem tX2_itemsInAll_4 {l : Launch} {R : Room} {K : mK} {cc sc : Nat} {h : mH} {n : Nat} {S : cS} {r : Nat} (C : cAt h S) (kk0 : ∀ (acc : Nat) (i : Nat), (acc = r) → mT l mX2_itemsInAll R K 31 [.ref 0, .int (nI acc), .int (nI i)] [] h n cc sc) : ∀ (N0 : Nat) (i : Nat) (acc : Nat), (4 - i) < N0 → (mlp (fun i acc => acc + (S.1 i).length) (4 - i) i acc = r) → (i ≤ 4) → mT l mX2_itemsInAll R K 4 [.ref 0, .int (nI acc), .int (nI i)] [] h n cc sc := by
  intro N0
  induction N0 with
  | zero => intro i acc hm; exact absurd hm (Nat.not_lt_zero _)
  | succ N0 ih =>
    intro i acc hm hr hi
    obtain ⟨C0, ⟨cg, C1, C1g⟩, C14, CR, ⟨zs15, HK15⟩, ⟨zs18, HK18⟩, ⟨zs21, HK21⟩, ⟨zs24, HK24⟩⟩ := id C
    refine mt_iload_n dX2_itemsInAll_4 rfl ?_
    refine mt_aload_n dX2_itemsInAll_5 rfl rfl ?_
    refine mt_getfield mKX2 (i := 0) (by decide) mw_112 dX2_itemsInAll_6 C0 rfl ?_
    refine mt_alenq dX2_itemsInAll_9 C1 (fun _ => rfl) ?_
    refine mt_icmp_ge dX2_itemsInAll_10 (tgt := 31) rfl (fun q1 => ?_) (fun q1 => ?_)
    · have q1 := Int32.not_lt.mpr q1
      have q1 := (not_congr (nI_ltI (by omega) (by omega))).mp q1
      exact kk0 acc i ((mlp_end (f := fun i acc => acc + (S.1 i).length) (by omega)).symm.trans hr)
    · have q1 := Int32.not_le.mp q1
      have q1 := (nI_ltI (by omega) (by omega)).mp q1
      refine mt_iload_n dX2_itemsInAll_13 rfl ?_
      refine mt_aload_n dX2_itemsInAll_14 rfl rfl ?_
      refine mt_getfield mKX2 (i := 0) (by decide) mw_112 dX2_itemsInAll_15 C0 rfl ?_
      refine mt_iload_n dX2_itemsInAll_18 rfl ?_
      refine mp_aaload dX2_itemsInAll_19 C1 (fun _ => rfl) rfl rfl (by omega) (by omega) (v := .ref (2 + 3 * i)) (by rw [C1g _ (by omega)]; rfl) ?_
      obtain ⟨f_2, g_2, ea_2, ek_2, es_2, ql_2, qr_2, qk_2, qt_2⟩ := id CR i (by omega)
      refine mt_getfield mKX1 (i := 3) (by decide) mw_76 dX2_itemsInAll_20 ea_2 rfl ?_
      refine mp_iadd dX2_itemsInAll_23 (v := nI (acc + ((S.1 i).length))) (nI_add _ _) ?_
      refine mp_istore_n dX2_itemsInAll_24 (ls' := [.ref 0, .int (nI (acc + ((S.1 i).length))), .int (nI i)]) rfl (by decide) rfl ?_
      refine mp_iinc dX2_itemsInAll_25 rfl (v := nI (i + 1)) mI_inc (ls' := [.ref 0, .int (nI (acc + ((S.1 i).length))), .int (nI (i + 1))]) rfl (by decide) rfl ?_
      refine mt_goto dX2_itemsInAll_28 (tgt := 4) rfl ?_
      exact ih (i + 1) (acc + ((S.1 i).length)) (by omega) ((mlp_go (f := fun i acc => acc + (S.1 i).length) (by omega) rfl).symm.trans hr) (by omega)
def q_itemsInAll (S : cS) : Nat := mlp (fun i acc => acc + (S.1 i).length) (4 - 0) 0 0
set_option maxRecDepth 100000 in
set_option maxHeartbeats 2000000 in
theorem kX2_itemsInAll {l : Launch} (hl : l.stackTraces = false) {h : mH} {n : Nat} {S : cS} (C : cAt h S) : mC l mX2_itemsInAll rX2_itemsInAll [.ref 0] h n (mRi (nI (q_itemsInAll S)) h n) (mNX) := by
  obtain ⟨C0, ⟨cg, C1, C1g⟩, C14, CR, ⟨zs15, HK15⟩, ⟨zs18, HK18⟩, ⟨zs21, HK21⟩, ⟨zs24, HK24⟩⟩ := id C
  refine mm_enter hl (by decide +kernel) rfl rfl rfl (Nat.le_of_ble_eq_true rfl) ?_
  show mT _ _ _ _ 0 [.ref 0, .double 0, .double 0] [] _ _ 0 0
  refine mt_iconst dX2_itemsInAll_0 (v := nI 0) rfl ?_
  refine mp_istore_n dX2_itemsInAll_1 (ls' := [.ref 0, .int (nI 0), .double 0]) rfl (by decide) rfl ?_
  refine mt_iconst dX2_itemsInAll_2 (v := nI 0) rfl ?_
  refine mp_istore_n dX2_itemsInAll_3 (ls' := [.ref 0, .int (nI 0), .int (nI 0)]) rfl (by decide) rfl ?_
  refine tX2_itemsInAll_4 C (fun acc_1 i_2 z3 => ?_) _ 0 0 (Nat.lt_succ_self _) rfl (by omega)
  refine mt_iload_n dX2_itemsInAll_31 rfl ?_
  refine mt_ireturn dX2_itemsInAll_32 rfl rfl (Nat.le_of_ble_eq_true rfl) (Nat.le_of_ble_eq_true rfl) ?_
  exact ⟨congrArg (fun x => some (Value.int (nI x))) z3, rfl, rfl⟩
abbrev rX2_sortedRows : Room := { frames := 1, cells := 0, slots := 0, locals := 21 }
set_option maxRecDepth 100000 in
set_option maxHeartbeats 2000000 in
theorem tX2_sortedRows_4 {l : Launch} {K : mK} {h : mH} {n : Nat} {S : cS} {r : Int32} (hl : l.stackTraces = false) (C : cAt h S) (kk0 : ∀ (acc : Int32) (i : Nat), (acc = r) → mT l mX2_sortedRows rX2_sortedRows K 34 [.ref 0, .int acc, .int (nI i)] [] h n 0 0) : ∀ (N0 : Nat) (i : Nat) (acc : Int32), (4 - i) < N0 → (mlp (fun i acc => if q_isRising (S.1 i) = false then acc else acc + 1) (4 - i) i acc = r) → (i ≤ 4) → mT l mX2_sortedRows rX2_sortedRows K 4 [.ref 0, .int acc, .int (nI i)] [] h n 0 0 := by
  intro N0
  induction N0 with
  | zero => intro i acc hm; exact absurd hm (Nat.not_lt_zero _)
  | succ N0 ih =>
    intro i acc hm hr hi
    obtain ⟨C0, ⟨cg, C1, C1g⟩, C14, CR, ⟨zs15, HK15⟩, ⟨zs18, HK18⟩, ⟨zs21, HK21⟩, ⟨zs24, HK24⟩⟩ := id C
    refine mt_iload_n dX2_sortedRows_4 rfl ?_
    refine mt_aload_n dX2_sortedRows_5 rfl rfl ?_
    refine mt_getfield mKX2 (i := 0) (by decide) mw_112 dX2_sortedRows_6 C0 rfl ?_
    refine mt_alenq dX2_sortedRows_9 C1 (fun _ => rfl) ?_
    refine mt_icmp_ge dX2_sortedRows_10 (tgt := 34) rfl (fun q1 => ?_) (fun q1 => ?_)
    · have q1 := Int32.not_lt.mpr q1
      have q1 := (not_congr (nI_ltI (by omega) (by omega))).mp q1
      exact kk0 acc i ((mlp_end (f := fun i acc => if q_isRising (S.1 i) = false then acc else acc + 1) (by omega)).symm.trans hr)
    · have q1 := Int32.not_le.mp q1
      have q1 := (nI_ltI (by omega) (by omega)).mp q1
      refine mt_aload_n dX2_sortedRows_13 rfl rfl ?_
      refine mt_getfield mKX2 (i := 0) (by decide) mw_112 dX2_sortedRows_14 C0 rfl ?_
      refine mt_iload_n dX2_sortedRows_17 rfl ?_
      refine mp_aaload dX2_sortedRows_18 C1 (fun _ => rfl) rfl rfl (by omega) (by omega) (v := .ref (2 + 3 * i)) (by rw [C1g _ (by omega)]; rfl) ?_
      have H2 : rowAt h (2 + 3 * i) (rroom i) (mb (decide (i < 2))) (S.1 i) := CR i (by omega)
      obtain ⟨f_7, g_7, ea_7, ek_7, es_7, ql_7, qr_7, qk_7, qt_7⟩ := id H2
      refine mt_callV (N := mX1_isRising) (Rc := rX1_isRising) (As := []) (st := []) dX2_sortedRows_19 (kX1_isRising hl H2) sX1_isRising mw_182 mKX1 rfl ea_7 rfl (Nat.le_of_ble_eq_true rfl) ⟨⟨Nat.le_of_ble_eq_true rfl, Nat.le_of_ble_eq_true rfl⟩, Nat.le_of_ble_eq_true rfl, Nat.le_of_ble_eq_true rfl⟩ (fun v3 h4 n5 c6 => ?_) (fun _ _ _ hx => hx.elim)
      obtain ⟨c6a, c6b, c6c⟩ := c6
      rw [c6a, c6b, c6c]
      show mT _ _ _ _ 22 [.ref 0, .int acc, .int (nI i)] [.int (mb (q_isRising (S.1 i)))] _ _ _ _
      refine mt_if_eq dX2_sortedRows_22 (tgt := 28) rfl (fun q8 => ?_) (fun q8 => ?_)
      · have q8 : (q_isRising (S.1 i)) = false := mb_0.mp q8
        refine mp_iinc dX2_sortedRows_28 rfl (v := nI (i + 1)) mI_inc (ls' := [.ref 0, .int acc, .int (nI (i + 1))]) rfl (by decide) rfl ?_
        refine mt_goto dX2_sortedRows_31 (tgt := 4) rfl ?_
        exact ih (i + 1) acc (by omega) ((mlp_go (f := fun i acc => if q_isRising (S.1 i) = false then acc else acc + 1) (by omega) (if_pos q8)).symm.trans hr) (by omega)
      · have q8 : (q_isRising (S.1 i)) = true := mb_1.mp q8
        refine mp_iinc dX2_sortedRows_25 rfl (v := acc + 1) rfl (ls' := [.ref 0, .int (acc + 1), .int (nI i)]) rfl (by decide) rfl ?_
        refine mp_iinc dX2_sortedRows_28 rfl (v := nI (i + 1)) mI_inc (ls' := [.ref 0, .int (acc + 1), .int (nI (i + 1))]) rfl (by decide) rfl ?_
        refine mt_goto dX2_sortedRows_31 (tgt := 4) rfl ?_
        exact ih (i + 1) (acc + 1) (by omega) ((mlp_go (f := fun i acc => if q_isRising (S.1 i) = false then acc else acc + 1) (by omega) (if_neg (bt_nf q8))).symm.trans hr) (by omega)
def q_sortedRows (S : cS) : Int32 := mlp (fun i acc => if q_isRising (S.1 i) = false then acc else acc + 1) (4 - 0) 0 (nI 0)
set_option maxRecDepth 100000 in
set_option maxHeartbeats 2000000 in
theorem kX2_sortedRows {l : Launch} (hl : l.stackTraces = false) {h : mH} {n : Nat} {S : cS} (C : cAt h S) : mC l mX2_sortedRows rX2_sortedRows [.ref 0] h n (mRi (q_sortedRows S) h n) (mNX) := by
  obtain ⟨C0, ⟨cg, C1, C1g⟩, C14, CR, ⟨zs15, HK15⟩, ⟨zs18, HK18⟩, ⟨zs21, HK21⟩, ⟨zs24, HK24⟩⟩ := id C
  refine mm_enter hl (by decide +kernel) rfl rfl rfl (Nat.le_of_ble_eq_true rfl) ?_
  show mT _ _ _ _ 0 [.ref 0, .double 0, .double 0] [] _ _ 0 0
  refine mt_iconst dX2_sortedRows_0 (v := nI 0) rfl ?_
  refine mp_istore_n dX2_sortedRows_1 (ls' := [.ref 0, .int (nI 0), .double 0]) rfl (by decide) rfl ?_
  refine mt_iconst dX2_sortedRows_2 (v := nI 0) rfl ?_
  refine mp_istore_n dX2_sortedRows_3 (ls' := [.ref 0, .int (nI 0), .int (nI 0)]) rfl (by decide) rfl ?_
  refine tX2_sortedRows_4 hl C (fun acc_1 i_2 z3 => ?_) _ 0 (nI 0) (Nat.lt_succ_self _) rfl (by omega)
  refine mt_iload_n dX2_sortedRows_34 rfl ?_
  refine mt_ireturn dX2_sortedRows_35 rfl rfl (Nat.le_of_ble_eq_true rfl) (Nat.le_of_ble_eq_true rfl) ?_
  exact ⟨congrArg (fun x => some (Value.int x)) z3, rfl, rfl⟩
def sp_house (S : cS) (what : Int32) : Nat × Value × cS := match inN 6 what with
  | none => (2, .null, S)
  | some 0 => (0, .int (nI (q_itemsInAll S)), S)
  | some 1 => (0, .int S.2.2.1, S)
  | some 2 => (0, .int S.2.2.2.1, S)
  | some 3 => (0, .int S.2.2.2.2, S)
  | some 4 => (0, .int S.2.1, S)
  | some _ => (0, .int (q_sortedRows S), S)
abbrev rX2_house : Room := { frames := 6, cells := 1, slots := 6, locals := 90 }
set_option maxRecDepth 100000 in
set_option maxHeartbeats 2000000 in
theorem kX2_house {l : Launch} (hl : l.stackTraces = false) {h : mH} {n : Nat} {S : cS} {what : Int32} (C : cAt h S) : mC l mX2_house rX2_house [.ref 0, .int what] h n (cOk (sp_house S what) h n) (cNo (sp_house S what).1 h n) := by
  obtain ⟨C0, ⟨cg, C1, C1g⟩, C14, CR, ⟨zs15, HK15⟩, ⟨zs18, HK18⟩, ⟨zs21, HK21⟩, ⟨zs24, HK24⟩⟩ := id C
  refine mm_enter hl (by decide +kernel) rfl rfl rfl (Nat.le_of_ble_eq_true rfl) ?_
  show mT _ _ _ _ 0 [.ref 0, .int what] [] _ _ 0 0
  refine mt_iload_n dX2_house_0 rfl ?_
  rcases hq : inN 6 what with _ | wn
  · have hno := inN_no hq (by decide)
    refine mt_tableOut dX2_house_1 (by omega) (tgt := 70) rfl ?_
    refine mt_throwS (by decide +kernel) mX_fit mw_312 mw_40 (fun G U t => ⟨_, t.2.2.1⟩) mX_at239 mX_ot239 dX2_house_70 dX2_house_73 dX2_house_74 dX2_house_76 dX2_house_79 rfl ⟨Nat.le_of_ble_eq_true rfl, Nat.le_of_ble_eq_true rfl⟩ (Nat.le_of_ble_eq_true rfl) (Nat.le_of_ble_eq_true rfl) (Nat.le_of_ble_eq_true rfl) ?_
    exact cNo.a (by simp only [sp_house, hq])
  · obtain ⟨hw6, rfl⟩ := inN_of hq (by decide)
    obtain rfl | rfl | rfl | rfl | rfl | rfl : wn = 0 ∨ wn = 1 ∨ wn = 2 ∨ wn = 3 ∨ wn = 4 ∨ wn = 5 := by omega
    · refine mt_tableIn dX2_house_1 (off := 39) (by decide +kernel) (by decide +kernel) (by decide +kernel) (tgt := 40) rfl ?_
      refine mt_aload_n dX2_house_40 rfl rfl ?_
      refine mt_callV (N := mX2_itemsInAll) (Rc := rX2_itemsInAll) (As := []) (st := []) dX2_house_41 (kX2_itemsInAll hl C) sX2_itemsInAll mw_371 mKX2 rfl C0 rfl (Nat.le_of_ble_eq_true rfl) ⟨⟨Nat.le_of_ble_eq_true rfl, Nat.le_of_ble_eq_true rfl⟩, Nat.le_of_ble_eq_true rfl, Nat.le_of_ble_eq_true rfl⟩ (fun v1 h2 n3 c4 => ?_) (fun _ _ _ hx => hx.elim)
      obtain ⟨c4a, c4b, c4c⟩ := c4
      rw [c4a, c4b, c4c]
      show mT _ _ _ _ 44 [.ref 0, .int (nI 0)] [.int (nI (q_itemsInAll S))] _ _ _ _
      refine mt_ireturn dX2_house_44 rfl rfl (Nat.le_of_ble_eq_true rfl) (Nat.le_of_ble_eq_true rfl) ?_
      exact cOk.of (x := .int (nI (q_itemsInAll S))) (S' := (S.1, S.2.1, S.2.2.1, S.2.2.2.1, S.2.2.2.2)) (by simp only [sp_house, hq]) rfl rfl ⟨C0, ⟨cg, C1, C1g⟩, C14, CR, ⟨_, HK15⟩, ⟨_, HK18⟩, ⟨_, HK21⟩, ⟨_, HK24⟩⟩ (fun j hj => rfl)
    · refine mt_tableIn dX2_house_1 (off := 44) (by decide +kernel) (by decide +kernel) (by decide +kernel) (tgt := 45) rfl ?_
      refine mt_aload_n dX2_house_45 rfl rfl ?_
      refine mt_getfield mKX2 (i := 3) (by decide) mw_115 dX2_house_46 C0 rfl ?_
      refine mt_ireturn dX2_house_49 rfl rfl (Nat.le_of_ble_eq_true rfl) (Nat.le_of_ble_eq_true rfl) ?_
      exact cOk.of (x := .int S.2.2.1) (S' := (S.1, S.2.1, S.2.2.1, S.2.2.2.1, S.2.2.2.2)) (by simp only [sp_house, hq]) rfl rfl ⟨C0, ⟨cg, C1, C1g⟩, C14, CR, ⟨_, HK15⟩, ⟨_, HK18⟩, ⟨_, HK21⟩, ⟨_, HK24⟩⟩ (fun j hj => rfl)
    · refine mt_tableIn dX2_house_1 (off := 49) (by decide +kernel) (by decide +kernel) (by decide +kernel) (tgt := 50) rfl ?_
      refine mt_aload_n dX2_house_50 rfl rfl ?_
      refine mt_getfield mKX2 (i := 4) (by decide) mw_116 dX2_house_51 C0 rfl ?_
      refine mt_ireturn dX2_house_54 rfl rfl (Nat.le_of_ble_eq_true rfl) (Nat.le_of_ble_eq_true rfl) ?_
      exact cOk.of (x := .int S.2.2.2.1) (S' := (S.1, S.2.1, S.2.2.1, S.2.2.2.1, S.2.2.2.2)) (by simp only [sp_house, hq]) rfl rfl ⟨C0, ⟨cg, C1, C1g⟩, C14, CR, ⟨_, HK15⟩, ⟨_, HK18⟩, ⟨_, HK21⟩, ⟨_, HK24⟩⟩ (fun j hj => rfl)
    · refine mt_tableIn dX2_house_1 (off := 54) (by decide +kernel) (by decide +kernel) (by decide +kernel) (tgt := 55) rfl ?_
      refine mt_aload_n dX2_house_55 rfl rfl ?_
      refine mt_getfield mKX2 (i := 5) (by decide) mw_117 dX2_house_56 C0 rfl ?_
      refine mt_ireturn dX2_house_59 rfl rfl (Nat.le_of_ble_eq_true rfl) (Nat.le_of_ble_eq_true rfl) ?_
      exact cOk.of (x := .int S.2.2.2.2) (S' := (S.1, S.2.1, S.2.2.1, S.2.2.2.1, S.2.2.2.2)) (by simp only [sp_house, hq]) rfl rfl ⟨C0, ⟨cg, C1, C1g⟩, C14, CR, ⟨_, HK15⟩, ⟨_, HK18⟩, ⟨_, HK21⟩, ⟨_, HK24⟩⟩ (fun j hj => rfl)
    · refine mt_tableIn dX2_house_1 (off := 59) (by decide +kernel) (by decide +kernel) (by decide +kernel) (tgt := 60) rfl ?_
      refine mt_aload_n dX2_house_60 rfl rfl ?_
      refine mt_getfield mKX2 (i := 2) (by decide) mw_114 dX2_house_61 C0 rfl ?_
      refine mt_ireturn dX2_house_64 rfl rfl (Nat.le_of_ble_eq_true rfl) (Nat.le_of_ble_eq_true rfl) ?_
      exact cOk.of (x := .int S.2.1) (S' := (S.1, S.2.1, S.2.2.1, S.2.2.2.1, S.2.2.2.2)) (by simp only [sp_house, hq]) rfl rfl ⟨C0, ⟨cg, C1, C1g⟩, C14, CR, ⟨_, HK15⟩, ⟨_, HK18⟩, ⟨_, HK21⟩, ⟨_, HK24⟩⟩ (fun j hj => rfl)
    · refine mt_tableIn dX2_house_1 (off := 64) (by decide +kernel) (by decide +kernel) (by decide +kernel) (tgt := 65) rfl ?_
      refine mt_aload_n dX2_house_65 rfl rfl ?_
      refine mt_callV (N := mX2_sortedRows) (Rc := rX2_sortedRows) (As := []) (st := []) dX2_house_66 (kX2_sortedRows hl C) sX2_sortedRows mw_375 mKX2 rfl C0 rfl (Nat.le_of_ble_eq_true rfl) ⟨⟨Nat.le_of_ble_eq_true rfl, Nat.le_of_ble_eq_true rfl⟩, Nat.le_of_ble_eq_true rfl, Nat.le_of_ble_eq_true rfl⟩ (fun v5 h6 n7 c8 => ?_) (fun _ _ _ hx => hx.elim)
      obtain ⟨c8a, c8b, c8c⟩ := c8
      rw [c8a, c8b, c8c]
      show mT _ _ _ _ 69 [.ref 0, .int (nI 5)] [.int (q_sortedRows S)] _ _ _ _
      refine mt_ireturn dX2_house_69 rfl rfl (Nat.le_of_ble_eq_true rfl) (Nat.le_of_ble_eq_true rfl) ?_
      exact cOk.of (x := .int (q_sortedRows S)) (S' := (S.1, S.2.1, S.2.2.1, S.2.2.2.1, S.2.2.2.2)) (by simp only [sp_house, hq]) rfl rfl ⟨C0, ⟨cg, C1, C1g⟩, C14, CR, ⟨_, HK15⟩, ⟨_, HK18⟩, ⟨_, HK21⟩, ⟨_, HK24⟩⟩ (fun j hj => rfl)
def q_rowSound (xs : List mIt) : Bool := decide ((msort xs).2 = q_wrongPairs xs) && (decide ((msort xs).2 = 0) == q_isRising xs) && decide ((msort xs).2 + q_rightPairs xs + q_tiedPairsOfSorted (msort xs).1 = nI xs.length * (nI xs.length - 1) / nI 2) && q_standsByRanksIn xs (msort xs).1
def q_weaveSound (xs ys : List mIt) (room : Nat) : Bool := !(q_isRising xs) || !(q_isRising ys) || decide (room - xs.length < ys.length) || (decide ((weave (xs ++ span ys 0 ys.length) xs.length).length = (msort (xs ++ span ys 0 ys.length)).1.length) && decide (q_otherItems (weave (xs ++ span ys 0 ys.length) xs.length) (msort (xs ++ span ys 0 ys.length)).1 = 0))
theorem mb_eq {x y : Bool} : mb x = mb y ↔ x = y := by cases x <;> cases y <;> decide
abbrev rX2_isRowSound : Room := { frames := 5, cells := 0, slots := 0, locals := 123 }
set_option maxRecDepth 100000 in
set_option maxHeartbeats 2000000 in
theorem kX2_isRowSound {l : Launch} (hl : l.stackTraces = false) {h : mH} {n : Nat} {S : cS} {r : Nat} (C : cAt h S) (hr : r < 4) : mC l mX2_isRowSound rX2_isRowSound [.ref 0, .ref (2 + 3 * r)] h n (cOk ((0 : Nat), Value.int (mb (q_rowSound (S.1 r))), S) h n) (mNX) := by
  obtain ⟨C0, ⟨cg, C1, C1g⟩, C14, CR, ⟨zs15, HK15⟩, ⟨zs18, HK18⟩, ⟨zs21, HK21⟩, ⟨zs24, HK24⟩⟩ := id C
  have hLr := (CR r hr).len
  refine mm_enter hl (by decide +kernel) rfl rfl rfl (Nat.le_of_ble_eq_true rfl) ?_
  show mT _ _ _ _ 0 [.ref 0, .ref (2 + 3 * r), .double 0, .double 0] [] _ _ 0 0
  refine mt_aload_n dX2_isRowSound_0 rfl rfl ?_
  refine mt_getfield mKX2 (i := 1) (by decide) mw_113 dX2_isRowSound_1 C0 rfl ?_
  refine mt_aload_n dX2_isRowSound_4 rfl rfl ?_
  refine mt_aload_n dX2_isRowSound_5 rfl rfl ?_
  refine mt_getfield mKX2 (i := 1) (by decide) mw_113 dX2_isRowSound_6 C0 rfl ?_
  refine mt_getfield mKX0 (i := 0) (by decide) mw_97 dX2_isRowSound_9 C14 rfl ?_
  have H1 : rowAt h (2 + 3 * r) (rroom r) (mb (decide (r < 2))) (S.1 r) := CR r (by omega)
  refine mt_callV (N := mX0_sortUp) (Rc := rX0_sortUp) (As := [.ref (2 + 3 * r), .ref 15]) (st := []) dX2_isRowSound_12 (kX0_sortUp hl C14 HK15 H1 HK24 (by omega) (by omega) (by omega) (by omega)) sX0_sortUp mw_143 mKX0 rfl C14 rfl (Nat.le_of_ble_eq_true rfl) ⟨⟨Nat.le_of_ble_eq_true rfl, Nat.le_of_ble_eq_true rfl⟩, Nat.le_of_ble_eq_true rfl, Nat.le_of_ble_eq_true rfl⟩ (fun v2 h3 n4 c5 => ?_) (fun _ _ _ hx => hx.elim)
  obtain ⟨c5a, c5b, c5c, ⟨c5z, c5d⟩, c5e⟩ := c5
  rw [c5a, c5b]
  have c5f : ∀ j, ((j < 15 ∨ 15 + 3 ≤ j) ∧ (j < 24 ∨ 24 + 3 ≤ j)) → h3 j = h j := fun j hj => c5e j hj.1 hj.2
  have mlc5 := msort_len (ys := S.1 r)
  show mT _ _ _ _ 15 [.ref 0, .ref (2 + 3 * r), .double 0, .double 0] [.int ((msort (S.1 r)).2)] _ _ _ _
  refine mp_istore_n dX2_isRowSound_15 (ls' := [.ref 0, .ref (2 + 3 * r), .int ((msort (S.1 r)).2), .double 0]) rfl (by decide) rfl ?_
  refine mt_aload_n dX2_isRowSound_16 rfl rfl ?_
  obtain ⟨f_6, g_6, ea_6, ek_6, es_6, ql_6, qr_6, qk_6, qt_6⟩ := id (H1).fr (fun j j1 j2 => c5f j (by omega))
  refine mt_getfield mKX1 (i := 3) (by decide) mw_76 dX2_isRowSound_17 ea_6 rfl ?_
  refine mt_aload_n dX2_isRowSound_20 rfl rfl ?_
  refine mt_getfield mKX1 (i := 3) (by decide) mw_76 dX2_isRowSound_21 ea_6 rfl ?_
  refine mt_iconst dX2_isRowSound_24 (v := nI 1) rfl ?_
  refine mp_isub dX2_isRowSound_25 (v := (nI ((S.1 r).length)) - (nI 1)) rfl ?_
  refine mp_imul dX2_isRowSound_26 (v := (nI ((S.1 r).length)) * ((nI ((S.1 r).length)) - (nI 1))) rfl ?_
  refine mt_iconst dX2_isRowSound_27 (v := nI 2) rfl ?_
  refine mp_idiv dX2_isRowSound_28 ((mI_ne0 (by first | decide | omega) (by first | decide | omega))) (v := ((nI ((S.1 r).length)) * ((nI ((S.1 r).length)) - (nI 1))) / (nI 2)) rfl ?_
  refine mp_istore_n dX2_isRowSound_29 (ls' := [.ref 0, .ref (2 + 3 * r), .int ((msort (S.1 r)).2), .int (((nI ((S.1 r).length)) * ((nI ((S.1 r).length)) - (nI 1))) / (nI 2))]) rfl (by decide) rfl ?_
  refine mt_iload_n dX2_isRowSound_30 rfl ?_
  refine mt_aload_n dX2_isRowSound_31 rfl rfl ?_
  have H7 : rowAt h3 (2 + 3 * r) (rroom r) (mb (decide (r < 2))) (S.1 r) := (H1).fr (fun j j1 j2 => c5f j (by omega))
  refine mt_callV (N := mX1_wrongPairs) (Rc := rX1_wrongPairs) (As := []) (st := [.int ((msort (S.1 r)).2)]) dX2_isRowSound_32 (kX1_wrongPairs hl H7) sX1_wrongPairs mw_178 mKX1 rfl ea_6 rfl (Nat.le_of_ble_eq_true rfl) ⟨⟨Nat.le_of_ble_eq_true rfl, Nat.le_of_ble_eq_true rfl⟩, Nat.le_of_ble_eq_true rfl, Nat.le_of_ble_eq_true rfl⟩ (fun v8 h9 n10 c11 => ?_) (fun _ _ _ hx => hx.elim)
  obtain ⟨c11a, c11b, c11c⟩ := c11
  rw [c11a, c11b, c11c]
  show mT _ _ _ _ 35 [.ref 0, .ref (2 + 3 * r), .int ((msort (S.1 r)).2), .int (((nI ((S.1 r).length)) * ((nI ((S.1 r).length)) - (nI 1))) / (nI 2))] [.int (q_wrongPairs (S.1 r)), .int ((msort (S.1 r)).2)] _ _ _ _
  refine mt_icmp_ne dX2_isRowSound_35 (tgt := 93) rfl (fun q12 => ?_) (fun q12 => ?_)
  · refine mt_iconst dX2_isRowSound_93 (v := nI 0) rfl ?_
    refine mt_ireturn dX2_isRowSound_94 rfl rfl (Nat.le_of_ble_eq_true rfl) (Nat.le_of_ble_eq_true rfl) ?_
    exact cOk.of (x := .int (nI 0)) (S' := (S.1, S.2.1, S.2.2.1, S.2.2.2.1, S.2.2.2.2)) ((congrArg (a₂ := false) (fun b => ((0 : Nat), Value.int (mb b), S)) (by simp [q_rowSound, decide_eq_false q12]))) rfl rfl ⟨(c5f (0) (by omega)).trans C0, ⟨cg, (c5f (1) (by omega)).trans C1, C1g⟩, (c5f (14) (by omega)).trans C14, cRows0 CR (fun j j1 j2 => c5f j (by omega)), ⟨_, c5c⟩, ⟨_, (HK18).fr (fun j j1 j2 => c5f j (by omega))⟩, ⟨_, (HK21).fr (fun j j1 j2 => c5f j (by omega))⟩, ⟨_, c5d⟩⟩ (fun j hj => c5f j (by omega))
  · refine mt_iload_n dX2_isRowSound_38 rfl ?_
    refine mt_if_ne dX2_isRowSound_39 (tgt := 46) rfl (fun q13 => ?_) (fun q13 => ?_)
    · refine mt_iconst dX2_isRowSound_46 (v := nI 0) rfl ?_
      refine mt_aload_n dX2_isRowSound_47 rfl rfl ?_
      refine mt_callV (N := mX1_isRising) (Rc := rX1_isRising) (As := []) (st := [.int (nI 0)]) dX2_isRowSound_48 (kX1_isRising hl H7) sX1_isRising mw_182 mKX1 rfl ea_6 rfl (Nat.le_of_ble_eq_true rfl) ⟨⟨Nat.le_of_ble_eq_true rfl, Nat.le_of_ble_eq_true rfl⟩, Nat.le_of_ble_eq_true rfl, Nat.le_of_ble_eq_true rfl⟩ (fun v14 h15 n16 c17 => ?_) (fun _ _ _ hx => hx.elim)
      obtain ⟨c17a, c17b, c17c⟩ := c17
      rw [c17a, c17b, c17c]
      show mT _ _ _ _ 51 [.ref 0, .ref (2 + 3 * r), .int ((msort (S.1 r)).2), .int (((nI ((S.1 r).length)) * ((nI ((S.1 r).length)) - (nI 1))) / (nI 2))] [.int (mb (q_isRising (S.1 r))), .int (nI 0)] _ _ _ _
      refine mt_icmp_ne dX2_isRowSound_51 (tgt := 93) rfl (fun q18 => ?_) (fun q18 => ?_)
      · have q18 := (not_congr (mb_eq (x := false) (y := q_isRising (S.1 r)))).mp q18
        have q18 : q_isRising (S.1 r) = true := by simpa using q18
        refine mt_iconst dX2_isRowSound_93 (v := nI 0) rfl ?_
        refine mt_ireturn dX2_isRowSound_94 rfl rfl (Nat.le_of_ble_eq_true rfl) (Nat.le_of_ble_eq_true rfl) ?_
        exact cOk.of (x := .int (nI 0)) (S' := (S.1, S.2.1, S.2.2.1, S.2.2.2.1, S.2.2.2.2)) ((congrArg (a₂ := false) (fun b => ((0 : Nat), Value.int (mb b), S)) (by simp [q_rowSound, decide_eq_true q12, decide_eq_false q13, q18]))) rfl rfl ⟨(c5f (0) (by omega)).trans C0, ⟨cg, (c5f (1) (by omega)).trans C1, C1g⟩, (c5f (14) (by omega)).trans C14, cRows0 CR (fun j j1 j2 => c5f j (by omega)), ⟨_, c5c⟩, ⟨_, (HK18).fr (fun j j1 j2 => c5f j (by omega))⟩, ⟨_, (HK21).fr (fun j j1 j2 => c5f j (by omega))⟩, ⟨_, c5d⟩⟩ (fun j hj => c5f j (by omega))
      · have q18 := (mb_eq (x := false) (y := q_isRising (S.1 r))).mp q18
        have q18 := q18.symm
        refine mt_iload_n dX2_isRowSound_54 rfl ?_
        refine mt_aload_n dX2_isRowSound_55 rfl rfl ?_
        refine mt_callV (N := mX1_rightPairs) (Rc := rX1_rightPairs) (As := []) (st := [.int ((msort (S.1 r)).2)]) dX2_isRowSound_56 (kX1_rightPairs hl H7) sX1_rightPairs mw_186 mKX1 rfl ea_6 rfl (Nat.le_of_ble_eq_true rfl) ⟨⟨Nat.le_of_ble_eq_true rfl, Nat.le_of_ble_eq_true rfl⟩, Nat.le_of_ble_eq_true rfl, Nat.le_of_ble_eq_true rfl⟩ (fun v19 h20 n21 c22 => ?_) (fun _ _ _ hx => hx.elim)
        obtain ⟨c22a, c22b, c22c⟩ := c22
        rw [c22a, c22b, c22c]
        show mT _ _ _ _ 59 [.ref 0, .ref (2 + 3 * r), .int ((msort (S.1 r)).2), .int (((nI ((S.1 r).length)) * ((nI ((S.1 r).length)) - (nI 1))) / (nI 2))] [.int (q_rightPairs (S.1 r)), .int ((msort (S.1 r)).2)] _ _ _ _
        refine mp_iadd dX2_isRowSound_59 (v := ((msort (S.1 r)).2) + (q_rightPairs (S.1 r))) rfl ?_
        refine mt_aload_n dX2_isRowSound_60 rfl rfl ?_
        refine mt_getfield mKX2 (i := 1) (by decide) mw_113 dX2_isRowSound_61 ((c5f (0) (by omega)).trans C0) rfl ?_
        refine mt_getfield mKX0 (i := 0) (by decide) mw_97 dX2_isRowSound_64 ((c5f (14) (by omega)).trans C14) rfl ?_
        obtain ⟨f_27, g_27, ea_27, ek_27, es_27, ql_27, qr_27, qk_27, qt_27⟩ := id c5c
        refine mt_callV (N := mX1_tiedPairsOfSorted) (Rc := rX1_tiedPairsOfSorted) (As := []) (st := [.int (((msort (S.1 r)).2) + (q_rightPairs (S.1 r)))]) dX2_isRowSound_67 (kX1_tiedPairsOfSorted hl c5c) sX1_tiedPairsOfSorted mw_190 mKX1 rfl ea_27 rfl (Nat.le_of_ble_eq_true rfl) ⟨⟨Nat.le_of_ble_eq_true rfl, Nat.le_of_ble_eq_true rfl⟩, Nat.le_of_ble_eq_true rfl, Nat.le_of_ble_eq_true rfl⟩ (fun v23 h24 n25 c26 => ?_) (fun _ _ _ hx => hx.elim)
        obtain ⟨c26a, c26b, c26c⟩ := c26
        rw [c26a, c26b, c26c]
        show mT _ _ _ _ 70 [.ref 0, .ref (2 + 3 * r), .int ((msort (S.1 r)).2), .int (((nI ((S.1 r).length)) * ((nI ((S.1 r).length)) - (nI 1))) / (nI 2))] [.int (q_tiedPairsOfSorted ((msort (S.1 r)).1)), .int (((msort (S.1 r)).2) + (q_rightPairs (S.1 r)))] _ _ _ _
        refine mp_iadd dX2_isRowSound_70 (v := (((msort (S.1 r)).2) + (q_rightPairs (S.1 r))) + (q_tiedPairsOfSorted ((msort (S.1 r)).1))) rfl ?_
        refine mt_iload_n dX2_isRowSound_71 rfl ?_
        refine mt_icmp_ne dX2_isRowSound_72 (tgt := 93) rfl (fun q28 => ?_) (fun q28 => ?_)
        · simp only [mI_one, nI_0] at q28
          refine mt_iconst dX2_isRowSound_93 (v := nI 0) rfl ?_
          refine mt_ireturn dX2_isRowSound_94 rfl rfl (Nat.le_of_ble_eq_true rfl) (Nat.le_of_ble_eq_true rfl) ?_
          exact cOk.of (x := .int (nI 0)) (S' := (S.1, S.2.1, S.2.2.1, S.2.2.2.1, S.2.2.2.2)) ((congrArg (a₂ := false) (fun b => ((0 : Nat), Value.int (mb b), S)) (by simp [q_rowSound, decide_eq_true q12, decide_eq_false q13, q18, decide_eq_false q28]))) rfl rfl ⟨(c5f (0) (by omega)).trans C0, ⟨cg, (c5f (1) (by omega)).trans C1, C1g⟩, (c5f (14) (by omega)).trans C14, cRows0 CR (fun j j1 j2 => c5f j (by omega)), ⟨_, c5c⟩, ⟨_, (HK18).fr (fun j j1 j2 => c5f j (by omega))⟩, ⟨_, (HK21).fr (fun j j1 j2 => c5f j (by omega))⟩, ⟨_, c5d⟩⟩ (fun j hj => c5f j (by omega))
        · simp only [mI_one, nI_0] at q28
          refine mt_aload_n dX2_isRowSound_75 rfl rfl ?_
          refine mt_aload_n dX2_isRowSound_76 rfl rfl ?_
          refine mt_getfield mKX2 (i := 1) (by decide) mw_113 dX2_isRowSound_77 ((c5f (0) (by omega)).trans C0) rfl ?_
          refine mt_getfield mKX0 (i := 0) (by decide) mw_97 dX2_isRowSound_80 ((c5f (14) (by omega)).trans C14) rfl ?_
          refine mt_callV (N := mX1_standsByRanksIn) (Rc := rX1_standsByRanksIn) (As := [.ref 15]) (st := []) dX2_isRowSound_83 (kX1_standsByRanksIn hl H7 c5c) sX1_standsByRanksIn mw_194 mKX1 rfl ea_6 rfl (Nat.le_of_ble_eq_true rfl) ⟨⟨Nat.le_of_ble_eq_true rfl, Nat.le_of_ble_eq_true rfl⟩, Nat.le_of_ble_eq_true rfl, Nat.le_of_ble_eq_true rfl⟩ (fun v29 h30 n31 c32 => ?_) (fun _ _ _ hx => hx.elim)
          obtain ⟨c32a, c32b, c32c⟩ := c32
          rw [c32a, c32b, c32c]
          show mT _ _ _ _ 86 [.ref 0, .ref (2 + 3 * r), .int ((msort (S.1 r)).2), .int (((nI ((S.1 r).length)) * ((nI ((S.1 r).length)) - (nI 1))) / (nI 2))] [.int (mb (q_standsByRanksIn (S.1 r) ((msort (S.1 r)).1)))] _ _ _ _
          refine mt_if_eq dX2_isRowSound_86 (tgt := 93) rfl (fun q33 => ?_) (fun q33 => ?_)
          · have q33 : (q_standsByRanksIn (S.1 r) ((msort (S.1 r)).1)) = false := mb_0.mp q33
            refine mt_iconst dX2_isRowSound_93 (v := nI 0) rfl ?_
            refine mt_ireturn dX2_isRowSound_94 rfl rfl (Nat.le_of_ble_eq_true rfl) (Nat.le_of_ble_eq_true rfl) ?_
            exact cOk.of (x := .int (nI 0)) (S' := (S.1, S.2.1, S.2.2.1, S.2.2.2.1, S.2.2.2.2)) ((congrArg (a₂ := false) (fun b => ((0 : Nat), Value.int (mb b), S)) (by simp [q_rowSound, decide_eq_true q12, decide_eq_false q13, q18, decide_eq_true q28, q33]))) rfl rfl ⟨(c5f (0) (by omega)).trans C0, ⟨cg, (c5f (1) (by omega)).trans C1, C1g⟩, (c5f (14) (by omega)).trans C14, cRows0 CR (fun j j1 j2 => c5f j (by omega)), ⟨_, c5c⟩, ⟨_, (HK18).fr (fun j j1 j2 => c5f j (by omega))⟩, ⟨_, (HK21).fr (fun j j1 j2 => c5f j (by omega))⟩, ⟨_, c5d⟩⟩ (fun j hj => c5f j (by omega))
          · have q33 : (q_standsByRanksIn (S.1 r) ((msort (S.1 r)).1)) = true := mb_1.mp q33
            refine mt_iconst dX2_isRowSound_89 (v := nI 1) rfl ?_
            refine mt_goto dX2_isRowSound_90 (tgt := 94) rfl ?_
            refine mt_ireturn dX2_isRowSound_94 rfl rfl (Nat.le_of_ble_eq_true rfl) (Nat.le_of_ble_eq_true rfl) ?_
            exact cOk.of (x := .int (nI 1)) (S' := (S.1, S.2.1, S.2.2.1, S.2.2.2.1, S.2.2.2.2)) ((congrArg (a₂ := true) (fun b => ((0 : Nat), Value.int (mb b), S)) (by simp [q_rowSound, decide_eq_true q12, decide_eq_false q13, q18, decide_eq_true q28, q33]))) rfl rfl ⟨(c5f (0) (by omega)).trans C0, ⟨cg, (c5f (1) (by omega)).trans C1, C1g⟩, (c5f (14) (by omega)).trans C14, cRows0 CR (fun j j1 j2 => c5f j (by omega)), ⟨_, c5c⟩, ⟨_, (HK18).fr (fun j j1 j2 => c5f j (by omega))⟩, ⟨_, (HK21).fr (fun j j1 j2 => c5f j (by omega))⟩, ⟨_, c5d⟩⟩ (fun j hj => c5f j (by omega))
    · refine mt_iconst dX2_isRowSound_42 (v := nI 1) rfl ?_
      refine mt_goto dX2_isRowSound_43 (tgt := 47) rfl ?_
      refine mt_aload_n dX2_isRowSound_47 rfl rfl ?_
      refine mt_callV (N := mX1_isRising) (Rc := rX1_isRising) (As := []) (st := [.int (nI 1)]) dX2_isRowSound_48 (kX1_isRising hl H7) sX1_isRising mw_182 mKX1 rfl ea_6 rfl (Nat.le_of_ble_eq_true rfl) ⟨⟨Nat.le_of_ble_eq_true rfl, Nat.le_of_ble_eq_true rfl⟩, Nat.le_of_ble_eq_true rfl, Nat.le_of_ble_eq_true rfl⟩ (fun v34 h35 n36 c37 => ?_) (fun _ _ _ hx => hx.elim)
      obtain ⟨c37a, c37b, c37c⟩ := c37
      rw [c37a, c37b, c37c]
      show mT _ _ _ _ 51 [.ref 0, .ref (2 + 3 * r), .int ((msort (S.1 r)).2), .int (((nI ((S.1 r).length)) * ((nI ((S.1 r).length)) - (nI 1))) / (nI 2))] [.int (mb (q_isRising (S.1 r))), .int (nI 1)] _ _ _ _
      refine mt_icmp_ne dX2_isRowSound_51 (tgt := 93) rfl (fun q38 => ?_) (fun q38 => ?_)
      · have q38 := (not_congr (mb_eq (x := true) (y := q_isRising (S.1 r)))).mp q38
        have q38 : q_isRising (S.1 r) = false := by simpa using q38
        refine mt_iconst dX2_isRowSound_93 (v := nI 0) rfl ?_
        refine mt_ireturn dX2_isRowSound_94 rfl rfl (Nat.le_of_ble_eq_true rfl) (Nat.le_of_ble_eq_true rfl) ?_
        exact cOk.of (x := .int (nI 0)) (S' := (S.1, S.2.1, S.2.2.1, S.2.2.2.1, S.2.2.2.2)) ((congrArg (a₂ := false) (fun b => ((0 : Nat), Value.int (mb b), S)) (by simp [q_rowSound, decide_eq_true q12, decide_eq_true q13, q38]))) rfl rfl ⟨(c5f (0) (by omega)).trans C0, ⟨cg, (c5f (1) (by omega)).trans C1, C1g⟩, (c5f (14) (by omega)).trans C14, cRows0 CR (fun j j1 j2 => c5f j (by omega)), ⟨_, c5c⟩, ⟨_, (HK18).fr (fun j j1 j2 => c5f j (by omega))⟩, ⟨_, (HK21).fr (fun j j1 j2 => c5f j (by omega))⟩, ⟨_, c5d⟩⟩ (fun j hj => c5f j (by omega))
      · have q38 := (mb_eq (x := true) (y := q_isRising (S.1 r))).mp q38
        have q38 := q38.symm
        refine mt_iload_n dX2_isRowSound_54 rfl ?_
        refine mt_aload_n dX2_isRowSound_55 rfl rfl ?_
        refine mt_callV (N := mX1_rightPairs) (Rc := rX1_rightPairs) (As := []) (st := [.int ((msort (S.1 r)).2)]) dX2_isRowSound_56 (kX1_rightPairs hl H7) sX1_rightPairs mw_186 mKX1 rfl ea_6 rfl (Nat.le_of_ble_eq_true rfl) ⟨⟨Nat.le_of_ble_eq_true rfl, Nat.le_of_ble_eq_true rfl⟩, Nat.le_of_ble_eq_true rfl, Nat.le_of_ble_eq_true rfl⟩ (fun v39 h40 n41 c42 => ?_) (fun _ _ _ hx => hx.elim)
        obtain ⟨c42a, c42b, c42c⟩ := c42
        rw [c42a, c42b, c42c]
        show mT _ _ _ _ 59 [.ref 0, .ref (2 + 3 * r), .int ((msort (S.1 r)).2), .int (((nI ((S.1 r).length)) * ((nI ((S.1 r).length)) - (nI 1))) / (nI 2))] [.int (q_rightPairs (S.1 r)), .int ((msort (S.1 r)).2)] _ _ _ _
        refine mp_iadd dX2_isRowSound_59 (v := ((msort (S.1 r)).2) + (q_rightPairs (S.1 r))) rfl ?_
        refine mt_aload_n dX2_isRowSound_60 rfl rfl ?_
        refine mt_getfield mKX2 (i := 1) (by decide) mw_113 dX2_isRowSound_61 ((c5f (0) (by omega)).trans C0) rfl ?_
        refine mt_getfield mKX0 (i := 0) (by decide) mw_97 dX2_isRowSound_64 ((c5f (14) (by omega)).trans C14) rfl ?_
        obtain ⟨f_47, g_47, ea_47, ek_47, es_47, ql_47, qr_47, qk_47, qt_47⟩ := id c5c
        refine mt_callV (N := mX1_tiedPairsOfSorted) (Rc := rX1_tiedPairsOfSorted) (As := []) (st := [.int (((msort (S.1 r)).2) + (q_rightPairs (S.1 r)))]) dX2_isRowSound_67 (kX1_tiedPairsOfSorted hl c5c) sX1_tiedPairsOfSorted mw_190 mKX1 rfl ea_47 rfl (Nat.le_of_ble_eq_true rfl) ⟨⟨Nat.le_of_ble_eq_true rfl, Nat.le_of_ble_eq_true rfl⟩, Nat.le_of_ble_eq_true rfl, Nat.le_of_ble_eq_true rfl⟩ (fun v43 h44 n45 c46 => ?_) (fun _ _ _ hx => hx.elim)
        obtain ⟨c46a, c46b, c46c⟩ := c46
        rw [c46a, c46b, c46c]
        show mT _ _ _ _ 70 [.ref 0, .ref (2 + 3 * r), .int ((msort (S.1 r)).2), .int (((nI ((S.1 r).length)) * ((nI ((S.1 r).length)) - (nI 1))) / (nI 2))] [.int (q_tiedPairsOfSorted ((msort (S.1 r)).1)), .int (((msort (S.1 r)).2) + (q_rightPairs (S.1 r)))] _ _ _ _
        refine mp_iadd dX2_isRowSound_70 (v := (((msort (S.1 r)).2) + (q_rightPairs (S.1 r))) + (q_tiedPairsOfSorted ((msort (S.1 r)).1))) rfl ?_
        refine mt_iload_n dX2_isRowSound_71 rfl ?_
        refine mt_icmp_ne dX2_isRowSound_72 (tgt := 93) rfl (fun q48 => ?_) (fun q48 => ?_)
        · simp only [mI_one, nI_0] at q48
          refine mt_iconst dX2_isRowSound_93 (v := nI 0) rfl ?_
          refine mt_ireturn dX2_isRowSound_94 rfl rfl (Nat.le_of_ble_eq_true rfl) (Nat.le_of_ble_eq_true rfl) ?_
          exact cOk.of (x := .int (nI 0)) (S' := (S.1, S.2.1, S.2.2.1, S.2.2.2.1, S.2.2.2.2)) ((congrArg (a₂ := false) (fun b => ((0 : Nat), Value.int (mb b), S)) (by simp [q_rowSound, decide_eq_true q12, decide_eq_true q13, q38, decide_eq_false q48]))) rfl rfl ⟨(c5f (0) (by omega)).trans C0, ⟨cg, (c5f (1) (by omega)).trans C1, C1g⟩, (c5f (14) (by omega)).trans C14, cRows0 CR (fun j j1 j2 => c5f j (by omega)), ⟨_, c5c⟩, ⟨_, (HK18).fr (fun j j1 j2 => c5f j (by omega))⟩, ⟨_, (HK21).fr (fun j j1 j2 => c5f j (by omega))⟩, ⟨_, c5d⟩⟩ (fun j hj => c5f j (by omega))
        · simp only [mI_one, nI_0] at q48
          refine mt_aload_n dX2_isRowSound_75 rfl rfl ?_
          refine mt_aload_n dX2_isRowSound_76 rfl rfl ?_
          refine mt_getfield mKX2 (i := 1) (by decide) mw_113 dX2_isRowSound_77 ((c5f (0) (by omega)).trans C0) rfl ?_
          refine mt_getfield mKX0 (i := 0) (by decide) mw_97 dX2_isRowSound_80 ((c5f (14) (by omega)).trans C14) rfl ?_
          refine mt_callV (N := mX1_standsByRanksIn) (Rc := rX1_standsByRanksIn) (As := [.ref 15]) (st := []) dX2_isRowSound_83 (kX1_standsByRanksIn hl H7 c5c) sX1_standsByRanksIn mw_194 mKX1 rfl ea_6 rfl (Nat.le_of_ble_eq_true rfl) ⟨⟨Nat.le_of_ble_eq_true rfl, Nat.le_of_ble_eq_true rfl⟩, Nat.le_of_ble_eq_true rfl, Nat.le_of_ble_eq_true rfl⟩ (fun v49 h50 n51 c52 => ?_) (fun _ _ _ hx => hx.elim)
          obtain ⟨c52a, c52b, c52c⟩ := c52
          rw [c52a, c52b, c52c]
          show mT _ _ _ _ 86 [.ref 0, .ref (2 + 3 * r), .int ((msort (S.1 r)).2), .int (((nI ((S.1 r).length)) * ((nI ((S.1 r).length)) - (nI 1))) / (nI 2))] [.int (mb (q_standsByRanksIn (S.1 r) ((msort (S.1 r)).1)))] _ _ _ _
          refine mt_if_eq dX2_isRowSound_86 (tgt := 93) rfl (fun q53 => ?_) (fun q53 => ?_)
          · have q53 : (q_standsByRanksIn (S.1 r) ((msort (S.1 r)).1)) = false := mb_0.mp q53
            refine mt_iconst dX2_isRowSound_93 (v := nI 0) rfl ?_
            refine mt_ireturn dX2_isRowSound_94 rfl rfl (Nat.le_of_ble_eq_true rfl) (Nat.le_of_ble_eq_true rfl) ?_
            exact cOk.of (x := .int (nI 0)) (S' := (S.1, S.2.1, S.2.2.1, S.2.2.2.1, S.2.2.2.2)) ((congrArg (a₂ := false) (fun b => ((0 : Nat), Value.int (mb b), S)) (by simp [q_rowSound, decide_eq_true q12, decide_eq_true q13, q38, decide_eq_true q48, q53]))) rfl rfl ⟨(c5f (0) (by omega)).trans C0, ⟨cg, (c5f (1) (by omega)).trans C1, C1g⟩, (c5f (14) (by omega)).trans C14, cRows0 CR (fun j j1 j2 => c5f j (by omega)), ⟨_, c5c⟩, ⟨_, (HK18).fr (fun j j1 j2 => c5f j (by omega))⟩, ⟨_, (HK21).fr (fun j j1 j2 => c5f j (by omega))⟩, ⟨_, c5d⟩⟩ (fun j hj => c5f j (by omega))
          · have q53 : (q_standsByRanksIn (S.1 r) ((msort (S.1 r)).1)) = true := mb_1.mp q53
            refine mt_iconst dX2_isRowSound_89 (v := nI 1) rfl ?_
            refine mt_goto dX2_isRowSound_90 (tgt := 94) rfl ?_
            refine mt_ireturn dX2_isRowSound_94 rfl rfl (Nat.le_of_ble_eq_true rfl) (Nat.le_of_ble_eq_true rfl) ?_
            exact cOk.of (x := .int (nI 1)) (S' := (S.1, S.2.1, S.2.2.1, S.2.2.2.1, S.2.2.2.2)) ((congrArg (a₂ := true) (fun b => ((0 : Nat), Value.int (mb b), S)) (by simp [q_rowSound, decide_eq_true q12, decide_eq_true q13, q38, decide_eq_true q48, q53]))) rfl rfl ⟨(c5f (0) (by omega)).trans C0, ⟨cg, (c5f (1) (by omega)).trans C1, C1g⟩, (c5f (14) (by omega)).trans C14, cRows0 CR (fun j j1 j2 => c5f j (by omega)), ⟨_, c5c⟩, ⟨_, (HK18).fr (fun j j1 j2 => c5f j (by omega))⟩, ⟨_, (HK21).fr (fun j j1 j2 => c5f j (by omega))⟩, ⟨_, c5d⟩⟩ (fun j hj => c5f j (by omega))
abbrev rX2_isWeaveSound : Room := { frames := 5, cells := 0, slots := 0, locals := 123 }
set_option maxRecDepth 100000 in
set_option maxHeartbeats 2000000 in
theorem kX2_isWeaveSound {l : Launch} (hl : l.stackTraces = false) {h : mH} {n : Nat} {S : cS} (C : cAt h S) : mC l mX2_isWeaveSound rX2_isWeaveSound [.ref 0, .ref (2 + 3 * 0), .ref (2 + 3 * 1)] h n (cOk ((0 : Nat), Value.int (mb (q_weaveSound (S.1 0) (S.1 1) (rroom 0))), S) h n) (mNX) := by
  obtain ⟨C0, ⟨cg, C1, C1g⟩, C14, CR, ⟨zs15, HK15⟩, ⟨zs18, HK18⟩, ⟨zs21, HK21⟩, ⟨zs24, HK24⟩⟩ := id C
  have hL0 := (CR 0 (by decide)).len
  have hL1 := (CR 1 (by decide)).len
  refine mm_enter hl (by decide +kernel) rfl rfl rfl (Nat.le_of_ble_eq_true rfl) ?_
  show mT _ _ _ _ 0 [.ref 0, .ref (2 + 3 * 0), .ref (2 + 3 * 1)] [] _ _ 0 0
  refine mt_aload_n dX2_isWeaveSound_0 rfl rfl ?_
  have H1 : rowAt h (2 + 3 * 0) (rroom 0) (mb (decide (0 < 2))) (S.1 0) := CR 0 (by omega)
  obtain ⟨f_6, g_6, ea_6, ek_6, es_6, ql_6, qr_6, qk_6, qt_6⟩ := id H1
  refine mt_callV (N := mX1_isRising) (Rc := rX1_isRising) (As := []) (st := []) dX2_isWeaveSound_1 (kX1_isRising hl H1) sX1_isRising mw_182 mKX1 rfl ea_6 rfl (Nat.le_of_ble_eq_true rfl) ⟨⟨Nat.le_of_ble_eq_true rfl, Nat.le_of_ble_eq_true rfl⟩, Nat.le_of_ble_eq_true rfl, Nat.le_of_ble_eq_true rfl⟩ (fun v2 h3 n4 c5 => ?_) (fun _ _ _ hx => hx.elim)
  obtain ⟨c5a, c5b, c5c⟩ := c5
  rw [c5a, c5b, c5c]
  show mT _ _ _ _ 4 [.ref 0, .ref (2 + 3 * 0), .ref (2 + 3 * 1)] [.int (mb (q_isRising (S.1 0)))] _ _ _ _
  refine mt_if_eq dX2_isWeaveSound_4 (tgt := 25) rfl (fun q7 => ?_) (fun q7 => ?_)
  · have q7 : (q_isRising (S.1 0)) = false := mb_0.mp q7
    refine mt_iconst dX2_isWeaveSound_25 (v := nI 1) rfl ?_
    refine mt_ireturn dX2_isWeaveSound_26 rfl rfl (Nat.le_of_ble_eq_true rfl) (Nat.le_of_ble_eq_true rfl) ?_
    exact cOk.of (x := .int (nI 1)) (S' := (S.1, S.2.1, S.2.2.1, S.2.2.2.1, S.2.2.2.2)) ((congrArg (a₂ := true) (fun b => ((0 : Nat), Value.int (mb b), S)) (by simp [q_weaveSound, q7]))) rfl rfl ⟨C0, ⟨cg, C1, C1g⟩, C14, CR, ⟨_, HK15⟩, ⟨_, HK18⟩, ⟨_, HK21⟩, ⟨_, HK24⟩⟩ (fun j hj => rfl)
  · have q7 : (q_isRising (S.1 0)) = true := mb_1.mp q7
    refine mt_aload_n dX2_isWeaveSound_7 rfl rfl ?_
    have H8 : rowAt h (2 + 3 * 1) (rroom 1) (mb (decide (1 < 2))) (S.1 1) := CR 1 (by omega)
    obtain ⟨f_13, g_13, ea_13, ek_13, es_13, ql_13, qr_13, qk_13, qt_13⟩ := id H8
    refine mt_callV (N := mX1_isRising) (Rc := rX1_isRising) (As := []) (st := []) dX2_isWeaveSound_8 (kX1_isRising hl H8) sX1_isRising mw_182 mKX1 rfl ea_13 rfl (Nat.le_of_ble_eq_true rfl) ⟨⟨Nat.le_of_ble_eq_true rfl, Nat.le_of_ble_eq_true rfl⟩, Nat.le_of_ble_eq_true rfl, Nat.le_of_ble_eq_true rfl⟩ (fun v9 h10 n11 c12 => ?_) (fun _ _ _ hx => hx.elim)
    obtain ⟨c12a, c12b, c12c⟩ := c12
    rw [c12a, c12b, c12c]
    show mT _ _ _ _ 11 [.ref 0, .ref (2 + 3 * 0), .ref (2 + 3 * 1)] [.int (mb (q_isRising (S.1 1)))] _ _ _ _
    refine mt_if_eq dX2_isWeaveSound_11 (tgt := 25) rfl (fun q14 => ?_) (fun q14 => ?_)
    · have q14 : (q_isRising (S.1 1)) = false := mb_0.mp q14
      refine mt_iconst dX2_isWeaveSound_25 (v := nI 1) rfl ?_
      refine mt_ireturn dX2_isWeaveSound_26 rfl rfl (Nat.le_of_ble_eq_true rfl) (Nat.le_of_ble_eq_true rfl) ?_
      exact cOk.of (x := .int (nI 1)) (S' := (S.1, S.2.1, S.2.2.1, S.2.2.2.1, S.2.2.2.2)) ((congrArg (a₂ := true) (fun b => ((0 : Nat), Value.int (mb b), S)) (by simp [q_weaveSound, q7, q14]))) rfl rfl ⟨C0, ⟨cg, C1, C1g⟩, C14, CR, ⟨_, HK15⟩, ⟨_, HK18⟩, ⟨_, HK21⟩, ⟨_, HK24⟩⟩ (fun j hj => rfl)
    · have q14 : (q_isRising (S.1 1)) = true := mb_1.mp q14
      refine mt_aload_n dX2_isWeaveSound_14 rfl rfl ?_
      refine mt_getfield mKX1 (i := 3) (by decide) mw_76 dX2_isWeaveSound_15 ea_13 rfl ?_
      refine mt_aload_n dX2_isWeaveSound_18 rfl rfl ?_
      refine mt_callV (N := mX1_free) (Rc := rX1_free) (As := []) (st := [.int (nI ((S.1 1).length))]) dX2_isWeaveSound_19 (kX1_free hl H1) sX1_free mw_206 mKX1 rfl ea_6 rfl (Nat.le_of_ble_eq_true rfl) ⟨⟨Nat.le_of_ble_eq_true rfl, Nat.le_of_ble_eq_true rfl⟩, Nat.le_of_ble_eq_true rfl, Nat.le_of_ble_eq_true rfl⟩ (fun v15 h16 n17 c18 => ?_) (fun _ _ _ hx => hx.elim)
      obtain ⟨c18a, c18b, c18c⟩ := c18
      rw [c18a, c18b, c18c]
      show mT _ _ _ _ 22 [.ref 0, .ref (2 + 3 * 0), .ref (2 + 3 * 1)] [.int (nI ((rroom 0) - (S.1 0).length)), .int (nI ((S.1 1).length))] _ _ _ _
      refine mt_icmp_le dX2_isWeaveSound_22 (tgt := 27) rfl (fun q19 => ?_) (fun q19 => ?_)
      · have q19 := Int32.not_lt.mpr q19
        have q19 := (not_congr (nI_ltI (by omega) (by omega))).mp q19
        refine mt_aload_n dX2_isWeaveSound_27 rfl rfl ?_
        refine mt_getfield mKX2 (i := 1) (by decide) mw_113 dX2_isWeaveSound_28 C0 rfl ?_
        refine mt_getfield mKX0 (i := 1) (by decide) mw_99 dX2_isWeaveSound_31 C14 rfl ?_
        refine mt_aload_n dX2_isWeaveSound_34 rfl rfl ?_
        obtain ⟨f_24, g_24, ea_24, ek_24, es_24, ql_24, qr_24, qk_24, qt_24⟩ := id HK18
        refine mt_callV (N := mX1_become) (Rc := rX1_become) (As := [.ref (2 + 3 * 0)]) (st := []) dX2_isWeaveSound_35 (kX1_become hl HK18 H1 (by omega) (by first | omega | assumption | (simp only [List.length_append, List.length_cons, List.length_nil, span_len, Nat.sub_zero] at *; omega))) sX1_become mw_210 mKX1 rfl ea_24 rfl (Nat.le_of_ble_eq_true rfl) ⟨⟨Nat.le_of_ble_eq_true rfl, Nat.le_of_ble_eq_true rfl⟩, Nat.le_of_ble_eq_true rfl, Nat.le_of_ble_eq_true rfl⟩ (fun v20 h21 n22 c23 => ?_) (fun _ _ _ hx => hx.elim)
        obtain ⟨c23a, c23b, c23c, c23d⟩ := c23
        rw [c23a, c23b]
        show mT _ _ _ _ 38 [.ref 0, .ref (2 + 3 * 0), .ref (2 + 3 * 1)] [] _ _ _ _
        refine mt_aload_n dX2_isWeaveSound_38 rfl rfl ?_
        refine mt_getfield mKX2 (i := 1) (by decide) mw_113 dX2_isWeaveSound_39 ((c23d (0) (by omega)).trans C0) rfl ?_
        refine mt_getfield mKX0 (i := 1) (by decide) mw_99 dX2_isWeaveSound_42 ((c23d (14) (by omega)).trans C14) rfl ?_
        refine mt_aload_n dX2_isWeaveSound_45 rfl rfl ?_
        refine mt_iconst dX2_isWeaveSound_46 (v := nI 0) rfl ?_
        refine mt_aload_n dX2_isWeaveSound_47 rfl rfl ?_
        refine mt_getfield mKX1 (i := 3) (by decide) mw_76 dX2_isWeaveSound_48 ((c23d (2 + 3 * 1) (by omega)).trans ea_13) rfl ?_
        have H25 : rowAt h21 (2 + 3 * 1) (rroom 1) (mb (decide (1 < 2))) (S.1 1) := (H8).fr (fun j j1 j2 => c23d j (by omega))
        obtain ⟨f_30, g_30, ea_30, ek_30, es_30, ql_30, qr_30, qk_30, qt_30⟩ := id c23c
        refine mt_callV (N := mX1_appendSpan) (Rc := rX1_appendSpan) (As := [.ref (2 + 3 * 1), .int (nI 0), .int (nI ((S.1 1).length))]) (st := []) dX2_isWeaveSound_51 (kX1_appendSpan hl c23c H25 (by omega) (by omega) (by first | omega | assumption | (simp only [List.length_append, List.length_cons, List.length_nil, span_len, Nat.sub_zero] at *; omega)) (by omega)) sX1_appendSpan mw_211 mKX1 rfl ea_30 rfl (Nat.le_of_ble_eq_true rfl) ⟨⟨Nat.le_of_ble_eq_true rfl, Nat.le_of_ble_eq_true rfl⟩, Nat.le_of_ble_eq_true rfl, Nat.le_of_ble_eq_true rfl⟩ (fun v26 h27 n28 c29 => ?_) (fun _ _ _ hx => hx.elim)
        have al63 : ((S.1 0) ++ span (S.1 1) 0 ((S.1 1).length)).length = (S.1 0).length + (span (S.1 1) 0 ((S.1 1).length)).length := List.length_append
        have sl64 := span_len (ys := S.1 1) (i := 0) (e := (S.1 1).length) (by omega)
        obtain ⟨c29a, c29b, c29c, c29d⟩ := c29
        rw [c29a, c29b]
        show mT _ _ _ _ 54 [.ref 0, .ref (2 + 3 * 0), .ref (2 + 3 * 1)] [] _ _ _ _
        refine mt_aload_n dX2_isWeaveSound_54 rfl rfl ?_
        refine mt_getfield mKX2 (i := 1) (by decide) mw_113 dX2_isWeaveSound_55 ((c29d (0) (by omega)).trans ((c23d (0) (by omega)).trans C0)) rfl ?_
        refine mt_aload_n dX2_isWeaveSound_58 rfl rfl ?_
        refine mt_getfield mKX1 (i := 3) (by decide) mw_76 dX2_isWeaveSound_59 ((c29d (2 + 3 * 0) (by omega)).trans ((c23d (2 + 3 * 0) (by omega)).trans ea_6)) rfl ?_
        have H31 : rowAt h27 21 320 (nI 1) zs21 := ((HK21).fr (fun j j1 j2 => c23d j (by omega))).fr (fun j j1 j2 => c29d j (by omega))
        refine mt_callV (N := mX0_weaveJoined) (Rc := rX0_weaveJoined) (As := [.int (nI ((S.1 0).length))]) (st := []) dX2_isWeaveSound_62 (kX0_weaveJoined hl ((c29d (14) (by omega)).trans ((c23d (14) (by omega)).trans C14)) c29c H31 (by omega) (by omega) (by omega)) sX0_weaveJoined mw_212 mKX0 rfl ((c29d (14) (by omega)).trans ((c23d (14) (by omega)).trans C14)) rfl (Nat.le_of_ble_eq_true rfl) ⟨⟨Nat.le_of_ble_eq_true rfl, Nat.le_of_ble_eq_true rfl⟩, Nat.le_of_ble_eq_true rfl, Nat.le_of_ble_eq_true rfl⟩ (fun v32 h33 n34 c35 => ?_) (fun _ _ _ hx => hx.elim)
        have wl74 := weave_len (xs := (S.1 0) ++ span (S.1 1) 0 ((S.1 1).length)) (m := (S.1 0).length) (by omega)
        obtain ⟨c35a, c35b, c35c, c35d⟩ := c35
        rw [c35a, c35b]
        have H36 : rowAt h33 21 320 (nI 1) (weave ((S.1 0) ++ span (S.1 1) 0 ((S.1 1).length)) ((S.1 0).length)) := c35c
        show mT _ _ _ _ 65 [.ref 0, .ref (2 + 3 * 0), .ref (2 + 3 * 1)] [] _ _ _ _
        refine mt_aload_n dX2_isWeaveSound_65 rfl rfl ?_
        refine mt_getfield mKX2 (i := 1) (by decide) mw_113 dX2_isWeaveSound_66 ((c35d (0) (by omega)).trans ((c29d (0) (by omega)).trans ((c23d (0) (by omega)).trans C0))) rfl ?_
        refine mt_aload_n dX2_isWeaveSound_69 rfl rfl ?_
        refine mt_getfield mKX2 (i := 1) (by decide) mw_113 dX2_isWeaveSound_70 ((c35d (0) (by omega)).trans ((c29d (0) (by omega)).trans ((c23d (0) (by omega)).trans C0))) rfl ?_
        refine mt_getfield mKX0 (i := 1) (by decide) mw_99 dX2_isWeaveSound_73 ((c35d (14) (by omega)).trans ((c29d (14) (by omega)).trans ((c23d (14) (by omega)).trans C14))) rfl ?_
        refine mt_aload_n dX2_isWeaveSound_76 rfl rfl ?_
        refine mt_getfield mKX2 (i := 1) (by decide) mw_113 dX2_isWeaveSound_77 ((c35d (0) (by omega)).trans ((c29d (0) (by omega)).trans ((c23d (0) (by omega)).trans C0))) rfl ?_
        refine mt_getfield mKX0 (i := 0) (by decide) mw_97 dX2_isWeaveSound_80 ((c35d (14) (by omega)).trans ((c29d (14) (by omega)).trans ((c23d (14) (by omega)).trans C14))) rfl ?_
        have H37 : rowAt h33 15 320 (nI 1) zs15 := (((HK15).fr (fun j j1 j2 => c23d j (by omega))).fr (fun j j1 j2 => c29d j (by omega))).fr (fun j j1 j2 => c35d j (by omega))
        have H38 : rowAt h33 18 320 (nI 1) ((S.1 0) ++ span (S.1 1) 0 ((S.1 1).length)) := (c29c).fr (fun j j1 j2 => c35d j (by omega))
        have H39 : rowAt h33 24 320 (nI 1) zs24 := (((HK24).fr (fun j j1 j2 => c23d j (by omega))).fr (fun j j1 j2 => c29d j (by omega))).fr (fun j j1 j2 => c35d j (by omega))
        refine mt_callV (N := mX0_sortUp) (Rc := rX0_sortUp) (As := [.ref 18, .ref 15]) (st := []) dX2_isWeaveSound_83 (kX0_sortUp hl ((c35d (14) (by omega)).trans ((c29d (14) (by omega)).trans ((c23d (14) (by omega)).trans C14))) H37 H38 H39 (by omega) (by omega) (by omega) (by omega)) sX0_sortUp mw_143 mKX0 rfl ((c35d (14) (by omega)).trans ((c29d (14) (by omega)).trans ((c23d (14) (by omega)).trans C14))) rfl (Nat.le_of_ble_eq_true rfl) ⟨⟨Nat.le_of_ble_eq_true rfl, Nat.le_of_ble_eq_true rfl⟩, Nat.le_of_ble_eq_true rfl, Nat.le_of_ble_eq_true rfl⟩ (fun v40 h41 n42 c43 => ?_) (fun _ _ _ hx => hx.elim)
        obtain ⟨c43a, c43b, c43c, ⟨c43z, c43d⟩, c43e⟩ := c43
        rw [c43a, c43b]
        have c43f : ∀ j, ((j < 15 ∨ 15 + 3 ≤ j) ∧ (j < 24 ∨ 24 + 3 ≤ j)) → h41 j = h33 j := fun j hj => c43e j hj.1 hj.2
        have mlc43 := msort_len (ys := (S.1 0) ++ span (S.1 1) 0 ((S.1 1).length))
        show mT _ _ _ _ 86 [.ref 0, .ref (2 + 3 * 0), .ref (2 + 3 * 1)] [.int ((msort ((S.1 0) ++ span (S.1 1) 0 ((S.1 1).length))).2)] _ _ _ _
        refine mt_pop dX2_isWeaveSound_86 rfl ?_
        refine mt_aload_n dX2_isWeaveSound_87 rfl rfl ?_
        refine mt_getfield mKX2 (i := 1) (by decide) mw_113 dX2_isWeaveSound_88 ((c43f (0) (by omega)).trans ((c35d (0) (by omega)).trans ((c29d (0) (by omega)).trans ((c23d (0) (by omega)).trans C0)))) rfl ?_
        refine mt_getfield mKX0 (i := 2) (by decide) mw_101 dX2_isWeaveSound_91 ((c43f (14) (by omega)).trans ((c35d (14) (by omega)).trans ((c29d (14) (by omega)).trans ((c23d (14) (by omega)).trans C14)))) rfl ?_
        obtain ⟨f_44, g_44, ea_44, ek_44, es_44, ql_44, qr_44, qk_44, qt_44⟩ := id (H36).fr (fun j j1 j2 => c43f j (by omega))
        refine mt_getfield mKX1 (i := 3) (by decide) mw_76 dX2_isWeaveSound_94 ea_44 rfl ?_
        refine mt_aload_n dX2_isWeaveSound_97 rfl rfl ?_
        refine mt_getfield mKX2 (i := 1) (by decide) mw_113 dX2_isWeaveSound_98 ((c43f (0) (by omega)).trans ((c35d (0) (by omega)).trans ((c29d (0) (by omega)).trans ((c23d (0) (by omega)).trans C0)))) rfl ?_
        refine mt_getfield mKX0 (i := 0) (by decide) mw_97 dX2_isWeaveSound_101 ((c43f (14) (by omega)).trans ((c35d (14) (by omega)).trans ((c29d (14) (by omega)).trans ((c23d (14) (by omega)).trans C14)))) rfl ?_
        obtain ⟨f_45, g_45, ea_45, ek_45, es_45, ql_45, qr_45, qk_45, qt_45⟩ := id c43c
        refine mt_getfield mKX1 (i := 3) (by decide) mw_76 dX2_isWeaveSound_104 ea_45 rfl ?_
        refine mt_icmp_ne dX2_isWeaveSound_107 (tgt := 134) rfl (fun q46 => ?_) (fun q46 => ?_)
        · have q46 := (not_congr (nI_eq (by omega) (by omega))).mp q46
          refine mt_iconst dX2_isWeaveSound_134 (v := nI 0) rfl ?_
          refine mt_ireturn dX2_isWeaveSound_135 rfl rfl (Nat.le_of_ble_eq_true rfl) (Nat.le_of_ble_eq_true rfl) ?_
          exact cOk.of (x := .int (nI 0)) (S' := (S.1, S.2.1, S.2.2.1, S.2.2.2.1, S.2.2.2.2)) ((congrArg (a₂ := false) (fun b => ((0 : Nat), Value.int (mb b), S)) (by simp [q_weaveSound, q7, q14, decide_eq_false q19, decide_eq_false q46]))) rfl rfl ⟨(c43f (0) (by omega)).trans ((c35d (0) (by omega)).trans ((c29d (0) (by omega)).trans ((c23d (0) (by omega)).trans C0))), ⟨cg, (c43f (1) (by omega)).trans ((c35d (1) (by omega)).trans ((c29d (1) (by omega)).trans ((c23d (1) (by omega)).trans C1))), C1g⟩, (c43f (14) (by omega)).trans ((c35d (14) (by omega)).trans ((c29d (14) (by omega)).trans ((c23d (14) (by omega)).trans C14))), cRows0 CR (fun j j1 j2 => (c43f j (by omega)).trans ((c35d j (by omega)).trans ((c29d j (by omega)).trans (c23d j (by omega))))), ⟨_, c43c⟩, ⟨_, (H38).fr (fun j j1 j2 => c43f j (by omega))⟩, ⟨_, (H36).fr (fun j j1 j2 => c43f j (by omega))⟩, ⟨_, c43d⟩⟩ (fun j hj => (c43f j (by omega)).trans ((c35d j (by omega)).trans ((c29d j (by omega)).trans (c23d j (by omega)))))
        · have q46 := (nI_eq (by omega) (by omega)).mp q46
          refine mt_aload_n dX2_isWeaveSound_110 rfl rfl ?_
          refine mt_getfield mKX2 (i := 1) (by decide) mw_113 dX2_isWeaveSound_111 ((c43f (0) (by omega)).trans ((c35d (0) (by omega)).trans ((c29d (0) (by omega)).trans ((c23d (0) (by omega)).trans C0)))) rfl ?_
          refine mt_getfield mKX0 (i := 2) (by decide) mw_101 dX2_isWeaveSound_114 ((c43f (14) (by omega)).trans ((c35d (14) (by omega)).trans ((c29d (14) (by omega)).trans ((c23d (14) (by omega)).trans C14)))) rfl ?_
          refine mt_aload_n dX2_isWeaveSound_117 rfl rfl ?_
          refine mt_getfield mKX2 (i := 1) (by decide) mw_113 dX2_isWeaveSound_118 ((c43f (0) (by omega)).trans ((c35d (0) (by omega)).trans ((c29d (0) (by omega)).trans ((c23d (0) (by omega)).trans C0)))) rfl ?_
          refine mt_getfield mKX0 (i := 0) (by decide) mw_97 dX2_isWeaveSound_121 ((c43f (14) (by omega)).trans ((c35d (14) (by omega)).trans ((c29d (14) (by omega)).trans ((c23d (14) (by omega)).trans C14)))) rfl ?_
          have H47 : rowAt h41 21 320 (nI 1) (weave ((S.1 0) ++ span (S.1 1) 0 ((S.1 1).length)) ((S.1 0).length)) := (H36).fr (fun j j1 j2 => c43f j (by omega))
          refine mt_callV (N := mX1_otherItems) (Rc := rX1_otherItems) (As := [.ref 15]) (st := []) dX2_isWeaveSound_124 (kX1_otherItems hl H47 c43c) sX1_otherItems mw_216 mKX1 rfl ea_44 rfl (Nat.le_of_ble_eq_true rfl) ⟨⟨Nat.le_of_ble_eq_true rfl, Nat.le_of_ble_eq_true rfl⟩, Nat.le_of_ble_eq_true rfl, Nat.le_of_ble_eq_true rfl⟩ (fun v48 h49 n50 c51 => ?_) (fun _ _ _ hx => hx.elim)
          obtain ⟨c51a, c51b, c51c⟩ := c51
          rw [c51a, c51b, c51c]
          show mT _ _ _ _ 127 [.ref 0, .ref (2 + 3 * 0), .ref (2 + 3 * 1)] [.int (q_otherItems (weave ((S.1 0) ++ span (S.1 1) 0 ((S.1 1).length)) ((S.1 0).length)) ((msort ((S.1 0) ++ span (S.1 1) 0 ((S.1 1).length))).1))] _ _ _ _
          refine mt_if_ne dX2_isWeaveSound_127 (tgt := 134) rfl (fun q52 => ?_) (fun q52 => ?_)
          · refine mt_iconst dX2_isWeaveSound_134 (v := nI 0) rfl ?_
            refine mt_ireturn dX2_isWeaveSound_135 rfl rfl (Nat.le_of_ble_eq_true rfl) (Nat.le_of_ble_eq_true rfl) ?_
            exact cOk.of (x := .int (nI 0)) (S' := (S.1, S.2.1, S.2.2.1, S.2.2.2.1, S.2.2.2.2)) ((congrArg (a₂ := false) (fun b => ((0 : Nat), Value.int (mb b), S)) (by simp [q_weaveSound, q7, q14, decide_eq_false q19, decide_eq_true q46, decide_eq_false q52]))) rfl rfl ⟨(c43f (0) (by omega)).trans ((c35d (0) (by omega)).trans ((c29d (0) (by omega)).trans ((c23d (0) (by omega)).trans C0))), ⟨cg, (c43f (1) (by omega)).trans ((c35d (1) (by omega)).trans ((c29d (1) (by omega)).trans ((c23d (1) (by omega)).trans C1))), C1g⟩, (c43f (14) (by omega)).trans ((c35d (14) (by omega)).trans ((c29d (14) (by omega)).trans ((c23d (14) (by omega)).trans C14))), cRows0 CR (fun j j1 j2 => (c43f j (by omega)).trans ((c35d j (by omega)).trans ((c29d j (by omega)).trans (c23d j (by omega))))), ⟨_, c43c⟩, ⟨_, (H38).fr (fun j j1 j2 => c43f j (by omega))⟩, ⟨_, H47⟩, ⟨_, c43d⟩⟩ (fun j hj => (c43f j (by omega)).trans ((c35d j (by omega)).trans ((c29d j (by omega)).trans (c23d j (by omega)))))
          · refine mt_iconst dX2_isWeaveSound_130 (v := nI 1) rfl ?_
            refine mt_goto dX2_isWeaveSound_131 (tgt := 135) rfl ?_
            refine mt_ireturn dX2_isWeaveSound_135 rfl rfl (Nat.le_of_ble_eq_true rfl) (Nat.le_of_ble_eq_true rfl) ?_
            exact cOk.of (x := .int (nI 1)) (S' := (S.1, S.2.1, S.2.2.1, S.2.2.2.1, S.2.2.2.2)) ((congrArg (a₂ := true) (fun b => ((0 : Nat), Value.int (mb b), S)) (by simp [q_weaveSound, q7, q14, decide_eq_false q19, decide_eq_true q46, decide_eq_true q52]))) rfl rfl ⟨(c43f (0) (by omega)).trans ((c35d (0) (by omega)).trans ((c29d (0) (by omega)).trans ((c23d (0) (by omega)).trans C0))), ⟨cg, (c43f (1) (by omega)).trans ((c35d (1) (by omega)).trans ((c29d (1) (by omega)).trans ((c23d (1) (by omega)).trans C1))), C1g⟩, (c43f (14) (by omega)).trans ((c35d (14) (by omega)).trans ((c29d (14) (by omega)).trans ((c23d (14) (by omega)).trans C14))), cRows0 CR (fun j j1 j2 => (c43f j (by omega)).trans ((c35d j (by omega)).trans ((c29d j (by omega)).trans (c23d j (by omega))))), ⟨_, c43c⟩, ⟨_, (H38).fr (fun j j1 j2 => c43f j (by omega))⟩, ⟨_, H47⟩, ⟨_, c43d⟩⟩ (fun j hj => (c43f j (by omega)).trans ((c35d j (by omega)).trans ((c29d j (by omega)).trans (c23d j (by omega)))))
      · have q19 := Int32.not_le.mp q19
        have q19 := (nI_ltI (by omega) (by omega)).mp q19
        refine mt_iconst dX2_isWeaveSound_25 (v := nI 1) rfl ?_
        refine mt_ireturn dX2_isWeaveSound_26 rfl rfl (Nat.le_of_ble_eq_true rfl) (Nat.le_of_ble_eq_true rfl) ?_
        exact cOk.of (x := .int (nI 1)) (S' := (S.1, S.2.1, S.2.2.1, S.2.2.2.1, S.2.2.2.2)) ((congrArg (a₂ := true) (fun b => ((0 : Nat), Value.int (mb b), S)) (by simp [q_weaveSound, q7, q14, decide_eq_true q19]))) rfl rfl ⟨C0, ⟨cg, C1, C1g⟩, C14, CR, ⟨_, HK15⟩, ⟨_, HK18⟩, ⟨_, HK21⟩, ⟨_, HK24⟩⟩ (fun j hj => rfl)
def q_sound (S : cS) : Bool := mall (fun i => q_rowSound (S.1 i)) (4 - 0) 0 && q_weaveSound (S.1 0) (S.1 1) (rroom 0)
abbrev rX2_isSound : Room := { frames := 6, cells := 0, slots := 0, locals := 146 }
set_option maxRecDepth 100000 in
set_option maxHeartbeats 2000000 in
theorem tX2_isSound_2 {l : Launch} {K : mK} {n : Nat} {S : cS} {r : Bool} {h0 : mH} (hl : l.stackTraces = false) (kk0 : ∀ (i : Nat) (h : mH), (cAt h S) → (∀ j, 27 ≤ j → h j = h0 j) → (r = true) → mT l mX2_isSound rX2_isSound K 32 [.ref 0, .int (nI i)] [] h n 0 0) (kk1 : ∀ (i : Nat) (h : mH), (cAt h S) → (∀ j, 27 ≤ j → h j = h0 j) → (r = false) → mT l mX2_isSound rX2_isSound K 24 [.ref 0, .int (nI i)] [] h n 0 0) : ∀ (N0 : Nat) (i : Nat) (h : mH), (4 - i) < N0 → (cAt h S) → (∀ j, 27 ≤ j → h j = h0 j) → (mall (fun i => q_rowSound (S.1 i)) (4 - i) i = r) → (i ≤ 4) → mT l mX2_isSound rX2_isSound K 2 [.ref 0, .int (nI i)] [] h n 0 0 := by
  intro N0
  induction N0 with
  | zero => intro i h hm; exact absurd hm (Nat.not_lt_zero _)
  | succ N0 ih =>
    intro i h hm C hfr hr hi
    obtain ⟨C0_1, ⟨cg_1, C1_1, C1g_1⟩, C14_1, CR_1, ⟨zs15_1, HK15_1⟩, ⟨zs18_1, HK18_1⟩, ⟨zs21_1, HK21_1⟩, ⟨zs24_1, HK24_1⟩⟩ := id C
    refine mt_iload_n dX2_isSound_2 rfl ?_
    refine mt_aload_n dX2_isSound_3 rfl rfl ?_
    refine mt_getfield mKX2 (i := 0) (by decide) mw_112 dX2_isSound_4 C0_1 rfl ?_
    refine mt_alenq dX2_isSound_7 C1_1 (fun _ => rfl) ?_
    refine mt_icmp_ge dX2_isSound_8 (tgt := 32) rfl (fun q2 => ?_) (fun q2 => ?_)
    · have q2 := Int32.not_lt.mpr q2
      have q2 := (not_congr (nI_ltI (by omega) (by omega))).mp q2
      exact kk0 i h C hfr (((mall_end (p := fun i => q_rowSound (S.1 i)) (by omega)).symm.trans hr).symm)
    · have q2 := Int32.not_le.mp q2
      have q2 := (nI_ltI (by omega) (by omega)).mp q2
      refine mt_aload_n dX2_isSound_11 rfl rfl ?_
      refine mt_aload_n dX2_isSound_12 rfl rfl ?_
      refine mt_getfield mKX2 (i := 0) (by decide) mw_112 dX2_isSound_13 C0_1 rfl ?_
      refine mt_iload_n dX2_isSound_16 rfl ?_
      refine mp_aaload dX2_isSound_17 C1_1 (fun _ => rfl) rfl rfl (by omega) (by omega) (v := .ref (2 + 3 * i)) (by rw [C1g_1 _ (by omega)]; rfl) ?_
      refine mt_callV (N := mX2_isRowSound) (Rc := rX2_isRowSound) (As := [.ref (2 + 3 * i)]) (st := []) dX2_isSound_18 (kX2_isRowSound hl C (by omega)) sX2_isRowSound mw_139 mKX2 rfl C0_1 rfl (Nat.le_of_ble_eq_true rfl) ⟨⟨Nat.le_of_ble_eq_true rfl, Nat.le_of_ble_eq_true rfl⟩, Nat.le_of_ble_eq_true rfl, Nat.le_of_ble_eq_true rfl⟩ (fun v3 h4 n5 c6 => ?_) (fun _ _ _ hx => hx.elim)
      obtain ⟨-, c6a, c6b, c6c, c6d⟩ := c6
      rw [c6a, c6b]
      obtain ⟨C0_7, ⟨cg_7, C1_7, C1g_7⟩, C14_7, CR_7, ⟨zs15_7, HK15_7⟩, ⟨zs18_7, HK18_7⟩, ⟨zs21_7, HK21_7⟩, ⟨zs24_7, HK24_7⟩⟩ := id c6c
      show mT _ _ _ _ 21 [.ref 0, .int (nI i)] [.int (mb (q_rowSound (S.1 i)))] _ _ _ _
      refine mt_if_ne dX2_isSound_21 (tgt := 26) rfl (fun q8 => ?_) (fun q8 => ?_)
      · have q8 : (q_rowSound (S.1 i)) = true := mb_1.mp q8
        refine mp_iinc dX2_isSound_26 rfl (v := nI (i + 1)) mI_inc (ls' := [.ref 0, .int (nI (i + 1))]) rfl (by decide) rfl ?_
        refine mt_goto dX2_isSound_29 (tgt := 2) rfl ?_
        exact ih (i + 1) h4 (by omega) c6c (fun j hj => (c6d j (by omega)).trans (hfr j hj)) ((mall_go (p := fun i => q_rowSound (S.1 i)) (by omega) q8).symm.trans hr) (by omega)
      · have q8 : (q_rowSound (S.1 i)) = false := mb_0.mp q8
        exact kk1 i h4 c6c (fun j hj => (c6d j (by omega)).trans (hfr j hj)) (((mall_no (p := fun i => q_rowSound (S.1 i)) (by omega) q8).symm.trans hr).symm)
set_option maxRecDepth 100000 in
set_option maxHeartbeats 2000000 in
theorem kX2_isSound {l : Launch} (hl : l.stackTraces = false) {h : mH} {n : Nat} {S : cS} (C : cAt h S) : mC l mX2_isSound rX2_isSound [.ref 0] h n (cOk ((0 : Nat), Value.int (mb (q_sound S)), S) h n) (mNX) := by
  obtain ⟨C0_1, ⟨cg_1, C1_1, C1g_1⟩, C14_1, CR_1, ⟨zs15_1, HK15_1⟩, ⟨zs18_1, HK18_1⟩, ⟨zs21_1, HK21_1⟩, ⟨zs24_1, HK24_1⟩⟩ := id C
  refine mm_enter hl (by decide +kernel) rfl rfl rfl (Nat.le_of_ble_eq_true rfl) ?_
  show mT _ _ _ _ 0 [.ref 0, .double 0] [] _ _ 0 0
  refine mt_iconst dX2_isSound_0 (v := nI 0) rfl ?_
  refine mp_istore_n dX2_isSound_1 (ls' := [.ref 0, .int (nI 0)]) rfl (by decide) rfl ?_
  refine tX2_isSound_2 hl (fun i_2 h_3 z4 z5 z6 => ?_) (fun i_7 h_8 z9 z10 z11 => ?_) _ 0 h (Nat.lt_succ_self _) C (fun _ _ => rfl) rfl (by omega)
  obtain ⟨C0_12, ⟨cg_12, C1_12, C1g_12⟩, C14_12, CR_12, ⟨zs15_12, HK15_12⟩, ⟨zs18_12, HK18_12⟩, ⟨zs21_12, HK21_12⟩, ⟨zs24_12, HK24_12⟩⟩ := id z4
  · refine mt_aload_n dX2_isSound_32 rfl rfl ?_
    refine mt_aload_n dX2_isSound_33 rfl rfl ?_
    refine mt_getfield mKX2 (i := 0) (by decide) mw_112 dX2_isSound_34 C0_12 rfl ?_
    refine mt_iconst dX2_isSound_37 (v := nI 0) rfl ?_
    refine mp_aaload dX2_isSound_38 C1_12 (fun _ => rfl) rfl rfl (by omega) (by omega) (v := .ref (2 + 3 * 0)) (by rw [C1g_12 _ (by omega)]; rfl) ?_
    refine mt_aload_n dX2_isSound_39 rfl rfl ?_
    refine mt_getfield mKX2 (i := 0) (by decide) mw_112 dX2_isSound_40 C0_12 rfl ?_
    refine mt_iconst dX2_isSound_43 (v := nI 1) rfl ?_
    refine mp_aaload dX2_isSound_44 C1_12 (fun _ => rfl) rfl rfl (by omega) (by omega) (v := .ref (2 + 3 * 1)) (by rw [C1g_12 _ (by omega)]; rfl) ?_
    refine mt_callV (N := mX2_isWeaveSound) (Rc := rX2_isWeaveSound) (As := [.ref (2 + 3 * 0), .ref (2 + 3 * 1)]) (st := []) dX2_isSound_45 (kX2_isWeaveSound hl z4) sX2_isWeaveSound mw_202 mKX2 rfl C0_12 rfl (Nat.le_of_ble_eq_true rfl) ⟨⟨Nat.le_of_ble_eq_true rfl, Nat.le_of_ble_eq_true rfl⟩, Nat.le_of_ble_eq_true rfl, Nat.le_of_ble_eq_true rfl⟩ (fun v13 h14 n15 c16 => ?_) (fun _ _ _ hx => hx.elim)
    obtain ⟨-, c16a, c16b, c16c, c16d⟩ := c16
    rw [c16a, c16b]
    obtain ⟨C0_17, ⟨cg_17, C1_17, C1g_17⟩, C14_17, CR_17, ⟨zs15_17, HK15_17⟩, ⟨zs18_17, HK18_17⟩, ⟨zs21_17, HK21_17⟩, ⟨zs24_17, HK24_17⟩⟩ := id c16c
    show mT _ _ _ _ 48 [.ref 0, .int (nI i_2)] [.int (mb (q_weaveSound (S.1 0) (S.1 1) (rroom 0)))] _ _ _ _
    refine mt_ireturn dX2_isSound_48 rfl narrow_mb (Nat.le_of_ble_eq_true rfl) (Nat.le_of_ble_eq_true rfl) ?_
    exact cOk.of (x := .int (mb (q_weaveSound (S.1 0) (S.1 1) (rroom 0)))) (S' := S) (congrArg (fun b => ((0 : Nat), Value.int (mb b), S)) (by simp only [q_sound, z6, Bool.false_and, Bool.true_and])) rfl rfl c16c (fun j hj => (c16d j hj).trans (z5 j hj))
  obtain ⟨C0_18, ⟨cg_18, C1_18, C1g_18⟩, C14_18, CR_18, ⟨zs15_18, HK15_18⟩, ⟨zs18_18, HK18_18⟩, ⟨zs21_18, HK21_18⟩, ⟨zs24_18, HK24_18⟩⟩ := id z9
  · refine mt_iconst dX2_isSound_24 (v := nI 0) rfl ?_
    refine mt_ireturn dX2_isSound_25 rfl rfl (Nat.le_of_ble_eq_true rfl) (Nat.le_of_ble_eq_true rfl) ?_
    exact cOk.of (x := .int (mb (false))) (S' := S) (congrArg (fun b => ((0 : Nat), Value.int (mb b), S)) (by simp only [q_sound, z11, Bool.false_and, Bool.true_and])) rfl rfl z9 (fun j hj => z10 j hj)
abbrev rX2_init : Room := { frames := 3, cells := 26, slots := 5160, locals := 63 }
def cS0 : cS := (fun _ => [], nI 0, nI 0, nI 0, nI 0)
set_option maxRecDepth 100000 in
set_option maxHeartbeats 2000000 in
theorem kX2_init {l : Launch} (hl : l.stackTraces = false) {h : mH} (H : h 0 = .inr (.inr (4, [.null, .null, .int (nI 0), .int (nI 0), .int (nI 0), .int (nI 0)]))) : mC l mX2_init rX2_init [.ref 0] h 1 (fun v h' n' => v = none ∧ n' = 27 ∧ cAt h' cS0) (mNX) := by
  refine mm_enter hl (by decide +kernel) rfl rfl rfl (Nat.le_of_ble_eq_true rfl) ?_
  show mT _ _ _ _ 0 [.ref 0] [] _ _ 0 0
  refine mt_aload_n dX2_init_0 rfl rfl ?_
  refine mt_objInit dX2_init_1 mw_57 mw_58 mw_59 (Nat.le_of_ble_eq_true rfl) ⟨Nat.le_of_ble_eq_true rfl, Nat.le_of_ble_eq_true rfl⟩ ?_
  refine mt_aload_n dX2_init_4 rfl rfl ?_
  refine mt_iconst dX2_init_5 (v := nI 4) rfl ?_
  refine mp_anewrow dX2_init_6 mw_60 rfl (by omega) (by simp only [rX2_init]; omega) (by simp only [rX2_init]; omega) (fun h1 e2 f3 => ?_)
  refine mp_putfinal mKX2 (i := 0) (fs' := [.ref 1, .null, .int (nI 0), .int (nI 0), .int (nI 0), .int (nI 0)]) (by decide) mw_112 rfl rfl rfl dX2_init_9 ((f3 (0) (by omega)).trans H) (Nat.le_of_ble_eq_true rfl) rfl rfl (fun h4 e5 f6 => ?_)
  refine mt_aload_n dX2_init_12 rfl rfl ?_
  refine mt_getfield mKX2 (i := 0) (by decide) mw_112 dX2_init_13 e5 rfl ?_
  refine mt_iconst dX2_init_16 (v := nI 0) rfl ?_
  refine mp_new mKX1 dX2_init_17 mw_60 mw_62 mw_32 (fs := [.null, .null, .int (nI 0), .int (nI 0)]) mDX1 (mdf_ok rfl) (by simp only [rX2_init]; omega) (by simp only [rX2_init]; omega) (fun h7 e8 f9 => ?_)
  refine mt_dup dX2_init_20 rfl ?_
  refine mt_sipush dX2_init_21 (v := nI 150) (by decide) ?_
  refine mt_iconst dX2_init_24 (v := nI 1) rfl ?_
  refine mt_callI (N := mX1_init) (Rc := rX1_init) (As := [.int (nI 150), .int (nI 1)]) (st := [.ref 2, .int (nI 0), .ref 1]) dX2_init_25 (kX1_init hl e8 (by decide) rfl) sX1_init mw_63 rfl (Nat.le_of_ble_eq_true rfl) ⟨⟨Nat.le_of_ble_eq_true rfl, Nat.le_of_ble_eq_true rfl⟩, Nat.le_of_ble_eq_true rfl, Nat.le_of_ble_eq_true rfl⟩ (fun v10 h11 n12 c13 => ?_)
  obtain ⟨c13a, c13b, c13c, c13d⟩ := c13
  rw [c13a, c13b]
  show mT _ _ _ _ 28 [.ref 0] [.ref 2, .int (nI 0), .ref 1] _ _ _ _
  obtain ⟨f_14, g_14, ea_14, ek_14, es_14, ql_14, qr_14, qk_14, qt_14⟩ := id c13c
  refine mp_aastoreR dX2_init_28 ((c13d (1) (by omega)).trans ((f9 (1) (by omega)).trans ((f6 (1) (by omega)).trans e2))) ea_14 rfl (by omega) (by omega) (fun h15 e16 f17 => ?_)
  refine mt_aload_n dX2_init_29 rfl rfl ?_
  refine mt_getfield mKX2 (i := 0) (by decide) mw_112 dX2_init_30 ((f17 (0) (by omega)).trans ((c13d (0) (by omega)).trans ((f9 (0) (by omega)).trans e5))) rfl ?_
  refine mt_iconst dX2_init_33 (v := nI 1) rfl ?_
  refine mp_new mKX1 dX2_init_34 mw_60 mw_62 mw_32 (fs := [.null, .null, .int (nI 0), .int (nI 0)]) mDX1 (mdf_ok rfl) (by simp only [rX2_init]; omega) (by simp only [rX2_init]; omega) (fun h18 e19 f20 => ?_)
  refine mt_dup dX2_init_37 rfl ?_
  refine mt_sipush dX2_init_38 (v := nI 150) (by decide) ?_
  refine mt_iconst dX2_init_41 (v := nI 1) rfl ?_
  refine mt_callI (N := mX1_init) (Rc := rX1_init) (As := [.int (nI 150), .int (nI 1)]) (st := [.ref 5, .int (nI 1), .ref 1]) dX2_init_42 (kX1_init hl e19 (by decide) rfl) sX1_init mw_63 rfl (Nat.le_of_ble_eq_true rfl) ⟨⟨Nat.le_of_ble_eq_true rfl, Nat.le_of_ble_eq_true rfl⟩, Nat.le_of_ble_eq_true rfl, Nat.le_of_ble_eq_true rfl⟩ (fun v21 h22 n23 c24 => ?_)
  obtain ⟨c24a, c24b, c24c, c24d⟩ := c24
  rw [c24a, c24b]
  show mT _ _ _ _ 45 [.ref 0] [.ref 5, .int (nI 1), .ref 1] _ _ _ _
  obtain ⟨f_25, g_25, ea_25, ek_25, es_25, ql_25, qr_25, qk_25, qt_25⟩ := id c24c
  refine mp_aastoreR dX2_init_45 ((c24d (1) (by omega)).trans ((f20 (1) (by omega)).trans e16)) ea_25 rfl (by omega) (by omega) (fun h26 e27 f28 => ?_)
  refine mt_aload_n dX2_init_46 rfl rfl ?_
  refine mt_getfield mKX2 (i := 0) (by decide) mw_112 dX2_init_47 ((f28 (0) (by omega)).trans ((c24d (0) (by omega)).trans ((f20 (0) (by omega)).trans ((f17 (0) (by omega)).trans ((c13d (0) (by omega)).trans ((f9 (0) (by omega)).trans e5)))))) rfl ?_
  refine mt_iconst dX2_init_50 (v := nI 2) rfl ?_
  refine mp_new mKX1 dX2_init_51 mw_60 mw_62 mw_32 (fs := [.null, .null, .int (nI 0), .int (nI 0)]) mDX1 (mdf_ok rfl) (by simp only [rX2_init]; omega) (by simp only [rX2_init]; omega) (fun h29 e30 f31 => ?_)
  refine mt_dup dX2_init_54 rfl ?_
  refine mt_sipush dX2_init_55 (v := nI 150) (by decide) ?_
  refine mt_iconst dX2_init_58 (v := nI 0) rfl ?_
  refine mt_callI (N := mX1_init) (Rc := rX1_init) (As := [.int (nI 150), .int (nI 0)]) (st := [.ref 8, .int (nI 2), .ref 1]) dX2_init_59 (kX1_init hl e30 (by decide) rfl) sX1_init mw_63 rfl (Nat.le_of_ble_eq_true rfl) ⟨⟨Nat.le_of_ble_eq_true rfl, Nat.le_of_ble_eq_true rfl⟩, Nat.le_of_ble_eq_true rfl, Nat.le_of_ble_eq_true rfl⟩ (fun v32 h33 n34 c35 => ?_)
  obtain ⟨c35a, c35b, c35c, c35d⟩ := c35
  rw [c35a, c35b]
  show mT _ _ _ _ 62 [.ref 0] [.ref 8, .int (nI 2), .ref 1] _ _ _ _
  obtain ⟨f_36, g_36, ea_36, ek_36, es_36, ql_36, qr_36, qk_36, qt_36⟩ := id c35c
  refine mp_aastoreR dX2_init_62 ((c35d (1) (by omega)).trans ((f31 (1) (by omega)).trans e27)) ea_36 rfl (by omega) (by omega) (fun h37 e38 f39 => ?_)
  refine mt_aload_n dX2_init_63 rfl rfl ?_
  refine mt_getfield mKX2 (i := 0) (by decide) mw_112 dX2_init_64 ((f39 (0) (by omega)).trans ((c35d (0) (by omega)).trans ((f31 (0) (by omega)).trans ((f28 (0) (by omega)).trans ((c24d (0) (by omega)).trans ((f20 (0) (by omega)).trans ((f17 (0) (by omega)).trans ((c13d (0) (by omega)).trans ((f9 (0) (by omega)).trans e5))))))))) rfl ?_
  refine mt_iconst dX2_init_67 (v := nI 3) rfl ?_
  refine mp_new mKX1 dX2_init_68 mw_60 mw_62 mw_32 (fs := [.null, .null, .int (nI 0), .int (nI 0)]) mDX1 (mdf_ok rfl) (by simp only [rX2_init]; omega) (by simp only [rX2_init]; omega) (fun h40 e41 f42 => ?_)
  refine mt_dup dX2_init_71 rfl ?_
  refine mt_sipush dX2_init_72 (v := nI 320) (by decide) ?_
  refine mt_iconst dX2_init_75 (v := nI 0) rfl ?_
  refine mt_callI (N := mX1_init) (Rc := rX1_init) (As := [.int (nI 320), .int (nI 0)]) (st := [.ref 11, .int (nI 3), .ref 1]) dX2_init_76 (kX1_init hl e41 (by decide) rfl) sX1_init mw_63 rfl (Nat.le_of_ble_eq_true rfl) ⟨⟨Nat.le_of_ble_eq_true rfl, Nat.le_of_ble_eq_true rfl⟩, Nat.le_of_ble_eq_true rfl, Nat.le_of_ble_eq_true rfl⟩ (fun v43 h44 n45 c46 => ?_)
  obtain ⟨c46a, c46b, c46c, c46d⟩ := c46
  rw [c46a, c46b]
  show mT _ _ _ _ 79 [.ref 0] [.ref 11, .int (nI 3), .ref 1] _ _ _ _
  obtain ⟨f_47, g_47, ea_47, ek_47, es_47, ql_47, qr_47, qk_47, qt_47⟩ := id c46c
  refine mp_aastoreR dX2_init_79 ((c46d (1) (by omega)).trans ((f42 (1) (by omega)).trans e38)) ea_47 rfl (by omega) (by omega) (fun h48 e49 f50 => ?_)
  refine mt_aload_n dX2_init_80 rfl rfl ?_
  refine mp_new mKX0 dX2_init_81 mw_88 mw_89 mw_33 (fs := [.null, .null, .null, .null]) mDX0 (mdf_ok rfl) (by simp only [rX2_init]; omega) (by simp only [rX2_init]; omega) (fun h51 e52 f53 => ?_)
  refine mt_dup dX2_init_84 rfl ?_
  refine mt_sipush dX2_init_85 (v := nI 320) (by decide) ?_
  refine mt_callI (N := mX0_init) (Rc := rX0_init) (As := [.int (nI 320)]) (st := [.ref 14, .ref 0]) dX2_init_88 (kX0_init hl e52) sX0_init mw_90 rfl (Nat.le_of_ble_eq_true rfl) ⟨⟨Nat.le_of_ble_eq_true rfl, Nat.le_of_ble_eq_true rfl⟩, Nat.le_of_ble_eq_true rfl, Nat.le_of_ble_eq_true rfl⟩ (fun v54 h55 n56 c57 => ?_)
  obtain ⟨c57a, c57b, c57c, c57d, c57e, c57f, c57g, c57i⟩ := c57
  rw [c57a, c57b]
  show mT _ _ _ _ 91 [.ref 0] [.ref 14, .ref 0] _ _ _ _
  refine mp_putfinal mKX2 (i := 1) (fs' := [.ref 1, .ref 14, .int (nI 0), .int (nI 0), .int (nI 0), .int (nI 0)]) (by decide) mw_113 rfl rfl rfl dX2_init_91 ((c57i (0) (by omega)).trans ((f53 (0) (by omega)).trans ((f50 (0) (by omega)).trans ((c46d (0) (by omega)).trans ((f42 (0) (by omega)).trans ((f39 (0) (by omega)).trans ((c35d (0) (by omega)).trans ((f31 (0) (by omega)).trans ((f28 (0) (by omega)).trans ((c24d (0) (by omega)).trans ((f20 (0) (by omega)).trans ((f17 (0) (by omega)).trans ((c13d (0) (by omega)).trans ((f9 (0) (by omega)).trans e5)))))))))))))) (Nat.le_of_ble_eq_true rfl) rfl rfl (fun h58 e59 f60 => ?_)
  refine mt_return dX2_init_94 rfl (by simp only [rX2_init]; omega) (by simp only [rX2_init]; omega) ?_
  have H61 : rowAt h58 2 150 (nI 1) ([]) := (((((((((((((c13c).fr (fun j j1 j2 => f17 j (by omega))).fr (fun j j1 j2 => f20 j (by omega))).fr (fun j j1 j2 => c24d j (by omega))).fr (fun j j1 j2 => f28 j (by omega))).fr (fun j j1 j2 => f31 j (by omega))).fr (fun j j1 j2 => c35d j (by omega))).fr (fun j j1 j2 => f39 j (by omega))).fr (fun j j1 j2 => f42 j (by omega))).fr (fun j j1 j2 => c46d j (by omega))).fr (fun j j1 j2 => f50 j (by omega))).fr (fun j j1 j2 => f53 j (by omega))).fr (fun j j1 j2 => c57i j (by omega))).fr (fun j j1 j2 => f60 j (by omega))
  have H62 : rowAt h58 5 150 (nI 1) ([]) := ((((((((((c24c).fr (fun j j1 j2 => f28 j (by omega))).fr (fun j j1 j2 => f31 j (by omega))).fr (fun j j1 j2 => c35d j (by omega))).fr (fun j j1 j2 => f39 j (by omega))).fr (fun j j1 j2 => f42 j (by omega))).fr (fun j j1 j2 => c46d j (by omega))).fr (fun j j1 j2 => f50 j (by omega))).fr (fun j j1 j2 => f53 j (by omega))).fr (fun j j1 j2 => c57i j (by omega))).fr (fun j j1 j2 => f60 j (by omega))
  have H63 : rowAt h58 8 150 (nI 0) ([]) := (((((((c35c).fr (fun j j1 j2 => f39 j (by omega))).fr (fun j j1 j2 => f42 j (by omega))).fr (fun j j1 j2 => c46d j (by omega))).fr (fun j j1 j2 => f50 j (by omega))).fr (fun j j1 j2 => f53 j (by omega))).fr (fun j j1 j2 => c57i j (by omega))).fr (fun j j1 j2 => f60 j (by omega))
  have H64 : rowAt h58 11 320 (nI 0) ([]) := ((((c46c).fr (fun j j1 j2 => f50 j (by omega))).fr (fun j j1 j2 => f53 j (by omega))).fr (fun j j1 j2 => c57i j (by omega))).fr (fun j j1 j2 => f60 j (by omega))
  exact ⟨rfl, rfl, e59, ⟨_, (f60 (1) (by omega)).trans ((c57i (1) (by omega)).trans ((f53 (1) (by omega)).trans e49)), fun r hr => (by
    obtain rfl | rfl | rfl | rfl : r = 0 ∨ r = 1 ∨ r = 2 ∨ r = 3 := by omega
    all_goals rfl)⟩, (f60 (14) (by omega)).trans c57c, fun r hr => (by
    obtain rfl | rfl | rfl | rfl : r = 0 ∨ r = 1 ∨ r = 2 ∨ r = 3 := by omega
    · exact H61
    · exact H62
    · exact H63
    · exact H64), ⟨_, (c57d).fr (fun j j1 j2 => f60 j (by omega))⟩, ⟨_, (c57e).fr (fun j j1 j2 => f60 j (by omega))⟩, ⟨_, (c57f).fr (fun j j1 j2 => f60 j (by omega))⟩, ⟨_, (c57g).fr (fun j j1 j2 => f60 j (by omega))⟩⟩
