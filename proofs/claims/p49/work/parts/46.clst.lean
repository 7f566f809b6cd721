/-! ===== the empty text: the class ===== -/
abbrev rX2_text : Room := { frames := 7, cells := 20, slots := 2000, locals := 141 }
set_option maxRecDepth 100000 in
set_option maxHeartbeats 2000000 in
theorem kX2_text {l : Launch} (hl : l.stackTraces = false) {h : mH} {n : Nat} {S : cS} {r : Nat} (C : cAt h S) (hn : 27 ≤ n) (hr : r < 4) : mC l mX2_text rX2_text [.ref 0, .int (nI r), .int (nI 0), .int (nI 0)] h n (fun v h' n' => ∃ p, v = some (.ref p) ∧ n ≤ n' ∧ (∃ k g x y, h' p = .inr (.inr (0, [.ref k, .int (nI 0), x, y])) ∧ h' k = .inl (1, 0, g)) ∧ ∀ j, j < n → h' j = h j) (mNX) := by
  obtain ⟨C0, ⟨cg, C1, C1g⟩, C14, CR, ⟨zs15, HK15⟩, ⟨zs18, HK18⟩, ⟨zs21, HK21⟩, ⟨zs24, HK24⟩⟩ := id C
  refine mm_enter hl (by decide +kernel) rfl rfl rfl (Nat.le_of_ble_eq_true rfl) ?_
  show mT _ _ _ _ 0 [.ref 0, .int (nI r), .int (nI 0), .int (nI 0), .double 0, .double 0, .double 0, .double 0] [] _ _ 0 0
  refine mt_aload_n dX2_text_0 rfl rfl ?_
  refine mt_iload_n dX2_text_1 rfl ?_
  refine mt_callV (N := mX2_rowOf) (Rc := rX2_rowOf) (As := [.int (nI r)]) (st := []) dX2_text_2 (kX2_rowOf hl C) sX2_rowOf mw_217 mKX2 rfl C0 rfl (Nat.le_of_ble_eq_true rfl) ⟨⟨Nat.le_of_ble_eq_true rfl, Nat.le_of_ble_eq_true rfl⟩, Nat.le_of_ble_eq_true rfl, Nat.le_of_ble_eq_true rfl⟩ (fun v1 h2 n3 c4 => ?_) (fun E h9 n9 hx => by obtain ⟨-, hq, -, -⟩ := hx; rw [inN_some hr (by decide)] at hq; cases hq)
  obtain ⟨r9, hr9, e9, c4a, c4b, c4c⟩ := c4
  obtain rfl : r9 = r := ((nI_eq (by omega) (by omega)).mp e9).symm
  rw [c4a, c4b, c4c]
  have hLr := (CR r9 hr9).len
  show mT _ _ _ _ 5 [.ref 0, .int (nI r9), .int (nI 0), .int (nI 0), .double 0, .double 0, .double 0, .double 0] [.ref (2 + 3 * r9)] _ _ _ _
  refine mp_astore dX2_text_5 (ls' := [.ref 0, .int (nI r9), .int (nI 0), .int (nI 0), .ref (2 + 3 * r9), .double 0, .double 0, .double 0]) rfl rfl (by decide) rfl ?_
  refine mt_iload_n dX2_text_7 rfl ?_
  refine mt_if_lt dX2_text_8 (tgt := 24) rfl (fun q5 => ?_) (fun q5 => ?_)
  · have q5 := (mI_lt0 (by omega)).mp q5
    exact absurd q5 (by decide)
  · have q5 := (not_congr (mI_lt0 (by omega))).mp q5
    refine mt_iload_n dX2_text_11 rfl ?_
    refine mt_aload dX2_text_12 rfl rfl ?_
    obtain ⟨f_6, g_6, ea_6, ek_6, es_6, ql_6, qr_6, qk_6, qt_6⟩ := id CR r9 (by omega)
    refine mt_getfield mKX1 (i := 3) (by decide) mw_59 dX2_text_14 ea_6 rfl ?_
    refine mt_icmp_gt dX2_text_17 (tgt := 24) rfl (fun q7 => ?_) (fun q7 => ?_)
    · have q7 := (nI_ltI (by omega) (by omega)).mp q7
      exfalso
      omega
    · have q7 := (not_congr (nI_ltI (by omega) (by omega))).mp q7
      refine mt_iconst dX2_text_20 (v := nI 1) rfl ?_
      refine mt_goto dX2_text_21 (tgt := 25) rfl ?_
      refine mt_callS (N := mX2_demandWithin) (Rc := rX2_demandWithin) (As := [.int (nI 1)]) (st := []) dX2_text_25 (kX2_demandWithin_t hl) sX2_demandWithin mw_362 rfl (Nat.le_of_ble_eq_true rfl) ⟨⟨Nat.le_of_ble_eq_true rfl, Nat.le_of_ble_eq_true rfl⟩, Nat.le_of_ble_eq_true rfl, Nat.le_of_ble_eq_true rfl⟩ (fun v8 h9 n10 c11 => ?_) (fun _ _ _ hx => hx.elim)
      obtain ⟨c11a, c11b, c11c⟩ := c11
      rw [c11a, c11b, c11c]
      show mT _ _ _ _ 28 [.ref 0, .int (nI r9), .int (nI 0), .int (nI 0), .ref (2 + 3 * r9), .double 0, .double 0, .double 0] [] _ _ _ _
      refine mt_iload_n dX2_text_28 rfl ?_
      refine mt_if_lt dX2_text_29 (tgt := 42) rfl (fun q12 => ?_) (fun q12 => ?_)
      · have q12 := (mI_lt0 (by omega)).mp q12
        exact absurd q12 (by decide)
      · have q12 := (not_congr (mI_lt0 (by omega))).mp q12
        refine mt_iload_n dX2_text_32 rfl ?_
        refine mt_bipush dX2_text_33 (v := nI 20) (by decide) ?_
        refine mt_icmp_gt dX2_text_35 (tgt := 42) rfl (fun q13 => ?_) (fun q13 => ?_)
        · have q13 := (nI_ltI (by omega) (by omega)).mp q13
          exact absurd q13 (by decide)
        · have q13 := (not_congr (nI_ltI (by omega) (by omega))).mp q13
          refine mt_iconst dX2_text_38 (v := nI 1) rfl ?_
          refine mt_goto dX2_text_39 (tgt := 43) rfl ?_
          refine mt_callS (N := mX2_demand) (Rc := rX2_demand) (As := [.int (nI 1)]) (st := []) dX2_text_43 (kX2_demand_t hl) sX2_demand mw_296 rfl (Nat.le_of_ble_eq_true rfl) ⟨⟨Nat.le_of_ble_eq_true rfl, Nat.le_of_ble_eq_true rfl⟩, Nat.le_of_ble_eq_true rfl, Nat.le_of_ble_eq_true rfl⟩ (fun v14 h15 n16 c17 => ?_) (fun _ _ _ hx => hx.elim)
          obtain ⟨c17a, c17b, c17c⟩ := c17
          rw [c17a, c17b, c17c]
          show mT _ _ _ _ 46 [.ref 0, .int (nI r9), .int (nI 0), .int (nI 0), .ref (2 + 3 * r9), .double 0, .double 0, .double 0] [] _ _ _ _
          refine mt_iload_n dX2_text_46 rfl ?_
          refine mt_iload_n dX2_text_47 rfl ?_
          refine mp_iadd dX2_text_48 (v := nI (0 + 0)) (nI_add _ _) ?_
          refine mt_aload dX2_text_49 rfl rfl ?_
          refine mt_getfield mKX1 (i := 3) (by decide) mw_59 dX2_text_51 ea_6 rfl ?_
          refine mt_mmin dX2_text_54 mw_337 mw_131 mw_24 (mw_min) (Nat.le_of_ble_eq_true rfl) ⟨Nat.le_of_ble_eq_true rfl, Nat.le_of_ble_eq_true rfl⟩ (Nat.le_of_ble_eq_true rfl) (Nat.le_of_ble_eq_true rfl) (v := nI (min (0 + 0) ((S.1 r9).length))) (mI_min (by omega) (by omega)) ?_
          refine mp_istore dX2_text_57 (ls' := [.ref 0, .int (nI r9), .int (nI 0), .int (nI 0), .ref (2 + 3 * r9), .int (nI (min (0 + 0) ((S.1 r9).length))), .double 0, .double 0]) rfl (by decide) rfl ?_
          refine mp_new mKJ4 dX2_text_59 mw_607 mw_608 mw_27 (fs := [.null, .int (nI 0), .int (nI 0), .int (nI 0)]) mDJ4 (mdf_ok rfl) (Nat.le_of_ble_eq_true rfl) (Nat.le_of_ble_eq_true rfl) (fun h18 e19 f20 => ?_)
          refine mt_dup dX2_text_62 rfl ?_
          refine mt_callI (N := mJ4_init_da8c8) (Rc := rJ4_init_da8c8) (As := []) (st := [.ref n]) dX2_text_63 (kJ4_init_da8c8 hl e19 (by omega)) sJ4_init_da8c8 mw_609 rfl (Nat.le_of_ble_eq_true rfl) ⟨⟨Nat.le_of_ble_eq_true rfl, Nat.le_of_ble_eq_true rfl⟩, Nat.le_of_ble_eq_true rfl, Nat.le_of_ble_eq_true rfl⟩ (fun v21 h22 n23 c24 => ?_)
          obtain ⟨c24a, c24b, c24c, c24d⟩ := c24
          rw [c24a]
          obtain ⟨vz25, cz25, fz25, mz25, ez25, -⟩ := id c24c
          show mT _ _ _ _ 66 [.ref 0, .int (nI r9), .int (nI 0), .int (nI 0), .ref (2 + 3 * r9), .int (nI (min (0 + 0) ((S.1 r9).length))), .double 0, .double 0] [.ref n] _ _ _ _
          refine mp_astore dX2_text_66 (ls' := [.ref 0, .int (nI r9), .int (nI 0), .int (nI 0), .ref (2 + 3 * r9), .int (nI (min (0 + 0) ((S.1 r9).length))), .ref n, .double 0]) rfl rfl (by decide) rfl ?_
          refine mt_iload_n dX2_text_68 rfl ?_
          refine mp_istore dX2_text_69 (ls' := [.ref 0, .int (nI r9), .int (nI 0), .int (nI 0), .ref (2 + 3 * r9), .int (nI (min (0 + 0) ((S.1 r9).length))), .ref n, .int (nI 0)]) rfl (by decide) rfl ?_
          refine mt_iload dX2_text_71 rfl ?_
          refine mt_iload dX2_text_73 rfl ?_
          refine mt_icmp_ge dX2_text_75 (tgt := 112) rfl (fun q26 => ?_) (fun q26 => ?_)
          · have q26 := Int32.not_lt.mpr q26
            have q26 := (not_congr (nI_ltI (by omega) (by omega))).mp q26
            refine mt_aload dX2_text_112 rfl rfl ?_
            refine mt_callV (N := mJ4_toString_0e30d) (Rc := rJ4_toString_0e30d) (As := []) (st := []) dX2_text_114 (kJ4_toString_0e30d hl c24c) sJ4_toString_0e30d mw_761 mKJ4 rfl ez25 rfl (Nat.le_of_ble_eq_true rfl) ⟨⟨Nat.le_of_ble_eq_true rfl, Nat.le_of_ble_eq_true rfl⟩, Nat.le_of_ble_eq_true rfl, Nat.le_of_ble_eq_true rfl⟩ (fun v27 h28 n29 c30 => ?_) (fun _ _ _ hx => hx.elim)
            obtain ⟨c30a, c30b, c30c, c30d⟩ := c30
            rw [c30a]
            show mT _ _ _ _ 117 [.ref 0, .int (nI r9), .int (nI 0), .int (nI 0), .ref (2 + 3 * r9), .int (nI (min (0 + 0) ((S.1 r9).length))), .ref n, .int (nI 0)] [.ref n23] _ _ _ _
            refine mt_areturn dX2_text_117 rfl (by first | exact Or.inl ⟨_, rfl⟩ | exact Or.inr ⟨_, rfl⟩) rfl (Nat.le_of_ble_eq_true rfl) (Nat.le_of_ble_eq_true rfl) ?_
            exact ⟨_, rfl, by omega, c30c, fun j hj => (c30d j (by omega)).trans ((c24d j (by omega)).trans (f20 j (by omega)))⟩
          · have q26 := Int32.not_le.mp q26
            have q26 := (nI_ltI (by omega) (by omega)).mp q26
            exfalso
            omega
