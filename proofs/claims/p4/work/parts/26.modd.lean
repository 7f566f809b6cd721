/-! ===== the reference: what is asked ===== -/
abbrev rX4_many : Room := { frames := 2, cells := 0, slots := 0, locals := 42 }
set_option maxRecDepth 100000 in
set_option maxHeartbeats 2000000 in
theorem kX4_many {l : Launch} (hl : l.stackTraces = false) {h : mH} {n : Nat} {S : cS} {th : Int32} {row : Int32} (C : mAt h n S th) : mC l mX4_many rX4_many [.ref 27, .int row] h n (mOkq (sp_many S row) (.int (nI 0)) h n) (mNX) := by
  obtain ⟨C0, h39, kx, sx, HR⟩ := id C
  obtain ⟨⟨gk_1, G28_1, GK_1⟩, ⟨gs_1, G33_1, GS_1⟩, AK_1, AS_1, NE_1, NQ_1, LE_1⟩ := id HR
  refine mm_enter hl (by decide +kernel) rfl rfl rfl (Nat.le_of_ble_eq_true rfl) ?_
  show mT _ _ _ _ 0 [.ref 27, .int row] [] _ _ 0 0
  rcases hq2 : inN 4 row with _ | r3
  · refine mt_aload_n dX4_many_0 rfl rfl ?_
    refine mt_iload_n dX4_many_1 rfl ?_
    refine mt_callS (N := mX4_isRow) (Rc := rX4_isRow) (As := [.int row]) (st := [.ref 27]) dX4_many_2 (kX4_isRow hl) sX4_isRow mw_1083 rfl (Nat.le_of_ble_eq_true rfl) ⟨⟨Nat.le_of_ble_eq_true rfl, Nat.le_of_ble_eq_true rfl⟩, Nat.le_of_ble_eq_true rfl, Nat.le_of_ble_eq_true rfl⟩ (fun v4 h5 n6 c7 => ?_) (fun _ _ _ hx => hx.elim)
    obtain ⟨c7a, c7b, c7c⟩ := c7
    rw [show (inN 4 row).isSome = false from by rw [hq2]; rfl] at c7a
    rw [c7a, c7b, c7c]
    show mT _ _ _ _ 5 [.ref 27, .int row] [.int (nI 0), .ref 27] _ _ _ _
    refine mt_iconst dX4_many_5 (v := nI 1) rfl ?_
    refine mt_callV (N := mX4_isLet) (Rc := rX4_isLet) (As := [.int (nI 0), .int (nI 1)]) (st := []) dX4_many_6 (kX4_isLet (t := false) (f := true) hl C0) sX4_isLet mw_1092 mKX4 rfl C0 rfl (Nat.le_of_ble_eq_true rfl) ⟨⟨Nat.le_of_ble_eq_true rfl, Nat.le_of_ble_eq_true rfl⟩, Nat.le_of_ble_eq_true rfl, Nat.le_of_ble_eq_true rfl⟩ (fun v8 h9 n10 c11 => ?_) (fun _ _ _ hx => hx.elim)
    obtain ⟨c11a, c11b, c11c, c11d⟩ := c11
    rw [c11a, c11b]
    show mT _ _ _ _ 9 [.ref 27, .int row] [.int (nI 0)] _ _ _ _
    refine mt_if_eq dX4_many_9 (tgt := 22) rfl (fun q12 => ?_) (fun q12 => ?_)
    · have q12 := (mI_eq0 (by omega)).mp q12
      refine mt_iconst dX4_many_22 (v := nI 0) rfl ?_
      refine mt_ireturn dX4_many_23 rfl rfl (Nat.le_of_ble_eq_true rfl) (Nat.le_of_ble_eq_true rfl) ?_
      exact mOkq.no (k := 1) (S' := S) (by simp only [sp_many, dAt_n (k := 4) (x := row) hq2, if_pos q12]) (by decide) rfl (by omega) c11c (by omega) (mRows.fr (n' := n) HR (by omega) (fun j j1 j2 j3 => c11d (j) (by omega)) (by omega)) (fun j hj => c11d j (by omega))
    · have q12 := (not_congr (mI_eq0 (by omega))).mp q12
      exact absurd q12 (by decide)
  · obtain ⟨hr3, rfl⟩ := inN_of hq2 (by first | decide | omega)
    obtain ⟨⟨ka_13, kb_13, kc_13, kd_13⟩, kf_13, ke_13, kg_13⟩ := AK_1 r3 hr3
    obtain ⟨⟨sa_13, sb_13, sc_13, sd_13⟩, sf_13, se_13, sg_13⟩ := AS_1 r3 hr3
    have kn_13 := NE_1 r3 r3 hr3 hr3
    have kl_13 := LE_1 r3 hr3
    have km_13 := rroom_le (r := r3)
    refine mt_aload_n dX4_many_0 rfl rfl ?_
    refine mt_iload_n dX4_many_1 rfl ?_
    refine mt_callS (N := mX4_isRow) (Rc := rX4_isRow) (As := [.int (nI r3)]) (st := [.ref 27]) dX4_many_2 (kX4_isRow hl) sX4_isRow mw_1083 rfl (Nat.le_of_ble_eq_true rfl) ⟨⟨Nat.le_of_ble_eq_true rfl, Nat.le_of_ble_eq_true rfl⟩, Nat.le_of_ble_eq_true rfl, Nat.le_of_ble_eq_true rfl⟩ (fun v14 h15 n16 c17 => ?_) (fun _ _ _ hx => hx.elim)
    obtain ⟨c17a, c17b, c17c⟩ := c17
    rw [show (inN 4 (nI r3)).isSome = true from by rw [inN_some hr3 (by decide)]; rfl] at c17a
    rw [c17a, c17b, c17c]
    show mT _ _ _ _ 5 [.ref 27, .int (nI r3)] [.int (nI 1), .ref 27] _ _ _ _
    refine mt_iconst dX4_many_5 (v := nI 1) rfl ?_
    refine mt_callV (N := mX4_isLet) (Rc := rX4_isLet) (As := [.int (nI 1), .int (nI 1)]) (st := []) dX4_many_6 (kX4_isLet (t := true) (f := true) hl C0) sX4_isLet mw_1092 mKX4 rfl C0 rfl (Nat.le_of_ble_eq_true rfl) ⟨⟨Nat.le_of_ble_eq_true rfl, Nat.le_of_ble_eq_true rfl⟩, Nat.le_of_ble_eq_true rfl, Nat.le_of_ble_eq_true rfl⟩ (fun v18 h19 n20 c21 => ?_) (fun _ _ _ hx => hx.elim)
    obtain ⟨c21a, c21b, c21c, c21d⟩ := c21
    rw [c21a, c21b]
    show mT _ _ _ _ 9 [.ref 27, .int (nI r3)] [.int (nI 1)] _ _ _ _
    refine mt_if_eq dX4_many_9 (tgt := 22) rfl (fun q22 => ?_) (fun q22 => ?_)
    · have q22 := (mI_eq0 (by omega)).mp q22
      exact absurd q22 (by decide)
    · have q22 := (not_congr (mI_eq0 (by omega))).mp q22
      refine mt_aload_n dX4_many_12 rfl rfl ?_
      refine mt_getfield mKX4 (i := 0) (by decide) mw_1053 dX4_many_13 c21c rfl ?_
      refine mt_iload_n dX4_many_16 rfl ?_
      refine mp_aaload dX4_many_17 ((c21d (28) (by omega)).trans G28_1) (fun _ => rfl) rfl rfl (by omega) (by omega) (v := .ref (kx r3)) (by rw [GK_1 _ (by omega)]; rfl) ?_
      refine mt_alen dX4_many_18 ((c21d (kx r3) (by omega)).trans ke_13) (by decide) ?_
      refine mt_goto dX4_many_19 (tgt := 23) rfl ?_
      refine mt_ireturn dX4_many_23 rfl rfl (Nat.le_of_ble_eq_true rfl) (Nat.le_of_ble_eq_true rfl) ?_
      exact mOkq.of (x := .int (nI ((S.1 r3).length))) (S' := ((S).1, S.2.1, S.2.2.1, S.2.2.2.1, S.2.2.2.2)) (by simp only [sp_many, dAt_s (k := 4) hr3 (by first | decide | omega), if_neg q22] <;> first | rfl | simp_all) rfl (by omega) c21c (by omega) (mRows.fr (n' := n) HR (by omega) (fun j j1 j2 j3 => c21d (j) (by omega)) (by omega)) (fun j hj => c21d j (by omega))
abbrev rX4_key : Room := { frames := 3, cells := 0, slots := 0, locals := 64 }
set_option maxRecDepth 100000 in
set_option maxHeartbeats 2000000 in
theorem kX4_key {l : Launch} (hl : l.stackTraces = false) {h : mH} {n : Nat} {S : cS} {th : Int32} {row : Int32} {place : Int32} (C : mAt h n S th) : mC l mX4_key rX4_key [.ref 27, .int row, .int place] h n (mOkq (sp_key S row place) (.int (nI 0)) h n) (mNX) := by
  obtain ⟨C0, h39, kx, sx, HR⟩ := id C
  obtain ⟨⟨gk_1, G28_1, GK_1⟩, ⟨gs_1, G33_1, GS_1⟩, AK_1, AS_1, NE_1, NQ_1, LE_1⟩ := id HR
  refine mm_enter hl (by decide +kernel) rfl rfl rfl (Nat.le_of_ble_eq_true rfl) ?_
  show mT _ _ _ _ 0 [.ref 27, .int row, .int place] [] _ _ 0 0
  rcases hq2 : inN 4 row with _ | r3
  · refine mt_aload_n dX4_key_0 rfl rfl ?_
    refine mt_aload_n dX4_key_1 rfl rfl ?_
    refine mt_iload_n dX4_key_2 rfl ?_
    refine mt_iload_n dX4_key_3 rfl ?_
    refine mt_callV (N := mX4_isPlace) (Rc := rX4_isPlace) (As := [.int row, .int place]) (st := [.ref 27]) dX4_key_4 (kX4_isPlace_f hl hq2) sX4_isPlace mw_1126 mKX4 rfl C0 rfl (Nat.le_of_ble_eq_true rfl) ⟨⟨Nat.le_of_ble_eq_true rfl, Nat.le_of_ble_eq_true rfl⟩, Nat.le_of_ble_eq_true rfl, Nat.le_of_ble_eq_true rfl⟩ (fun v4 h5 n6 c7 => ?_) (fun _ _ _ hx => hx.elim)
    obtain ⟨c7a, c7b, c7c⟩ := c7
    rw [c7a, c7b, c7c]
    show mT _ _ _ _ 7 [.ref 27, .int row, .int place] [.int (nI 0), .ref 27] _ _ _ _
    refine mt_iconst dX4_key_7 (v := nI 1) rfl ?_
    refine mt_callV (N := mX4_isLet) (Rc := rX4_isLet) (As := [.int (nI 0), .int (nI 1)]) (st := []) dX4_key_8 (kX4_isLet (t := false) (f := true) hl C0) sX4_isLet mw_1092 mKX4 rfl C0 rfl (Nat.le_of_ble_eq_true rfl) ⟨⟨Nat.le_of_ble_eq_true rfl, Nat.le_of_ble_eq_true rfl⟩, Nat.le_of_ble_eq_true rfl, Nat.le_of_ble_eq_true rfl⟩ (fun v8 h9 n10 c11 => ?_) (fun _ _ _ hx => hx.elim)
    obtain ⟨c11a, c11b, c11c, c11d⟩ := c11
    rw [c11a, c11b]
    show mT _ _ _ _ 11 [.ref 27, .int row, .int place] [.int (nI 0)] _ _ _ _
    refine mt_if_eq dX4_key_11 (tgt := 25) rfl (fun q12 => ?_) (fun q12 => ?_)
    · have q12 := (mI_eq0 (by omega)).mp q12
      refine mt_iconst dX4_key_25 (v := nI 0) rfl ?_
      refine mt_ireturn dX4_key_26 rfl rfl (Nat.le_of_ble_eq_true rfl) (Nat.le_of_ble_eq_true rfl) ?_
      exact mOkq.no (k := 1) (S' := S) (by simp only [sp_key, dAt_n (k := 4) (x := row) hq2, if_pos q12]) (by decide) rfl (by omega) c11c (by omega) (mRows.fr (n' := n) HR (by omega) (fun j j1 j2 j3 => c11d (j) (by omega)) (by omega)) (fun j hj => c11d j (by omega))
    · have q12 := (not_congr (mI_eq0 (by omega))).mp q12
      exact absurd q12 (by decide)
  · obtain ⟨hr3, rfl⟩ := inN_of hq2 (by first | decide | omega)
    obtain ⟨⟨ka_13, kb_13, kc_13, kd_13⟩, kf_13, ke_13, kg_13⟩ := AK_1 r3 hr3
    obtain ⟨⟨sa_13, sb_13, sc_13, sd_13⟩, sf_13, se_13, sg_13⟩ := AS_1 r3 hr3
    have kn_13 := NE_1 r3 r3 hr3 hr3
    have kl_13 := LE_1 r3 hr3
    have km_13 := rroom_le (r := r3)
    rcases hq14 : inN (S.1 r3).length place with _ | p15
    · refine mt_aload_n dX4_key_0 rfl rfl ?_
      refine mt_aload_n dX4_key_1 rfl rfl ?_
      refine mt_iload_n dX4_key_2 rfl ?_
      refine mt_iload_n dX4_key_3 rfl ?_
      refine mt_callV (N := mX4_isPlace) (Rc := rX4_isPlace) (As := [.int (nI r3), .int place]) (st := [.ref 27]) dX4_key_4 (kX4_isPlace hl C0 HR (by omega) (by omega)) sX4_isPlace mw_1126 mKX4 rfl C0 rfl (Nat.le_of_ble_eq_true rfl) ⟨⟨Nat.le_of_ble_eq_true rfl, Nat.le_of_ble_eq_true rfl⟩, Nat.le_of_ble_eq_true rfl, Nat.le_of_ble_eq_true rfl⟩ (fun v16 h17 n18 c19 => ?_) (fun _ _ _ hx => hx.elim)
      obtain ⟨c19a, c19b, c19c⟩ := c19
      rw [show (inN (S.1 r3).length place).isSome = false from by rw [hq14]; rfl] at c19a
      rw [c19a, c19b, c19c]
      show mT _ _ _ _ 7 [.ref 27, .int (nI r3), .int place] [.int (nI 0), .ref 27] _ _ _ _
      refine mt_iconst dX4_key_7 (v := nI 1) rfl ?_
      refine mt_callV (N := mX4_isLet) (Rc := rX4_isLet) (As := [.int (nI 0), .int (nI 1)]) (st := []) dX4_key_8 (kX4_isLet (t := false) (f := true) hl C0) sX4_isLet mw_1092 mKX4 rfl C0 rfl (Nat.le_of_ble_eq_true rfl) ⟨⟨Nat.le_of_ble_eq_true rfl, Nat.le_of_ble_eq_true rfl⟩, Nat.le_of_ble_eq_true rfl, Nat.le_of_ble_eq_true rfl⟩ (fun v20 h21 n22 c23 => ?_) (fun _ _ _ hx => hx.elim)
      obtain ⟨c23a, c23b, c23c, c23d⟩ := c23
      rw [c23a, c23b]
      show mT _ _ _ _ 11 [.ref 27, .int (nI r3), .int place] [.int (nI 0)] _ _ _ _
      refine mt_if_eq dX4_key_11 (tgt := 25) rfl (fun q24 => ?_) (fun q24 => ?_)
      · have q24 := (mI_eq0 (by omega)).mp q24
        refine mt_iconst dX4_key_25 (v := nI 0) rfl ?_
        refine mt_ireturn dX4_key_26 rfl rfl (Nat.le_of_ble_eq_true rfl) (Nat.le_of_ble_eq_true rfl) ?_
        exact mOkq.no (k := 1) (S' := S) (by simp only [sp_key, dAt_s (k := 4) hr3 (by first | decide | omega), dAt_n (k := (S.1 r3).length) (x := place) hq14, if_pos q24]) (by decide) rfl (by omega) c23c (by omega) (mRows.fr (n' := n) HR (by omega) (fun j j1 j2 j3 => c23d (j) (by omega)) (by omega)) (fun j hj => c23d j (by omega))
      · have q24 := (not_congr (mI_eq0 (by omega))).mp q24
        exact absurd q24 (by decide)
    · obtain ⟨hp15, rfl⟩ := inN_of hq14 (by first | decide | omega)
      refine mt_aload_n dX4_key_0 rfl rfl ?_
      refine mt_aload_n dX4_key_1 rfl rfl ?_
      refine mt_iload_n dX4_key_2 rfl ?_
      refine mt_iload_n dX4_key_3 rfl ?_
      refine mt_callV (N := mX4_isPlace) (Rc := rX4_isPlace) (As := [.int (nI r3), .int (nI p15)]) (st := [.ref 27]) dX4_key_4 (kX4_isPlace hl C0 HR (by omega) (by omega)) sX4_isPlace mw_1126 mKX4 rfl C0 rfl (Nat.le_of_ble_eq_true rfl) ⟨⟨Nat.le_of_ble_eq_true rfl, Nat.le_of_ble_eq_true rfl⟩, Nat.le_of_ble_eq_true rfl, Nat.le_of_ble_eq_true rfl⟩ (fun v25 h26 n27 c28 => ?_) (fun _ _ _ hx => hx.elim)
      obtain ⟨c28a, c28b, c28c⟩ := c28
      rw [show (inN (S.1 r3).length (nI p15)).isSome = true from by rw [inN_some hp15 (by omega)]; rfl] at c28a
      rw [c28a, c28b, c28c]
      show mT _ _ _ _ 7 [.ref 27, .int (nI r3), .int (nI p15)] [.int (nI 1), .ref 27] _ _ _ _
      refine mt_iconst dX4_key_7 (v := nI 1) rfl ?_
      refine mt_callV (N := mX4_isLet) (Rc := rX4_isLet) (As := [.int (nI 1), .int (nI 1)]) (st := []) dX4_key_8 (kX4_isLet (t := true) (f := true) hl C0) sX4_isLet mw_1092 mKX4 rfl C0 rfl (Nat.le_of_ble_eq_true rfl) ⟨⟨Nat.le_of_ble_eq_true rfl, Nat.le_of_ble_eq_true rfl⟩, Nat.le_of_ble_eq_true rfl, Nat.le_of_ble_eq_true rfl⟩ (fun v29 h30 n31 c32 => ?_) (fun _ _ _ hx => hx.elim)
      obtain ⟨c32a, c32b, c32c, c32d⟩ := c32
      rw [c32a, c32b]
      show mT _ _ _ _ 11 [.ref 27, .int (nI r3), .int (nI p15)] [.int (nI 1)] _ _ _ _
      refine mt_if_eq dX4_key_11 (tgt := 25) rfl (fun q33 => ?_) (fun q33 => ?_)
      · have q33 := (mI_eq0 (by omega)).mp q33
        exact absurd q33 (by decide)
      · have q33 := (not_congr (mI_eq0 (by omega))).mp q33
        refine mt_aload_n dX4_key_14 rfl rfl ?_
        refine mt_getfield mKX4 (i := 0) (by decide) mw_1053 dX4_key_15 c32c rfl ?_
        refine mt_iload_n dX4_key_18 rfl ?_
        refine mp_aaload dX4_key_19 ((c32d (28) (by omega)).trans G28_1) (fun _ => rfl) rfl rfl (by omega) (by omega) (v := .ref (kx r3)) (by rw [GK_1 _ (by omega)]; rfl) ?_
        refine mt_iload_n dX4_key_20 rfl ?_
        refine mp_iaload dX4_key_21 ((c32d (kx r3) (by omega)).trans ke_13) rfl (by omega) (by omega) (v := xk (S.1 r3) p15) (kg_13 _ (by omega)) ?_
        refine mt_goto dX4_key_22 (tgt := 26) rfl ?_
        refine mt_ireturn dX4_key_26 rfl rfl (Nat.le_of_ble_eq_true rfl) (Nat.le_of_ble_eq_true rfl) ?_
        exact mOkq.of (x := .int (xk (S.1 r3) p15)) (S' := ((S).1, S.2.1, S.2.2.1, S.2.2.2.1, S.2.2.2.2)) (by simp only [sp_key, dAt_s (k := 4) hr3 (by first | decide | omega), dAt_s (k := (S.1 r3).length) hp15 (by first | decide | omega), if_neg q33] <;> first | rfl | simp_all) rfl (by omega) c32c (by omega) (mRows.fr (n' := n) HR (by omega) (fun j j1 j2 j3 => c32d (j) (by omega)) (by omega)) (fun j hj => c32d j (by omega))
abbrev rX4_stamp : Room := { frames := 3, cells := 0, slots := 0, locals := 64 }
set_option maxRecDepth 100000 in
set_option maxHeartbeats 2000000 in
theorem kX4_stamp {l : Launch} (hl : l.stackTraces = false) {h : mH} {n : Nat} {S : cS} {th : Int32} {row : Int32} {place : Int32} (C : mAt h n S th) : mC l mX4_stamp rX4_stamp [.ref 27, .int row, .int place] h n (mOkq (sp_stamp S row place) (.int (nI 0)) h n) (mNX) := by
  obtain ⟨C0, h39, kx, sx, HR⟩ := id C
  obtain ⟨⟨gk_1, G28_1, GK_1⟩, ⟨gs_1, G33_1, GS_1⟩, AK_1, AS_1, NE_1, NQ_1, LE_1⟩ := id HR
  refine mm_enter hl (by decide +kernel) rfl rfl rfl (Nat.le_of_ble_eq_true rfl) ?_
  show mT _ _ _ _ 0 [.ref 27, .int row, .int place] [] _ _ 0 0
  rcases hq2 : inN 4 row with _ | r3
  · refine mt_aload_n dX4_stamp_0 rfl rfl ?_
    refine mt_aload_n dX4_stamp_1 rfl rfl ?_
    refine mt_iload_n dX4_stamp_2 rfl ?_
    refine mt_iload_n dX4_stamp_3 rfl ?_
    refine mt_callV (N := mX4_isPlace) (Rc := rX4_isPlace) (As := [.int row, .int place]) (st := [.ref 27]) dX4_stamp_4 (kX4_isPlace_f hl hq2) sX4_isPlace mw_1126 mKX4 rfl C0 rfl (Nat.le_of_ble_eq_true rfl) ⟨⟨Nat.le_of_ble_eq_true rfl, Nat.le_of_ble_eq_true rfl⟩, Nat.le_of_ble_eq_true rfl, Nat.le_of_ble_eq_true rfl⟩ (fun v4 h5 n6 c7 => ?_) (fun _ _ _ hx => hx.elim)
    obtain ⟨c7a, c7b, c7c⟩ := c7
    rw [c7a, c7b, c7c]
    show mT _ _ _ _ 7 [.ref 27, .int row, .int place] [.int (nI 0), .ref 27] _ _ _ _
    refine mt_iconst dX4_stamp_7 (v := nI 1) rfl ?_
    refine mt_callV (N := mX4_isLet) (Rc := rX4_isLet) (As := [.int (nI 0), .int (nI 1)]) (st := []) dX4_stamp_8 (kX4_isLet (t := false) (f := true) hl C0) sX4_isLet mw_1092 mKX4 rfl C0 rfl (Nat.le_of_ble_eq_true rfl) ⟨⟨Nat.le_of_ble_eq_true rfl, Nat.le_of_ble_eq_true rfl⟩, Nat.le_of_ble_eq_true rfl, Nat.le_of_ble_eq_true rfl⟩ (fun v8 h9 n10 c11 => ?_) (fun _ _ _ hx => hx.elim)
    obtain ⟨c11a, c11b, c11c, c11d⟩ := c11
    rw [c11a, c11b]
    show mT _ _ _ _ 11 [.ref 27, .int row, .int place] [.int (nI 0)] _ _ _ _
    refine mt_if_eq dX4_stamp_11 (tgt := 25) rfl (fun q12 => ?_) (fun q12 => ?_)
    · have q12 := (mI_eq0 (by omega)).mp q12
      refine mt_iconst dX4_stamp_25 (v := nI 0) rfl ?_
      refine mt_ireturn dX4_stamp_26 rfl rfl (Nat.le_of_ble_eq_true rfl) (Nat.le_of_ble_eq_true rfl) ?_
      exact mOkq.no (k := 1) (S' := S) (by simp only [sp_stamp, dAt_n (k := 4) (x := row) hq2, if_pos q12]) (by decide) rfl (by omega) c11c (by omega) (mRows.fr (n' := n) HR (by omega) (fun j j1 j2 j3 => c11d (j) (by omega)) (by omega)) (fun j hj => c11d j (by omega))
    · have q12 := (not_congr (mI_eq0 (by omega))).mp q12
      exact absurd q12 (by decide)
  · obtain ⟨hr3, rfl⟩ := inN_of hq2 (by first | decide | omega)
    obtain ⟨⟨ka_13, kb_13, kc_13, kd_13⟩, kf_13, ke_13, kg_13⟩ := AK_1 r3 hr3
    obtain ⟨⟨sa_13, sb_13, sc_13, sd_13⟩, sf_13, se_13, sg_13⟩ := AS_1 r3 hr3
    have kn_13 := NE_1 r3 r3 hr3 hr3
    have kl_13 := LE_1 r3 hr3
    have km_13 := rroom_le (r := r3)
    rcases hq14 : inN (S.1 r3).length place with _ | p15
    · refine mt_aload_n dX4_stamp_0 rfl rfl ?_
      refine mt_aload_n dX4_stamp_1 rfl rfl ?_
      refine mt_iload_n dX4_stamp_2 rfl ?_
      refine mt_iload_n dX4_stamp_3 rfl ?_
      refine mt_callV (N := mX4_isPlace) (Rc := rX4_isPlace) (As := [.int (nI r3), .int place]) (st := [.ref 27]) dX4_stamp_4 (kX4_isPlace hl C0 HR (by omega) (by omega)) sX4_isPlace mw_1126 mKX4 rfl C0 rfl (Nat.le_of_ble_eq_true rfl) ⟨⟨Nat.le_of_ble_eq_true rfl, Nat.le_of_ble_eq_true rfl⟩, Nat.le_of_ble_eq_true rfl, Nat.le_of_ble_eq_true rfl⟩ (fun v16 h17 n18 c19 => ?_) (fun _ _ _ hx => hx.elim)
      obtain ⟨c19a, c19b, c19c⟩ := c19
      rw [show (inN (S.1 r3).length place).isSome = false from by rw [hq14]; rfl] at c19a
      rw [c19a, c19b, c19c]
      show mT _ _ _ _ 7 [.ref 27, .int (nI r3), .int place] [.int (nI 0), .ref 27] _ _ _ _
      refine mt_iconst dX4_stamp_7 (v := nI 1) rfl ?_
      refine mt_callV (N := mX4_isLet) (Rc := rX4_isLet) (As := [.int (nI 0), .int (nI 1)]) (st := []) dX4_stamp_8 (kX4_isLet (t := false) (f := true) hl C0) sX4_isLet mw_1092 mKX4 rfl C0 rfl (Nat.le_of_ble_eq_true rfl) ⟨⟨Nat.le_of_ble_eq_true rfl, Nat.le_of_ble_eq_true rfl⟩, Nat.le_of_ble_eq_true rfl, Nat.le_of_ble_eq_true rfl⟩ (fun v20 h21 n22 c23 => ?_) (fun _ _ _ hx => hx.elim)
      obtain ⟨c23a, c23b, c23c, c23d⟩ := c23
      rw [c23a, c23b]
      show mT _ _ _ _ 11 [.ref 27, .int (nI r3), .int place] [.int (nI 0)] _ _ _ _
      refine mt_if_eq dX4_stamp_11 (tgt := 25) rfl (fun q24 => ?_) (fun q24 => ?_)
      · have q24 := (mI_eq0 (by omega)).mp q24
        refine mt_iconst dX4_stamp_25 (v := nI 0) rfl ?_
        refine mt_ireturn dX4_stamp_26 rfl rfl (Nat.le_of_ble_eq_true rfl) (Nat.le_of_ble_eq_true rfl) ?_
        exact mOkq.no (k := 1) (S' := S) (by simp only [sp_stamp, dAt_s (k := 4) hr3 (by first | decide | omega), dAt_n (k := (S.1 r3).length) (x := place) hq14, if_pos q24]) (by decide) rfl (by omega) c23c (by omega) (mRows.fr (n' := n) HR (by omega) (fun j j1 j2 j3 => c23d (j) (by omega)) (by omega)) (fun j hj => c23d j (by omega))
      · have q24 := (not_congr (mI_eq0 (by omega))).mp q24
        exact absurd q24 (by decide)
    · obtain ⟨hp15, rfl⟩ := inN_of hq14 (by first | decide | omega)
      refine mt_aload_n dX4_stamp_0 rfl rfl ?_
      refine mt_aload_n dX4_stamp_1 rfl rfl ?_
      refine mt_iload_n dX4_stamp_2 rfl ?_
      refine mt_iload_n dX4_stamp_3 rfl ?_
      refine mt_callV (N := mX4_isPlace) (Rc := rX4_isPlace) (As := [.int (nI r3), .int (nI p15)]) (st := [.ref 27]) dX4_stamp_4 (kX4_isPlace hl C0 HR (by omega) (by omega)) sX4_isPlace mw_1126 mKX4 rfl C0 rfl (Nat.le_of_ble_eq_true rfl) ⟨⟨Nat.le_of_ble_eq_true rfl, Nat.le_of_ble_eq_true rfl⟩, Nat.le_of_ble_eq_true rfl, Nat.le_of_ble_eq_true rfl⟩ (fun v25 h26 n27 c28 => ?_) (fun _ _ _ hx => hx.elim)
      obtain ⟨c28a, c28b, c28c⟩ := c28
      rw [show (inN (S.1 r3).length (nI p15)).isSome = true from by rw [inN_some hp15 (by omega)]; rfl] at c28a
      rw [c28a, c28b, c28c]
      show mT _ _ _ _ 7 [.ref 27, .int (nI r3), .int (nI p15)] [.int (nI 1), .ref 27] _ _ _ _
      refine mt_iconst dX4_stamp_7 (v := nI 1) rfl ?_
      refine mt_callV (N := mX4_isLet) (Rc := rX4_isLet) (As := [.int (nI 1), .int (nI 1)]) (st := []) dX4_stamp_8 (kX4_isLet (t := true) (f := true) hl C0) sX4_isLet mw_1092 mKX4 rfl C0 rfl (Nat.le_of_ble_eq_true rfl) ⟨⟨Nat.le_of_ble_eq_true rfl, Nat.le_of_ble_eq_true rfl⟩, Nat.le_of_ble_eq_true rfl, Nat.le_of_ble_eq_true rfl⟩ (fun v29 h30 n31 c32 => ?_) (fun _ _ _ hx => hx.elim)
      obtain ⟨c32a, c32b, c32c, c32d⟩ := c32
      rw [c32a, c32b]
      show mT _ _ _ _ 11 [.ref 27, .int (nI r3), .int (nI p15)] [.int (nI 1)] _ _ _ _
      refine mt_if_eq dX4_stamp_11 (tgt := 25) rfl (fun q33 => ?_) (fun q33 => ?_)
      · have q33 := (mI_eq0 (by omega)).mp q33
        exact absurd q33 (by decide)
      · have q33 := (not_congr (mI_eq0 (by omega))).mp q33
        refine mt_aload_n dX4_stamp_14 rfl rfl ?_
        refine mt_getfield mKX4 (i := 1) (by decide) mw_1054 dX4_stamp_15 c32c rfl ?_
        refine mt_iload_n dX4_stamp_18 rfl ?_
        refine mp_aaload dX4_stamp_19 ((c32d (33) (by omega)).trans G33_1) (fun _ => rfl) rfl rfl (by omega) (by omega) (v := .ref (sx r3)) (by rw [GS_1 _ (by omega)]; rfl) ?_
        refine mt_iload_n dX4_stamp_20 rfl ?_
        refine mp_iaload dX4_stamp_21 ((c32d (sx r3) (by omega)).trans se_13) rfl (by omega) (by omega) (v := xt (S.1 r3) p15) (sg_13 _ (by omega)) ?_
        refine mt_goto dX4_stamp_22 (tgt := 26) rfl ?_
        refine mt_ireturn dX4_stamp_26 rfl rfl (Nat.le_of_ble_eq_true rfl) (Nat.le_of_ble_eq_true rfl) ?_
        exact mOkq.of (x := .int (xt (S.1 r3) p15)) (S' := ((S).1, S.2.1, S.2.2.1, S.2.2.2.1, S.2.2.2.2)) (by simp only [sp_stamp, dAt_s (k := 4) hr3 (by first | decide | omega), dAt_s (k := (S.1 r3).length) hp15 (by first | decide | omega), if_neg q33] <;> first | rfl | simp_all) rfl (by omega) c32c (by omega) (mRows.fr (n' := n) HR (by omega) (fun j j1 j2 j3 => c32d (j) (by omega)) (by omega)) (fun j hj => c32d j (by omega))
abbrev rX4_rank : Room := { frames := 3, cells := 0, slots := 0, locals := 64 }
set_option maxRecDepth 100000 in
set_option maxHeartbeats 2000000 in
theorem kX4_rank {l : Launch} (hl : l.stackTraces = false) {h : mH} {n : Nat} {S : cS} {th : Int32} {row : Int32} {place : Int32} (C : mAt h n S th) : mC l mX4_rank rX4_rank [.ref 27, .int row, .int place] h n (mOkq (sp_rank S row place) (.int (nI 0)) h n) (mNX) := by
  obtain ⟨C0, h39, kx, sx, HR⟩ := id C
  obtain ⟨⟨gk_1, G28_1, GK_1⟩, ⟨gs_1, G33_1, GS_1⟩, AK_1, AS_1, NE_1, NQ_1, LE_1⟩ := id HR
  refine mm_enter hl (by decide +kernel) rfl rfl rfl (Nat.le_of_ble_eq_true rfl) ?_
  show mT _ _ _ _ 0 [.ref 27, .int row, .int place] [] _ _ 0 0
  rcases hq2 : inN 4 row with _ | r3
  · refine mt_aload_n dX4_rank_0 rfl rfl ?_
    refine mt_aload_n dX4_rank_1 rfl rfl ?_
    refine mt_iload_n dX4_rank_2 rfl ?_
    refine mt_iload_n dX4_rank_3 rfl ?_
    refine mt_callV (N := mX4_isPlace) (Rc := rX4_isPlace) (As := [.int row, .int place]) (st := [.ref 27]) dX4_rank_4 (kX4_isPlace_f hl hq2) sX4_isPlace mw_1126 mKX4 rfl C0 rfl (Nat.le_of_ble_eq_true rfl) ⟨⟨Nat.le_of_ble_eq_true rfl, Nat.le_of_ble_eq_true rfl⟩, Nat.le_of_ble_eq_true rfl, Nat.le_of_ble_eq_true rfl⟩ (fun v4 h5 n6 c7 => ?_) (fun _ _ _ hx => hx.elim)
    obtain ⟨c7a, c7b, c7c⟩ := c7
    rw [c7a, c7b, c7c]
    show mT _ _ _ _ 7 [.ref 27, .int row, .int place] [.int (nI 0), .ref 27] _ _ _ _
    refine mt_iconst dX4_rank_7 (v := nI 1) rfl ?_
    refine mt_callV (N := mX4_isLet) (Rc := rX4_isLet) (As := [.int (nI 0), .int (nI 1)]) (st := []) dX4_rank_8 (kX4_isLet (t := false) (f := true) hl C0) sX4_isLet mw_1092 mKX4 rfl C0 rfl (Nat.le_of_ble_eq_true rfl) ⟨⟨Nat.le_of_ble_eq_true rfl, Nat.le_of_ble_eq_true rfl⟩, Nat.le_of_ble_eq_true rfl, Nat.le_of_ble_eq_true rfl⟩ (fun v8 h9 n10 c11 => ?_) (fun _ _ _ hx => hx.elim)
    obtain ⟨c11a, c11b, c11c, c11d⟩ := c11
    rw [c11a, c11b]
    show mT _ _ _ _ 11 [.ref 27, .int row, .int place] [.int (nI 0)] _ _ _ _
    refine mt_if_eq dX4_rank_11 (tgt := 23) rfl (fun q12 => ?_) (fun q12 => ?_)
    · have q12 := (mI_eq0 (by omega)).mp q12
      refine mt_iconst dX4_rank_23 (v := nI 0) rfl ?_
      refine mt_ireturn dX4_rank_24 rfl rfl (Nat.le_of_ble_eq_true rfl) (Nat.le_of_ble_eq_true rfl) ?_
      exact mOkq.no (k := 1) (S' := S) (by simp only [sp_rank, dAt_n (k := 4) (x := row) hq2, if_pos q12]) (by decide) rfl (by omega) c11c (by omega) (mRows.fr (n' := n) HR (by omega) (fun j j1 j2 j3 => c11d (j) (by omega)) (by omega)) (fun j hj => c11d j (by omega))
    · have q12 := (not_congr (mI_eq0 (by omega))).mp q12
      exact absurd q12 (by decide)
  · obtain ⟨hr3, rfl⟩ := inN_of hq2 (by first | decide | omega)
    obtain ⟨⟨ka_13, kb_13, kc_13, kd_13⟩, kf_13, ke_13, kg_13⟩ := AK_1 r3 hr3
    obtain ⟨⟨sa_13, sb_13, sc_13, sd_13⟩, sf_13, se_13, sg_13⟩ := AS_1 r3 hr3
    have kn_13 := NE_1 r3 r3 hr3 hr3
    have kl_13 := LE_1 r3 hr3
    have km_13 := rroom_le (r := r3)
    rcases hq14 : inN (S.1 r3).length place with _ | p15
    · refine mt_aload_n dX4_rank_0 rfl rfl ?_
      refine mt_aload_n dX4_rank_1 rfl rfl ?_
      refine mt_iload_n dX4_rank_2 rfl ?_
      refine mt_iload_n dX4_rank_3 rfl ?_
      refine mt_callV (N := mX4_isPlace) (Rc := rX4_isPlace) (As := [.int (nI r3), .int place]) (st := [.ref 27]) dX4_rank_4 (kX4_isPlace hl C0 HR (by omega) (by omega)) sX4_isPlace mw_1126 mKX4 rfl C0 rfl (Nat.le_of_ble_eq_true rfl) ⟨⟨Nat.le_of_ble_eq_true rfl, Nat.le_of_ble_eq_true rfl⟩, Nat.le_of_ble_eq_true rfl, Nat.le_of_ble_eq_true rfl⟩ (fun v16 h17 n18 c19 => ?_) (fun _ _ _ hx => hx.elim)
      obtain ⟨c19a, c19b, c19c⟩ := c19
      rw [show (inN (S.1 r3).length place).isSome = false from by rw [hq14]; rfl] at c19a
      rw [c19a, c19b, c19c]
      show mT _ _ _ _ 7 [.ref 27, .int (nI r3), .int place] [.int (nI 0), .ref 27] _ _ _ _
      refine mt_iconst dX4_rank_7 (v := nI 1) rfl ?_
      refine mt_callV (N := mX4_isLet) (Rc := rX4_isLet) (As := [.int (nI 0), .int (nI 1)]) (st := []) dX4_rank_8 (kX4_isLet (t := false) (f := true) hl C0) sX4_isLet mw_1092 mKX4 rfl C0 rfl (Nat.le_of_ble_eq_true rfl) ⟨⟨Nat.le_of_ble_eq_true rfl, Nat.le_of_ble_eq_true rfl⟩, Nat.le_of_ble_eq_true rfl, Nat.le_of_ble_eq_true rfl⟩ (fun v20 h21 n22 c23 => ?_) (fun _ _ _ hx => hx.elim)
      obtain ⟨c23a, c23b, c23c, c23d⟩ := c23
      rw [c23a, c23b]
      show mT _ _ _ _ 11 [.ref 27, .int (nI r3), .int place] [.int (nI 0)] _ _ _ _
      refine mt_if_eq dX4_rank_11 (tgt := 23) rfl (fun q24 => ?_) (fun q24 => ?_)
      · have q24 := (mI_eq0 (by omega)).mp q24
        refine mt_iconst dX4_rank_23 (v := nI 0) rfl ?_
        refine mt_ireturn dX4_rank_24 rfl rfl (Nat.le_of_ble_eq_true rfl) (Nat.le_of_ble_eq_true rfl) ?_
        exact mOkq.no (k := 1) (S' := S) (by simp only [sp_rank, dAt_s (k := 4) hr3 (by first | decide | omega), dAt_n (k := (S.1 r3).length) (x := place) hq14, if_pos q24]) (by decide) rfl (by omega) c23c (by omega) (mRows.fr (n' := n) HR (by omega) (fun j j1 j2 j3 => c23d (j) (by omega)) (by omega)) (fun j hj => c23d j (by omega))
      · have q24 := (not_congr (mI_eq0 (by omega))).mp q24
        exact absurd q24 (by decide)
    · obtain ⟨hp15, rfl⟩ := inN_of hq14 (by first | decide | omega)
      refine mt_aload_n dX4_rank_0 rfl rfl ?_
      refine mt_aload_n dX4_rank_1 rfl rfl ?_
      refine mt_iload_n dX4_rank_2 rfl ?_
      refine mt_iload_n dX4_rank_3 rfl ?_
      refine mt_callV (N := mX4_isPlace) (Rc := rX4_isPlace) (As := [.int (nI r3), .int (nI p15)]) (st := [.ref 27]) dX4_rank_4 (kX4_isPlace hl C0 HR (by omega) (by omega)) sX4_isPlace mw_1126 mKX4 rfl C0 rfl (Nat.le_of_ble_eq_true rfl) ⟨⟨Nat.le_of_ble_eq_true rfl, Nat.le_of_ble_eq_true rfl⟩, Nat.le_of_ble_eq_true rfl, Nat.le_of_ble_eq_true rfl⟩ (fun v25 h26 n27 c28 => ?_) (fun _ _ _ hx => hx.elim)
      obtain ⟨c28a, c28b, c28c⟩ := c28
      rw [show (inN (S.1 r3).length (nI p15)).isSome = true from by rw [inN_some hp15 (by omega)]; rfl] at c28a
      rw [c28a, c28b, c28c]
      show mT _ _ _ _ 7 [.ref 27, .int (nI r3), .int (nI p15)] [.int (nI 1), .ref 27] _ _ _ _
      refine mt_iconst dX4_rank_7 (v := nI 1) rfl ?_
      refine mt_callV (N := mX4_isLet) (Rc := rX4_isLet) (As := [.int (nI 1), .int (nI 1)]) (st := []) dX4_rank_8 (kX4_isLet (t := true) (f := true) hl C0) sX4_isLet mw_1092 mKX4 rfl C0 rfl (Nat.le_of_ble_eq_true rfl) ⟨⟨Nat.le_of_ble_eq_true rfl, Nat.le_of_ble_eq_true rfl⟩, Nat.le_of_ble_eq_true rfl, Nat.le_of_ble_eq_true rfl⟩ (fun v29 h30 n31 c32 => ?_) (fun _ _ _ hx => hx.elim)
      obtain ⟨c32a, c32b, c32c, c32d⟩ := c32
      rw [c32a, c32b]
      show mT _ _ _ _ 11 [.ref 27, .int (nI r3), .int (nI p15)] [.int (nI 1)] _ _ _ _
      refine mt_if_eq dX4_rank_11 (tgt := 23) rfl (fun q33 => ?_) (fun q33 => ?_)
      · have q33 := (mI_eq0 (by omega)).mp q33
        exact absurd q33 (by decide)
      · have q33 := (not_congr (mI_eq0 (by omega))).mp q33
        refine mt_aload_n dX4_rank_14 rfl rfl ?_
        refine mt_iload_n dX4_rank_15 rfl ?_
        refine mt_iload_n dX4_rank_16 rfl ?_
        refine mt_callV (N := mX4_ranked) (Rc := rX4_ranked) (As := [.int (nI r3), .int (nI p15)]) (st := []) dX4_rank_17 (kX4_ranked hl c32c (mRows.fr (n' := n) HR (by omega) (fun j j1 j2 j3 => c32d (j) (by omega)) (by omega)) (by omega) (by omega)) sX4_ranked mw_1191 mKX4 rfl c32c rfl (Nat.le_of_ble_eq_true rfl) ⟨⟨Nat.le_of_ble_eq_true rfl, Nat.le_of_ble_eq_true rfl⟩, Nat.le_of_ble_eq_true rfl, Nat.le_of_ble_eq_true rfl⟩ (fun v34 h35 n36 c37 => ?_) (fun _ _ _ hx => hx.elim)
        obtain ⟨c37a, c37b, c37c⟩ := c37
        rw [c37a, c37b, c37c]
        show mT _ _ _ _ 20 [.ref 27, .int (nI r3), .int (nI p15)] [.int (nI (rankf (S.1 r3) p15))] _ _ _ _
        refine mt_goto dX4_rank_20 (tgt := 24) rfl ?_
        refine mt_ireturn dX4_rank_24 rfl rfl (Nat.le_of_ble_eq_true rfl) (Nat.le_of_ble_eq_true rfl) ?_
        exact mOkq.of (x := .int (nI (rankf (S.1 r3) p15))) (S' := ((S).1, S.2.1, S.2.2.1, S.2.2.2.1, S.2.2.2.2)) (by simp only [sp_rank, dAt_s (k := 4) hr3 (by first | decide | omega), dAt_s (k := (S.1 r3).length) hp15 (by first | decide | omega), if_neg q33] <;> first | rfl | simp_all) rfl (by omega) c32c (by omega) (mRows.fr (n' := n) HR (by omega) (fun j j1 j2 j3 => c32d (j) (by omega)) (by omega)) (fun j hj => c32d j (by omega))
abbrev rX4_runAt : Room := { frames := 3, cells := 0, slots := 0, locals := 64 }
set_option maxRecDepth 100000 in
set_option maxHeartbeats 2000000 in
theorem kX4_runAt {l : Launch} (hl : l.stackTraces = false) {h : mH} {n : Nat} {S : cS} {th : Int32} {row : Int32} {place : Int32} (C : mAt h n S th) : mC l mX4_runAt rX4_runAt [.ref 27, .int row, .int place] h n (mOkq (sp_runAt S row place) (.int (nI 0)) h n) (mNX) := by
  obtain ⟨C0, h39, kx, sx, HR⟩ := id C
  obtain ⟨⟨gk_1, G28_1, GK_1⟩, ⟨gs_1, G33_1, GS_1⟩, AK_1, AS_1, NE_1, NQ_1, LE_1⟩ := id HR
  refine mm_enter hl (by decide +kernel) rfl rfl rfl (Nat.le_of_ble_eq_true rfl) ?_
  show mT _ _ _ _ 0 [.ref 27, .int row, .int place] [] _ _ 0 0
  rcases hq2 : inN 4 row with _ | r3
  · refine mt_aload_n dX4_runAt_0 rfl rfl ?_
    refine mt_aload_n dX4_runAt_1 rfl rfl ?_
    refine mt_iload_n dX4_runAt_2 rfl ?_
    refine mt_iload_n dX4_runAt_3 rfl ?_
    refine mt_callV (N := mX4_isPlace) (Rc := rX4_isPlace) (As := [.int row, .int place]) (st := [.ref 27]) dX4_runAt_4 (kX4_isPlace_f hl hq2) sX4_isPlace mw_1126 mKX4 rfl C0 rfl (Nat.le_of_ble_eq_true rfl) ⟨⟨Nat.le_of_ble_eq_true rfl, Nat.le_of_ble_eq_true rfl⟩, Nat.le_of_ble_eq_true rfl, Nat.le_of_ble_eq_true rfl⟩ (fun v4 h5 n6 c7 => ?_) (fun _ _ _ hx => hx.elim)
    obtain ⟨c7a, c7b, c7c⟩ := c7
    rw [c7a, c7b, c7c]
    show mT _ _ _ _ 7 [.ref 27, .int row, .int place] [.int (nI 0), .ref 27] _ _ _ _
    refine mt_iconst dX4_runAt_7 (v := nI 1) rfl ?_
    refine mt_callV (N := mX4_isLet) (Rc := rX4_isLet) (As := [.int (nI 0), .int (nI 1)]) (st := []) dX4_runAt_8 (kX4_isLet (t := false) (f := true) hl C0) sX4_isLet mw_1092 mKX4 rfl C0 rfl (Nat.le_of_ble_eq_true rfl) ⟨⟨Nat.le_of_ble_eq_true rfl, Nat.le_of_ble_eq_true rfl⟩, Nat.le_of_ble_eq_true rfl, Nat.le_of_ble_eq_true rfl⟩ (fun v8 h9 n10 c11 => ?_) (fun _ _ _ hx => hx.elim)
    obtain ⟨c11a, c11b, c11c, c11d⟩ := c11
    rw [c11a, c11b]
    show mT _ _ _ _ 11 [.ref 27, .int row, .int place] [.int (nI 0)] _ _ _ _
    refine mt_if_eq dX4_runAt_11 (tgt := 23) rfl (fun q12 => ?_) (fun q12 => ?_)
    · have q12 := (mI_eq0 (by omega)).mp q12
      refine mt_iconst dX4_runAt_23 (v := nI 0) rfl ?_
      refine mt_ireturn dX4_runAt_24 rfl rfl (Nat.le_of_ble_eq_true rfl) (Nat.le_of_ble_eq_true rfl) ?_
      exact mOkq.no (k := 1) (S' := S) (by simp only [sp_runAt, dAt_n (k := 4) (x := row) hq2, if_pos q12]) (by decide) rfl (by omega) c11c (by omega) (mRows.fr (n' := n) HR (by omega) (fun j j1 j2 j3 => c11d (j) (by omega)) (by omega)) (fun j hj => c11d j (by omega))
    · have q12 := (not_congr (mI_eq0 (by omega))).mp q12
      exact absurd q12 (by decide)
  · obtain ⟨hr3, rfl⟩ := inN_of hq2 (by first | decide | omega)
    obtain ⟨⟨ka_13, kb_13, kc_13, kd_13⟩, kf_13, ke_13, kg_13⟩ := AK_1 r3 hr3
    obtain ⟨⟨sa_13, sb_13, sc_13, sd_13⟩, sf_13, se_13, sg_13⟩ := AS_1 r3 hr3
    have kn_13 := NE_1 r3 r3 hr3 hr3
    have kl_13 := LE_1 r3 hr3
    have km_13 := rroom_le (r := r3)
    rcases hq14 : inN (S.1 r3).length place with _ | p15
    · refine mt_aload_n dX4_runAt_0 rfl rfl ?_
      refine mt_aload_n dX4_runAt_1 rfl rfl ?_
      refine mt_iload_n dX4_runAt_2 rfl ?_
      refine mt_iload_n dX4_runAt_3 rfl ?_
      refine mt_callV (N := mX4_isPlace) (Rc := rX4_isPlace) (As := [.int (nI r3), .int place]) (st := [.ref 27]) dX4_runAt_4 (kX4_isPlace hl C0 HR (by omega) (by omega)) sX4_isPlace mw_1126 mKX4 rfl C0 rfl (Nat.le_of_ble_eq_true rfl) ⟨⟨Nat.le_of_ble_eq_true rfl, Nat.le_of_ble_eq_true rfl⟩, Nat.le_of_ble_eq_true rfl, Nat.le_of_ble_eq_true rfl⟩ (fun v16 h17 n18 c19 => ?_) (fun _ _ _ hx => hx.elim)
      obtain ⟨c19a, c19b, c19c⟩ := c19
      rw [show (inN (S.1 r3).length place).isSome = false from by rw [hq14]; rfl] at c19a
      rw [c19a, c19b, c19c]
      show mT _ _ _ _ 7 [.ref 27, .int (nI r3), .int place] [.int (nI 0), .ref 27] _ _ _ _
      refine mt_iconst dX4_runAt_7 (v := nI 1) rfl ?_
      refine mt_callV (N := mX4_isLet) (Rc := rX4_isLet) (As := [.int (nI 0), .int (nI 1)]) (st := []) dX4_runAt_8 (kX4_isLet (t := false) (f := true) hl C0) sX4_isLet mw_1092 mKX4 rfl C0 rfl (Nat.le_of_ble_eq_true rfl) ⟨⟨Nat.le_of_ble_eq_true rfl, Nat.le_of_ble_eq_true rfl⟩, Nat.le_of_ble_eq_true rfl, Nat.le_of_ble_eq_true rfl⟩ (fun v20 h21 n22 c23 => ?_) (fun _ _ _ hx => hx.elim)
      obtain ⟨c23a, c23b, c23c, c23d⟩ := c23
      rw [c23a, c23b]
      show mT _ _ _ _ 11 [.ref 27, .int (nI r3), .int place] [.int (nI 0)] _ _ _ _
      refine mt_if_eq dX4_runAt_11 (tgt := 23) rfl (fun q24 => ?_) (fun q24 => ?_)
      · have q24 := (mI_eq0 (by omega)).mp q24
        refine mt_iconst dX4_runAt_23 (v := nI 0) rfl ?_
        refine mt_ireturn dX4_runAt_24 rfl rfl (Nat.le_of_ble_eq_true rfl) (Nat.le_of_ble_eq_true rfl) ?_
        exact mOkq.no (k := 1) (S' := S) (by simp only [sp_runAt, dAt_s (k := 4) hr3 (by first | decide | omega), dAt_n (k := (S.1 r3).length) (x := place) hq14, if_pos q24]) (by decide) rfl (by omega) c23c (by omega) (mRows.fr (n' := n) HR (by omega) (fun j j1 j2 j3 => c23d (j) (by omega)) (by omega)) (fun j hj => c23d j (by omega))
      · have q24 := (not_congr (mI_eq0 (by omega))).mp q24
        exact absurd q24 (by decide)
    · obtain ⟨hp15, rfl⟩ := inN_of hq14 (by first | decide | omega)
      refine mt_aload_n dX4_runAt_0 rfl rfl ?_
      refine mt_aload_n dX4_runAt_1 rfl rfl ?_
      refine mt_iload_n dX4_runAt_2 rfl ?_
      refine mt_iload_n dX4_runAt_3 rfl ?_
      refine mt_callV (N := mX4_isPlace) (Rc := rX4_isPlace) (As := [.int (nI r3), .int (nI p15)]) (st := [.ref 27]) dX4_runAt_4 (kX4_isPlace hl C0 HR (by omega) (by omega)) sX4_isPlace mw_1126 mKX4 rfl C0 rfl (Nat.le_of_ble_eq_true rfl) ⟨⟨Nat.le_of_ble_eq_true rfl, Nat.le_of_ble_eq_true rfl⟩, Nat.le_of_ble_eq_true rfl, Nat.le_of_ble_eq_true rfl⟩ (fun v25 h26 n27 c28 => ?_) (fun _ _ _ hx => hx.elim)
      obtain ⟨c28a, c28b, c28c⟩ := c28
      rw [show (inN (S.1 r3).length (nI p15)).isSome = true from by rw [inN_some hp15 (by omega)]; rfl] at c28a
      rw [c28a, c28b, c28c]
      show mT _ _ _ _ 7 [.ref 27, .int (nI r3), .int (nI p15)] [.int (nI 1), .ref 27] _ _ _ _
      refine mt_iconst dX4_runAt_7 (v := nI 1) rfl ?_
      refine mt_callV (N := mX4_isLet) (Rc := rX4_isLet) (As := [.int (nI 1), .int (nI 1)]) (st := []) dX4_runAt_8 (kX4_isLet (t := true) (f := true) hl C0) sX4_isLet mw_1092 mKX4 rfl C0 rfl (Nat.le_of_ble_eq_true rfl) ⟨⟨Nat.le_of_ble_eq_true rfl, Nat.le_of_ble_eq_true rfl⟩, Nat.le_of_ble_eq_true rfl, Nat.le_of_ble_eq_true rfl⟩ (fun v29 h30 n31 c32 => ?_) (fun _ _ _ hx => hx.elim)
      obtain ⟨c32a, c32b, c32c, c32d⟩ := c32
      rw [c32a, c32b]
      show mT _ _ _ _ 11 [.ref 27, .int (nI r3), .int (nI p15)] [.int (nI 1)] _ _ _ _
      refine mt_if_eq dX4_runAt_11 (tgt := 23) rfl (fun q33 => ?_) (fun q33 => ?_)
      · have q33 := (mI_eq0 (by omega)).mp q33
        exact absurd q33 (by decide)
      · have q33 := (not_congr (mI_eq0 (by omega))).mp q33
        refine mt_aload_n dX4_runAt_14 rfl rfl ?_
        refine mt_iload_n dX4_runAt_15 rfl ?_
        refine mt_iload_n dX4_runAt_16 rfl ?_
        refine mt_callV (N := mX4_behind) (Rc := rX4_behind) (As := [.int (nI r3), .int (nI p15)]) (st := []) dX4_runAt_17 (kX4_behind hl c32c (mRows.fr (n' := n) HR (by omega) (fun j j1 j2 j3 => c32d (j) (by omega)) (by omega)) (by omega) (by omega)) sX4_behind mw_1247 mKX4 rfl c32c rfl (Nat.le_of_ble_eq_true rfl) ⟨⟨Nat.le_of_ble_eq_true rfl, Nat.le_of_ble_eq_true rfl⟩, Nat.le_of_ble_eq_true rfl, Nat.le_of_ble_eq_true rfl⟩ (fun v34 h35 n36 c37 => ?_) (fun _ _ _ hx => hx.elim)
        obtain ⟨c37a, c37b, c37c⟩ := c37
        rw [c37a, c37b, c37c]
        show mT _ _ _ _ 20 [.ref 27, .int (nI r3), .int (nI p15)] [.int (nI (q_endOfRun (S.1 r3) p15 - p15))] _ _ _ _
        refine mt_goto dX4_runAt_20 (tgt := 24) rfl ?_
        refine mt_ireturn dX4_runAt_24 rfl rfl (Nat.le_of_ble_eq_true rfl) (Nat.le_of_ble_eq_true rfl) ?_
        exact mOkq.of (x := .int (nI (q_endOfRun (S.1 r3) p15 - p15))) (S' := ((S).1, S.2.1, S.2.2.1, S.2.2.2.1, S.2.2.2.2)) (by simp only [sp_runAt, dAt_s (k := 4) hr3 (by first | decide | omega), dAt_s (k := (S.1 r3).length) hp15 (by first | decide | omega), if_neg q33] <;> first | rfl | simp_all) rfl (by omega) c32c (by omega) (mRows.fr (n' := n) HR (by omega) (fun j j1 j2 j3 => c32d (j) (by omega)) (by omega)) (fun j hj => c32d j (by omega))
def mp_after (S : cS) (row : Int32) (place : Int32) : Nat × Value × cS := dAt S 4 row fun r => dAt S ((S.1 r).length - 1) place fun p => (0, .int (mq_pairs (S.1 r) (nI 1) + sideF (xk (S.1 r) (p + 1)) (xk (S.1 r) p)), S)
abbrev rX4_after : Room := { frames := 3, cells := 0, slots := 0, locals := 64 }
set_option maxRecDepth 100000 in
set_option maxHeartbeats 2000000 in
theorem kX4_after {l : Launch} (hl : l.stackTraces = false) {h : mH} {n : Nat} {S : cS} {th : Int32} {row : Int32} {place : Int32} (C : mAt h n S th) : mC l mX4_after rX4_after [.ref 27, .int row, .int place] h n (mOkq (mp_after S row place) (.int (nI 0)) h n) (mNX) := by
  obtain ⟨C0, h39, kx, sx, HR⟩ := id C
  obtain ⟨⟨gk_1, G28_1, GK_1⟩, ⟨gs_1, G33_1, GS_1⟩, AK_1, AS_1, NE_1, NQ_1, LE_1⟩ := id HR
  refine mm_enter hl (by decide +kernel) rfl rfl rfl (Nat.le_of_ble_eq_true rfl) ?_
  show mT _ _ _ _ 0 [.ref 27, .int row, .int place] [] _ _ 0 0
  rcases hq2 : inN 4 row with _ | r3
  · refine mt_aload_n dX4_after_0 rfl rfl ?_
    refine mt_aload_n dX4_after_1 rfl rfl ?_
    refine mt_iload_n dX4_after_2 rfl ?_
    refine mt_iload_n dX4_after_3 rfl ?_
    refine mt_callV (N := mX4_isPlace) (Rc := rX4_isPlace) (As := [.int row, .int place]) (st := [.ref 27]) dX4_after_4 (kX4_isPlace_f hl hq2) sX4_isPlace mw_1126 mKX4 rfl C0 rfl (Nat.le_of_ble_eq_true rfl) ⟨⟨Nat.le_of_ble_eq_true rfl, Nat.le_of_ble_eq_true rfl⟩, Nat.le_of_ble_eq_true rfl, Nat.le_of_ble_eq_true rfl⟩ (fun v4 h5 n6 c7 => ?_) (fun _ _ _ hx => hx.elim)
    obtain ⟨c7a, c7b, c7c⟩ := c7
    rw [c7a, c7b, c7c]
    show mT _ _ _ _ 7 [.ref 27, .int row, .int place] [.int (nI 0), .ref 27] _ _ _ _
    refine mt_if_eq dX4_after_7 (tgt := 25) rfl (fun q8 => ?_) (fun q8 => ?_)
    · have q8 := (mI_eq0 (by omega)).mp q8
      refine mt_iconst dX4_after_25 (v := nI 0) rfl ?_
      refine mt_iconst dX4_after_26 (v := nI 1) rfl ?_
      refine mt_callV (N := mX4_isLet) (Rc := rX4_isLet) (As := [.int (nI 0), .int (nI 1)]) (st := []) dX4_after_27 (kX4_isLet (t := false) (f := true) hl C0) sX4_isLet mw_1092 mKX4 rfl C0 rfl (Nat.le_of_ble_eq_true rfl) ⟨⟨Nat.le_of_ble_eq_true rfl, Nat.le_of_ble_eq_true rfl⟩, Nat.le_of_ble_eq_true rfl, Nat.le_of_ble_eq_true rfl⟩ (fun v9 h10 n11 c12 => ?_) (fun _ _ _ hx => hx.elim)
      obtain ⟨c12a, c12b, c12c, c12d⟩ := c12
      rw [c12a, c12b]
      show mT _ _ _ _ 30 [.ref 27, .int row, .int place] [.int (nI 0)] _ _ _ _
      refine mt_if_ne dX4_after_30 (tgt := 35) rfl (fun q13 => ?_) (fun q13 => ?_)
      · have q13 := (not_congr (mI_eq0 (by omega))).mp q13
        exact absurd q13 (by decide)
      · have q13 := (mI_eq0 (by omega)).mp q13
        refine mt_iconst dX4_after_33 (v := nI 0) rfl ?_
        refine mt_ireturn dX4_after_34 rfl rfl (Nat.le_of_ble_eq_true rfl) (Nat.le_of_ble_eq_true rfl) ?_
        exact mOkq.no (k := 1) (S' := S) (by simp only [mp_after, dAt_n (k := 4) (x := row) hq2, if_pos q8, if_pos q13]) (by decide) rfl (by omega) c12c (by omega) (mRows.fr (n' := n) HR (by omega) (fun j j1 j2 j3 => c12d (j) (by omega)) (by omega)) (fun j hj => c12d j (by omega))
    · have q8 := (not_congr (mI_eq0 (by omega))).mp q8
      exact absurd q8 (by decide)
  · obtain ⟨hr3, rfl⟩ := inN_of hq2 (by first | decide | omega)
    obtain ⟨⟨ka_14, kb_14, kc_14, kd_14⟩, kf_14, ke_14, kg_14⟩ := AK_1 r3 hr3
    obtain ⟨⟨sa_14, sb_14, sc_14, sd_14⟩, sf_14, se_14, sg_14⟩ := AS_1 r3 hr3
    have kn_14 := NE_1 r3 r3 hr3 hr3
    have kl_14 := LE_1 r3 hr3
    have km_14 := rroom_le (r := r3)
    rcases hq15 : inN ((S.1 r3).length - 1) place with _ | p16
    · rcases hq17 : inN (S.1 r3).length place with _ | p18
      · refine mt_aload_n dX4_after_0 rfl rfl ?_
        refine mt_aload_n dX4_after_1 rfl rfl ?_
        refine mt_iload_n dX4_after_2 rfl ?_
        refine mt_iload_n dX4_after_3 rfl ?_
        refine mt_callV (N := mX4_isPlace) (Rc := rX4_isPlace) (As := [.int (nI r3), .int place]) (st := [.ref 27]) dX4_after_4 (kX4_isPlace hl C0 HR (by omega) (by omega)) sX4_isPlace mw_1126 mKX4 rfl C0 rfl (Nat.le_of_ble_eq_true rfl) ⟨⟨Nat.le_of_ble_eq_true rfl, Nat.le_of_ble_eq_true rfl⟩, Nat.le_of_ble_eq_true rfl, Nat.le_of_ble_eq_true rfl⟩ (fun v19 h20 n21 c22 => ?_) (fun _ _ _ hx => hx.elim)
        obtain ⟨c22a, c22b, c22c⟩ := c22
        rw [show (inN (S.1 r3).length place).isSome = false from by rw [hq17]; rfl] at c22a
        rw [c22a, c22b, c22c]
        show mT _ _ _ _ 7 [.ref 27, .int (nI r3), .int place] [.int (nI 0), .ref 27] _ _ _ _
        refine mt_if_eq dX4_after_7 (tgt := 25) rfl (fun q23 => ?_) (fun q23 => ?_)
        · have q23 := (mI_eq0 (by omega)).mp q23
          refine mt_iconst dX4_after_25 (v := nI 0) rfl ?_
          refine mt_iconst dX4_after_26 (v := nI 1) rfl ?_
          refine mt_callV (N := mX4_isLet) (Rc := rX4_isLet) (As := [.int (nI 0), .int (nI 1)]) (st := []) dX4_after_27 (kX4_isLet (t := false) (f := true) hl C0) sX4_isLet mw_1092 mKX4 rfl C0 rfl (Nat.le_of_ble_eq_true rfl) ⟨⟨Nat.le_of_ble_eq_true rfl, Nat.le_of_ble_eq_true rfl⟩, Nat.le_of_ble_eq_true rfl, Nat.le_of_ble_eq_true rfl⟩ (fun v24 h25 n26 c27 => ?_) (fun _ _ _ hx => hx.elim)
          obtain ⟨c27a, c27b, c27c, c27d⟩ := c27
          rw [c27a, c27b]
          show mT _ _ _ _ 30 [.ref 27, .int (nI r3), .int place] [.int (nI 0)] _ _ _ _
          refine mt_if_ne dX4_after_30 (tgt := 35) rfl (fun q28 => ?_) (fun q28 => ?_)
          · have q28 := (not_congr (mI_eq0 (by omega))).mp q28
            exact absurd q28 (by decide)
          · have q28 := (mI_eq0 (by omega)).mp q28
            refine mt_iconst dX4_after_33 (v := nI 0) rfl ?_
            refine mt_ireturn dX4_after_34 rfl rfl (Nat.le_of_ble_eq_true rfl) (Nat.le_of_ble_eq_true rfl) ?_
            exact mOkq.no (k := 1) (S' := S) (by simp only [mp_after, dAt_s (k := 4) hr3 (by first | decide | omega), dAt_n (k := ((S.1 r3).length - 1)) (x := place) hq15, if_pos q23, if_pos q28]) (by decide) rfl (by omega) c27c (by omega) (mRows.fr (n' := n) HR (by omega) (fun j j1 j2 j3 => c27d (j) (by omega)) (by omega)) (fun j hj => c27d j (by omega))
        · have q23 := (not_congr (mI_eq0 (by omega))).mp q23
          exact absurd q23 (by decide)
      · obtain ⟨hp18, rfl⟩ := inN_of hq17 (by omega)
        have hno : ¬ p18 < (S.1 r3).length - 1 := fun z => by rw [inN_some z (by omega)] at hq15; cases hq15
        refine mt_aload_n dX4_after_0 rfl rfl ?_
        refine mt_aload_n dX4_after_1 rfl rfl ?_
        refine mt_iload_n dX4_after_2 rfl ?_
        refine mt_iload_n dX4_after_3 rfl ?_
        refine mt_callV (N := mX4_isPlace) (Rc := rX4_isPlace) (As := [.int (nI r3), .int (nI p18)]) (st := [.ref 27]) dX4_after_4 (kX4_isPlace hl C0 HR (by omega) (by omega)) sX4_isPlace mw_1126 mKX4 rfl C0 rfl (Nat.le_of_ble_eq_true rfl) ⟨⟨Nat.le_of_ble_eq_true rfl, Nat.le_of_ble_eq_true rfl⟩, Nat.le_of_ble_eq_true rfl, Nat.le_of_ble_eq_true rfl⟩ (fun v29 h30 n31 c32 => ?_) (fun _ _ _ hx => hx.elim)
        obtain ⟨c32a, c32b, c32c⟩ := c32
        rw [show (inN (S.1 r3).length (nI p18)).isSome = true from by rw [inN_some hp18 (by omega)]; rfl] at c32a
        rw [c32a, c32b, c32c]
        show mT _ _ _ _ 7 [.ref 27, .int (nI r3), .int (nI p18)] [.int (nI 1), .ref 27] _ _ _ _
        refine mt_if_eq dX4_after_7 (tgt := 25) rfl (fun q33 => ?_) (fun q33 => ?_)
        · have q33 := (mI_eq0 (by omega)).mp q33
          exact absurd q33 (by decide)
        · have q33 := (not_congr (mI_eq0 (by omega))).mp q33
          refine mt_aload_n dX4_after_10 rfl rfl ?_
          refine mt_iload_n dX4_after_11 rfl ?_
          refine mt_iload_n dX4_after_12 rfl ?_
          refine mt_iconst dX4_after_13 (v := nI 1) rfl ?_
          refine mp_iadd dX4_after_14 (v := nI (p18 + 1)) (nI_add _ _) ?_
          refine mt_callV (N := mX4_isPlace) (Rc := rX4_isPlace) (As := [.int (nI r3), .int (nI (p18 + 1))]) (st := [.ref 27]) dX4_after_15 (kX4_isPlace hl C0 HR (by omega) (by omega)) sX4_isPlace mw_1126 mKX4 rfl C0 rfl (Nat.le_of_ble_eq_true rfl) ⟨⟨Nat.le_of_ble_eq_true rfl, Nat.le_of_ble_eq_true rfl⟩, Nat.le_of_ble_eq_true rfl, Nat.le_of_ble_eq_true rfl⟩ (fun v34 h35 n36 c37 => ?_) (fun _ _ _ hx => hx.elim)
          obtain ⟨c37a, c37b, c37c⟩ := c37
          rw [show (inN (S.1 r3).length (nI (p18 + 1))).isSome = false from by rw [inN_out (by omega) (by omega)]; rfl] at c37a
          rw [c37a, c37b, c37c]
          show mT _ _ _ _ 18 [.ref 27, .int (nI r3), .int (nI p18)] [.int (nI 0), .ref 27] _ _ _ _
          refine mt_if_eq dX4_after_18 (tgt := 25) rfl (fun q38 => ?_) (fun q38 => ?_)
          · have q38 := (mI_eq0 (by omega)).mp q38
            refine mt_iconst dX4_after_25 (v := nI 0) rfl ?_
            refine mt_iconst dX4_after_26 (v := nI 1) rfl ?_
            refine mt_callV (N := mX4_isLet) (Rc := rX4_isLet) (As := [.int (nI 0), .int (nI 1)]) (st := []) dX4_after_27 (kX4_isLet (t := false) (f := true) hl C0) sX4_isLet mw_1092 mKX4 rfl C0 rfl (Nat.le_of_ble_eq_true rfl) ⟨⟨Nat.le_of_ble_eq_true rfl, Nat.le_of_ble_eq_true rfl⟩, Nat.le_of_ble_eq_true rfl, Nat.le_of_ble_eq_true rfl⟩ (fun v39 h40 n41 c42 => ?_) (fun _ _ _ hx => hx.elim)
            obtain ⟨c42a, c42b, c42c, c42d⟩ := c42
            rw [c42a, c42b]
            show mT _ _ _ _ 30 [.ref 27, .int (nI r3), .int (nI p18)] [.int (nI 0)] _ _ _ _
            refine mt_if_ne dX4_after_30 (tgt := 35) rfl (fun q43 => ?_) (fun q43 => ?_)
            · have q43 := (not_congr (mI_eq0 (by omega))).mp q43
              exact absurd q43 (by decide)
            · have q43 := (mI_eq0 (by omega)).mp q43
              refine mt_iconst dX4_after_33 (v := nI 0) rfl ?_
              refine mt_ireturn dX4_after_34 rfl rfl (Nat.le_of_ble_eq_true rfl) (Nat.le_of_ble_eq_true rfl) ?_
              exact mOkq.no (k := 1) (S' := S) (by simp only [mp_after, dAt_s (k := 4) hr3 (by first | decide | omega), dAt_n (k := ((S.1 r3).length - 1)) (x := nI p18) hq15, if_neg q33, if_pos q38, if_pos q43]) (by decide) rfl (by omega) c42c (by omega) (mRows.fr (n' := n) HR (by omega) (fun j j1 j2 j3 => c42d (j) (by omega)) (by omega)) (fun j hj => c42d j (by omega))
          · have q38 := (not_congr (mI_eq0 (by omega))).mp q38
            exact absurd q38 (by decide)
    · obtain ⟨hp16, rfl⟩ := inN_of hq15 (by first | decide | omega)
      refine mt_aload_n dX4_after_0 rfl rfl ?_
      refine mt_aload_n dX4_after_1 rfl rfl ?_
      refine mt_iload_n dX4_after_2 rfl ?_
      refine mt_iload_n dX4_after_3 rfl ?_
      refine mt_callV (N := mX4_isPlace) (Rc := rX4_isPlace) (As := [.int (nI r3), .int (nI p16)]) (st := [.ref 27]) dX4_after_4 (kX4_isPlace hl C0 HR (by omega) (by omega)) sX4_isPlace mw_1126 mKX4 rfl C0 rfl (Nat.le_of_ble_eq_true rfl) ⟨⟨Nat.le_of_ble_eq_true rfl, Nat.le_of_ble_eq_true rfl⟩, Nat.le_of_ble_eq_true rfl, Nat.le_of_ble_eq_true rfl⟩ (fun v44 h45 n46 c47 => ?_) (fun _ _ _ hx => hx.elim)
      obtain ⟨c47a, c47b, c47c⟩ := c47
      rw [show (inN (S.1 r3).length (nI p16)).isSome = true from by rw [inN_some (show p16 < (S.1 r3).length by omega) (by omega)]; rfl] at c47a
      rw [c47a, c47b, c47c]
      show mT _ _ _ _ 7 [.ref 27, .int (nI r3), .int (nI p16)] [.int (nI 1), .ref 27] _ _ _ _
      refine mt_if_eq dX4_after_7 (tgt := 25) rfl (fun q48 => ?_) (fun q48 => ?_)
      · have q48 := (mI_eq0 (by omega)).mp q48
        exact absurd q48 (by decide)
      · have q48 := (not_congr (mI_eq0 (by omega))).mp q48
        refine mt_aload_n dX4_after_10 rfl rfl ?_
        refine mt_iload_n dX4_after_11 rfl ?_
        refine mt_iload_n dX4_after_12 rfl ?_
        refine mt_iconst dX4_after_13 (v := nI 1) rfl ?_
        refine mp_iadd dX4_after_14 (v := nI (p16 + 1)) (nI_add _ _) ?_
        refine mt_callV (N := mX4_isPlace) (Rc := rX4_isPlace) (As := [.int (nI r3), .int (nI (p16 + 1))]) (st := [.ref 27]) dX4_after_15 (kX4_isPlace hl C0 HR (by omega) (by omega)) sX4_isPlace mw_1126 mKX4 rfl C0 rfl (Nat.le_of_ble_eq_true rfl) ⟨⟨Nat.le_of_ble_eq_true rfl, Nat.le_of_ble_eq_true rfl⟩, Nat.le_of_ble_eq_true rfl, Nat.le_of_ble_eq_true rfl⟩ (fun v49 h50 n51 c52 => ?_) (fun _ _ _ hx => hx.elim)
        obtain ⟨c52a, c52b, c52c⟩ := c52
        rw [show (inN (S.1 r3).length (nI (p16 + 1))).isSome = true from by rw [inN_some (show p16 + 1 < (S.1 r3).length by omega) (by omega)]; rfl] at c52a
        rw [c52a, c52b, c52c]
        show mT _ _ _ _ 18 [.ref 27, .int (nI r3), .int (nI p16)] [.int (nI 1), .ref 27] _ _ _ _
        refine mt_if_eq dX4_after_18 (tgt := 25) rfl (fun q53 => ?_) (fun q53 => ?_)
        · have q53 := (mI_eq0 (by omega)).mp q53
          exact absurd q53 (by decide)
        · have q53 := (not_congr (mI_eq0 (by omega))).mp q53
          refine mt_iconst dX4_after_21 (v := nI 1) rfl ?_
          refine mt_goto dX4_after_22 (tgt := 26) rfl ?_
          refine mt_iconst dX4_after_26 (v := nI 1) rfl ?_
          refine mt_callV (N := mX4_isLet) (Rc := rX4_isLet) (As := [.int (nI 1), .int (nI 1)]) (st := []) dX4_after_27 (kX4_isLet (t := true) (f := true) hl C0) sX4_isLet mw_1092 mKX4 rfl C0 rfl (Nat.le_of_ble_eq_true rfl) ⟨⟨Nat.le_of_ble_eq_true rfl, Nat.le_of_ble_eq_true rfl⟩, Nat.le_of_ble_eq_true rfl, Nat.le_of_ble_eq_true rfl⟩ (fun v54 h55 n56 c57 => ?_) (fun _ _ _ hx => hx.elim)
          obtain ⟨c57a, c57b, c57c, c57d⟩ := c57
          rw [c57a, c57b]
          show mT _ _ _ _ 30 [.ref 27, .int (nI r3), .int (nI p16)] [.int (nI 1)] _ _ _ _
          refine mt_if_ne dX4_after_30 (tgt := 35) rfl (fun q58 => ?_) (fun q58 => ?_)
          · have q58 := (not_congr (mI_eq0 (by omega))).mp q58
            refine mt_aload_n dX4_after_35 rfl rfl ?_
            refine mt_iload_n dX4_after_36 rfl ?_
            refine mt_iconst dX4_after_37 (v := nI 1) rfl ?_
            refine mt_callV (N := mX4_pairs) (Rc := rX4_pairs) (As := [.int (nI r3), .int (nI 1)]) (st := []) dX4_after_38 (kX4_pairs hl c57c (mRows.fr (n' := n) HR (by omega) (fun j j1 j2 j3 => c57d (j) (by omega)) (by omega)) (by omega)) sX4_pairs mw_1146 mKX4 rfl c57c rfl (Nat.le_of_ble_eq_true rfl) ⟨⟨Nat.le_of_ble_eq_true rfl, Nat.le_of_ble_eq_true rfl⟩, Nat.le_of_ble_eq_true rfl, Nat.le_of_ble_eq_true rfl⟩ (fun v59 h60 n61 c62 => ?_) (fun _ _ _ hx => hx.elim)
            obtain ⟨c62a, c62b, c62c⟩ := c62
            rw [c62a, c62b, c62c]
            show mT _ _ _ _ 41 [.ref 27, .int (nI r3), .int (nI p16)] [.int (mq_pairs (S.1 r3) (nI 1))] _ _ _ _
            refine mt_aload_n dX4_after_41 rfl rfl ?_
            refine mt_getfield mKX4 (i := 0) (by decide) mw_1053 dX4_after_42 c57c rfl ?_
            refine mt_iload_n dX4_after_45 rfl ?_
            refine mp_aaload dX4_after_46 ((c57d (28) (by omega)).trans G28_1) (fun _ => rfl) rfl rfl (by omega) (by omega) (v := .ref (kx r3)) (by rw [GK_1 _ (by omega)]; rfl) ?_
            refine mt_iload_n dX4_after_47 rfl ?_
            refine mt_iconst dX4_after_48 (v := nI 1) rfl ?_
            refine mp_iadd dX4_after_49 (v := nI (p16 + 1)) (nI_add _ _) ?_
            refine mp_iaload dX4_after_50 ((c57d (kx r3) (by omega)).trans ke_14) rfl (by omega) (by omega) (v := xk (S.1 r3) (p16 + 1)) (kg_14 _ (by omega)) ?_
            refine mt_aload_n dX4_after_51 rfl rfl ?_
            refine mt_getfield mKX4 (i := 0) (by decide) mw_1053 dX4_after_52 c57c rfl ?_
            refine mt_iload_n dX4_after_55 rfl ?_
            refine mp_aaload dX4_after_56 ((c57d (28) (by omega)).trans G28_1) (fun _ => rfl) rfl rfl (by omega) (by omega) (v := .ref (kx r3)) (by rw [GK_1 _ (by omega)]; rfl) ?_
            refine mt_iload_n dX4_after_57 rfl ?_
            refine mp_iaload dX4_after_58 ((c57d (kx r3) (by omega)).trans ke_14) rfl (by omega) (by omega) (v := xk (S.1 r3) p16) (kg_14 _ (by omega)) ?_
            refine mt_callS (N := mX4_side) (Rc := rX4_side) (As := [.int (xk (S.1 r3) (p16 + 1)), .int (xk (S.1 r3) p16)]) (st := [.int (mq_pairs (S.1 r3) (nI 1))]) dX4_after_59 (kX4_side hl) sX4_side mw_1150 rfl (Nat.le_of_ble_eq_true rfl) ⟨⟨Nat.le_of_ble_eq_true rfl, Nat.le_of_ble_eq_true rfl⟩, Nat.le_of_ble_eq_true rfl, Nat.le_of_ble_eq_true rfl⟩ (fun v63 h64 n65 c66 => ?_) (fun _ _ _ hx => hx.elim)
            obtain ⟨c66a, c66b, c66c⟩ := c66
            rw [c66a, c66b, c66c]
            show mT _ _ _ _ 62 [.ref 27, .int (nI r3), .int (nI p16)] [.int (sideF (xk (S.1 r3) (p16 + 1)) (xk (S.1 r3) p16)), .int (mq_pairs (S.1 r3) (nI 1))] _ _ _ _
            refine mp_iadd dX4_after_62 (v := (mq_pairs (S.1 r3) (nI 1)) + (sideF (xk (S.1 r3) (p16 + 1)) (xk (S.1 r3) p16))) rfl ?_
            refine mt_ireturn dX4_after_63 rfl rfl (Nat.le_of_ble_eq_true rfl) (Nat.le_of_ble_eq_true rfl) ?_
            exact mOkq.of (x := .int ((mq_pairs (S.1 r3) (nI 1)) + (sideF (xk (S.1 r3) (p16 + 1)) (xk (S.1 r3) p16)))) (S' := ((S).1, S.2.1, S.2.2.1, S.2.2.2.1, S.2.2.2.2)) (by simp only [mp_after, dAt_s (k := 4) hr3 (by first | decide | omega), dAt_s (k := ((S.1 r3).length - 1)) hp16 (by first | decide | omega), if_neg q48, if_neg q53, if_neg q58] <;> first | rfl | simp_all) rfl (by omega) c57c (by omega) (mRows.fr (n' := n) HR (by omega) (fun j j1 j2 j3 => c57d (j) (by omega)) (by omega)) (fun j hj => c57d j (by omega))
          · have q58 := (mI_eq0 (by omega)).mp q58
            exact absurd q58 (by decide)
def mp_count (S : cS) (row : Int32) (key : Int32) : Nat × Value × cS := dAt S 4 row fun r => dFit S (keyOk key) (0, .int (mq_often (S.1 r) key (nI 0)), S)
abbrev rX4_count : Room := { frames := 2, cells := 0, slots := 0, locals := 49 }
set_option maxRecDepth 100000 in
set_option maxHeartbeats 2000000 in
theorem kX4_count {l : Launch} (hl : l.stackTraces = false) {h : mH} {n : Nat} {S : cS} {th : Int32} {row : Int32} {key : Int32} (C : mAt h n S th) : mC l mX4_count rX4_count [.ref 27, .int row, .int key] h n (mOkq (mp_count S row key) (.int (nI 0)) h n) (mNX) := by
  obtain ⟨C0, h39, kx, sx, HR⟩ := id C
  obtain ⟨⟨gk_1, G28_1, GK_1⟩, ⟨gs_1, G33_1, GS_1⟩, AK_1, AS_1, NE_1, NQ_1, LE_1⟩ := id HR
  refine mm_enter hl (by decide +kernel) rfl rfl rfl (Nat.le_of_ble_eq_true rfl) ?_
  show mT _ _ _ _ 0 [.ref 27, .int row, .int key] [] _ _ 0 0
  rcases hq2 : inN 4 row with _ | r3
  · refine mt_aload_n dX4_count_0 rfl rfl ?_
    refine mt_iload_n dX4_count_1 rfl ?_
    refine mt_callS (N := mX4_isRow) (Rc := rX4_isRow) (As := [.int row]) (st := [.ref 27]) dX4_count_2 (kX4_isRow hl) sX4_isRow mw_1083 rfl (Nat.le_of_ble_eq_true rfl) ⟨⟨Nat.le_of_ble_eq_true rfl, Nat.le_of_ble_eq_true rfl⟩, Nat.le_of_ble_eq_true rfl, Nat.le_of_ble_eq_true rfl⟩ (fun v4 h5 n6 c7 => ?_) (fun _ _ _ hx => hx.elim)
    obtain ⟨c7a, c7b, c7c⟩ := c7
    rw [show (inN 4 row).isSome = false from by rw [hq2]; rfl] at c7a
    rw [c7a, c7b, c7c]
    show mT _ _ _ _ 5 [.ref 27, .int row, .int key] [.int (nI 0), .ref 27] _ _ _ _
    refine mt_iload_n dX4_count_5 rfl ?_
    refine mt_ldc (v := (-99999)) dX4_count_6 mw_1113 ?_
    refine mt_ldc (v := nI 99999) dX4_count_8 mw_1114 ?_
    refine mt_callS (N := mX4_isIn) (Rc := rX4_isIn) (As := [.int key, .int (-99999), .int (nI 99999)]) (st := [.int (nI 0), .ref 27]) dX4_count_10 (kX4_isIn hl) sX4_isIn mw_1086 rfl (Nat.le_of_ble_eq_true rfl) ⟨⟨Nat.le_of_ble_eq_true rfl, Nat.le_of_ble_eq_true rfl⟩, Nat.le_of_ble_eq_true rfl, Nat.le_of_ble_eq_true rfl⟩ (fun v8 h9 n10 c11 => ?_) (fun _ _ _ hx => hx.elim)
    obtain ⟨c11a, c11b, c11c⟩ := c11
    rw [c11a, c11b, c11c]
    show mT _ _ _ _ 13 [.ref 27, .int row, .int key] [.int (mb (inR key (-99999) (nI 99999))), .int (nI 0), .ref 27] _ _ _ _
    refine mt_callV (N := mX4_isLet) (Rc := rX4_isLet) (As := [.int (nI 0), .int (mb (inR key (-99999) (nI 99999)))]) (st := []) dX4_count_13 (kX4_isLet (t := false) (f := inR key (-99999) (nI 99999)) hl C0) sX4_isLet mw_1092 mKX4 rfl C0 rfl (Nat.le_of_ble_eq_true rfl) ⟨⟨Nat.le_of_ble_eq_true rfl, Nat.le_of_ble_eq_true rfl⟩, Nat.le_of_ble_eq_true rfl, Nat.le_of_ble_eq_true rfl⟩ (fun v12 h13 n14 c15 => ?_) (fun _ _ _ hx => hx.elim)
    obtain ⟨c15a, c15b, c15c, c15d⟩ := c15
    rw [c15a, c15b]
    show mT _ _ _ _ 16 [.ref 27, .int row, .int key] [.int (nI 0)] _ _ _ _
    refine mt_if_eq dX4_count_16 (tgt := 29) rfl (fun q16 => ?_) (fun q16 => ?_)
    · have q16 := (mI_eq0 (by omega)).mp q16
      refine mt_iconst dX4_count_29 (v := nI 0) rfl ?_
      refine mt_ireturn dX4_count_30 rfl rfl (Nat.le_of_ble_eq_true rfl) (Nat.le_of_ble_eq_true rfl) ?_
      exact mOkq.no (k := 1) (S' := S) (by simp only [mp_count, dAt_n (k := 4) (x := row) hq2, if_pos q16]) (by decide) rfl (by omega) c15c (by omega) (mRows.fr (n' := n) HR (by omega) (fun j j1 j2 j3 => c15d (j) (by omega)) (by omega)) (fun j hj => c15d j (by omega))
    · have q16 := (not_congr (mI_eq0 (by omega))).mp q16
      exact absurd q16 (by decide)
  · obtain ⟨hr3, rfl⟩ := inN_of hq2 (by first | decide | omega)
    obtain ⟨⟨ka_17, kb_17, kc_17, kd_17⟩, kf_17, ke_17, kg_17⟩ := AK_1 r3 hr3
    obtain ⟨⟨sa_17, sb_17, sc_17, sd_17⟩, sf_17, se_17, sg_17⟩ := AS_1 r3 hr3
    have kn_17 := NE_1 r3 r3 hr3 hr3
    have kl_17 := LE_1 r3 hr3
    have km_17 := rroom_le (r := r3)
    rcases hk18 : keyOk key with _ | _
    · refine mt_aload_n dX4_count_0 rfl rfl ?_
      refine mt_iload_n dX4_count_1 rfl ?_
      refine mt_callS (N := mX4_isRow) (Rc := rX4_isRow) (As := [.int (nI r3)]) (st := [.ref 27]) dX4_count_2 (kX4_isRow hl) sX4_isRow mw_1083 rfl (Nat.le_of_ble_eq_true rfl) ⟨⟨Nat.le_of_ble_eq_true rfl, Nat.le_of_ble_eq_true rfl⟩, Nat.le_of_ble_eq_true rfl, Nat.le_of_ble_eq_true rfl⟩ (fun v19 h20 n21 c22 => ?_) (fun _ _ _ hx => hx.elim)
      obtain ⟨c22a, c22b, c22c⟩ := c22
      rw [show (inN 4 (nI r3)).isSome = true from by rw [inN_some hr3 (by decide)]; rfl] at c22a
      rw [c22a, c22b, c22c]
      show mT _ _ _ _ 5 [.ref 27, .int (nI r3), .int key] [.int (nI 1), .ref 27] _ _ _ _
      refine mt_iload_n dX4_count_5 rfl ?_
      refine mt_ldc (v := (-99999)) dX4_count_6 mw_1113 ?_
      refine mt_ldc (v := nI 99999) dX4_count_8 mw_1114 ?_
      refine mt_callS (N := mX4_isIn) (Rc := rX4_isIn) (As := [.int key, .int (-99999), .int (nI 99999)]) (st := [.int (nI 1), .ref 27]) dX4_count_10 (kX4_isIn hl) sX4_isIn mw_1086 rfl (Nat.le_of_ble_eq_true rfl) ⟨⟨Nat.le_of_ble_eq_true rfl, Nat.le_of_ble_eq_true rfl⟩, Nat.le_of_ble_eq_true rfl, Nat.le_of_ble_eq_true rfl⟩ (fun v23 h24 n25 c26 => ?_) (fun _ _ _ hx => hx.elim)
      obtain ⟨c26a, c26b, c26c⟩ := c26
      rw [show inR key (-99999) (nI 99999) = false from hk18] at c26a
      rw [c26a, c26b, c26c]
      show mT _ _ _ _ 13 [.ref 27, .int (nI r3), .int key] [.int (nI 0), .int (nI 1), .ref 27] _ _ _ _
      refine mt_callV (N := mX4_isLet) (Rc := rX4_isLet) (As := [.int (nI 1), .int (nI 0)]) (st := []) dX4_count_13 (kX4_isLet (t := true) (f := false) hl C0) sX4_isLet mw_1092 mKX4 rfl C0 rfl (Nat.le_of_ble_eq_true rfl) ⟨⟨Nat.le_of_ble_eq_true rfl, Nat.le_of_ble_eq_true rfl⟩, Nat.le_of_ble_eq_true rfl, Nat.le_of_ble_eq_true rfl⟩ (fun v27 h28 n29 c30 => ?_) (fun _ _ _ hx => hx.elim)
      obtain ⟨c30a, c30b, c30c, c30d⟩ := c30
      rw [c30a, c30b]
      show mT _ _ _ _ 16 [.ref 27, .int (nI r3), .int key] [.int (nI 0)] _ _ _ _
      refine mt_if_eq dX4_count_16 (tgt := 29) rfl (fun q31 => ?_) (fun q31 => ?_)
      · have q31 := (mI_eq0 (by omega)).mp q31
        refine mt_iconst dX4_count_29 (v := nI 0) rfl ?_
        refine mt_ireturn dX4_count_30 rfl rfl (Nat.le_of_ble_eq_true rfl) (Nat.le_of_ble_eq_true rfl) ?_
        exact mOkq.no (k := 2) (S' := S) (by simp only [mp_count, dAt_s (k := 4) hr3 (by first | decide | omega), dFit_n hk18, if_pos q31]) (by decide) rfl (by omega) c30c (by omega) (mRows.fr (n' := n) HR (by omega) (fun j j1 j2 j3 => c30d (j) (by omega)) (by omega)) (fun j hj => c30d j (by omega))
      · have q31 := (not_congr (mI_eq0 (by omega))).mp q31
        exact absurd q31 (by decide)
    · refine mt_aload_n dX4_count_0 rfl rfl ?_
      refine mt_iload_n dX4_count_1 rfl ?_
      refine mt_callS (N := mX4_isRow) (Rc := rX4_isRow) (As := [.int (nI r3)]) (st := [.ref 27]) dX4_count_2 (kX4_isRow hl) sX4_isRow mw_1083 rfl (Nat.le_of_ble_eq_true rfl) ⟨⟨Nat.le_of_ble_eq_true rfl, Nat.le_of_ble_eq_true rfl⟩, Nat.le_of_ble_eq_true rfl, Nat.le_of_ble_eq_true rfl⟩ (fun v32 h33 n34 c35 => ?_) (fun _ _ _ hx => hx.elim)
      obtain ⟨c35a, c35b, c35c⟩ := c35
      rw [show (inN 4 (nI r3)).isSome = true from by rw [inN_some hr3 (by decide)]; rfl] at c35a
      rw [c35a, c35b, c35c]
      show mT _ _ _ _ 5 [.ref 27, .int (nI r3), .int key] [.int (nI 1), .ref 27] _ _ _ _
      refine mt_iload_n dX4_count_5 rfl ?_
      refine mt_ldc (v := (-99999)) dX4_count_6 mw_1113 ?_
      refine mt_ldc (v := nI 99999) dX4_count_8 mw_1114 ?_
      refine mt_callS (N := mX4_isIn) (Rc := rX4_isIn) (As := [.int key, .int (-99999), .int (nI 99999)]) (st := [.int (nI 1), .ref 27]) dX4_count_10 (kX4_isIn hl) sX4_isIn mw_1086 rfl (Nat.le_of_ble_eq_true rfl) ⟨⟨Nat.le_of_ble_eq_true rfl, Nat.le_of_ble_eq_true rfl⟩, Nat.le_of_ble_eq_true rfl, Nat.le_of_ble_eq_true rfl⟩ (fun v36 h37 n38 c39 => ?_) (fun _ _ _ hx => hx.elim)
      obtain ⟨c39a, c39b, c39c⟩ := c39
      rw [show inR key (-99999) (nI 99999) = true from hk18] at c39a
      rw [c39a, c39b, c39c]
      show mT _ _ _ _ 13 [.ref 27, .int (nI r3), .int key] [.int (nI 1), .int (nI 1), .ref 27] _ _ _ _
      refine mt_callV (N := mX4_isLet) (Rc := rX4_isLet) (As := [.int (nI 1), .int (nI 1)]) (st := []) dX4_count_13 (kX4_isLet (t := true) (f := true) hl C0) sX4_isLet mw_1092 mKX4 rfl C0 rfl (Nat.le_of_ble_eq_true rfl) ⟨⟨Nat.le_of_ble_eq_true rfl, Nat.le_of_ble_eq_true rfl⟩, Nat.le_of_ble_eq_true rfl, Nat.le_of_ble_eq_true rfl⟩ (fun v40 h41 n42 c43 => ?_) (fun _ _ _ hx => hx.elim)
      obtain ⟨c43a, c43b, c43c, c43d⟩ := c43
      rw [c43a, c43b]
      show mT _ _ _ _ 16 [.ref 27, .int (nI r3), .int key] [.int (nI 1)] _ _ _ _
      refine mt_if_eq dX4_count_16 (tgt := 29) rfl (fun q44 => ?_) (fun q44 => ?_)
      · have q44 := (mI_eq0 (by omega)).mp q44
        exact absurd q44 (by decide)
      · have q44 := (not_congr (mI_eq0 (by omega))).mp q44
        refine mt_aload_n dX4_count_19 rfl rfl ?_
        refine mt_iload_n dX4_count_20 rfl ?_
        refine mt_iload_n dX4_count_21 rfl ?_
        refine mt_iconst dX4_count_22 (v := nI 0) rfl ?_
        refine mt_callV (N := mX4_often) (Rc := rX4_often) (As := [.int (nI r3), .int key, .int (nI 0)]) (st := []) dX4_count_23 (kX4_often hl c43c (mRows.fr (n' := n) HR (by omega) (fun j j1 j2 j3 => c43d (j) (by omega)) (by omega)) (by omega)) sX4_often mw_1299 mKX4 rfl c43c rfl (Nat.le_of_ble_eq_true rfl) ⟨⟨Nat.le_of_ble_eq_true rfl, Nat.le_of_ble_eq_true rfl⟩, Nat.le_of_ble_eq_true rfl, Nat.le_of_ble_eq_true rfl⟩ (fun v45 h46 n47 c48 => ?_) (fun _ _ _ hx => hx.elim)
        obtain ⟨c48a, c48b, c48c⟩ := c48
        rw [c48a, c48b, c48c]
        show mT _ _ _ _ 26 [.ref 27, .int (nI r3), .int key] [.int (mq_often (S.1 r3) key (nI 0))] _ _ _ _
        refine mt_goto dX4_count_26 (tgt := 30) rfl ?_
        refine mt_ireturn dX4_count_30 rfl rfl (Nat.le_of_ble_eq_true rfl) (Nat.le_of_ble_eq_true rfl) ?_
        exact mOkq.of (x := .int (mq_often (S.1 r3) key (nI 0))) (S' := ((S).1, S.2.1, S.2.2.1, S.2.2.2.1, S.2.2.2.2)) (by simp only [mp_count, dAt_s (k := 4) hr3 (by first | decide | omega), dFit_s hk18, if_neg q44] <;> first | rfl | simp_all) rfl (by omega) c43c (by omega) (mRows.fr (n' := n) HR (by omega) (fun j j1 j2 j3 => c43d (j) (by omega)) (by omega)) (fun j hj => c43d j (by omega))
def mp_below (S : cS) (row : Int32) (key : Int32) : Nat × Value × cS := dAt S 4 row fun r => dFit S (keyOk key) (0, .int (mq_often (S.1 r) key (-1)), S)
abbrev rX4_below : Room := { frames := 2, cells := 0, slots := 0, locals := 49 }
set_option maxRecDepth 100000 in
set_option maxHeartbeats 2000000 in
theorem kX4_below {l : Launch} (hl : l.stackTraces = false) {h : mH} {n : Nat} {S : cS} {th : Int32} {row : Int32} {key : Int32} (C : mAt h n S th) : mC l mX4_below rX4_below [.ref 27, .int row, .int key] h n (mOkq (mp_below S row key) (.int (nI 0)) h n) (mNX) := by
  obtain ⟨C0, h39, kx, sx, HR⟩ := id C
  obtain ⟨⟨gk_1, G28_1, GK_1⟩, ⟨gs_1, G33_1, GS_1⟩, AK_1, AS_1, NE_1, NQ_1, LE_1⟩ := id HR
  refine mm_enter hl (by decide +kernel) rfl rfl rfl (Nat.le_of_ble_eq_true rfl) ?_
  show mT _ _ _ _ 0 [.ref 27, .int row, .int key] [] _ _ 0 0
  rcases hq2 : inN 4 row with _ | r3
  · refine mt_aload_n dX4_below_0 rfl rfl ?_
    refine mt_iload_n dX4_below_1 rfl ?_
    refine mt_callS (N := mX4_isRow) (Rc := rX4_isRow) (As := [.int row]) (st := [.ref 27]) dX4_below_2 (kX4_isRow hl) sX4_isRow mw_1083 rfl (Nat.le_of_ble_eq_true rfl) ⟨⟨Nat.le_of_ble_eq_true rfl, Nat.le_of_ble_eq_true rfl⟩, Nat.le_of_ble_eq_true rfl, Nat.le_of_ble_eq_true rfl⟩ (fun v4 h5 n6 c7 => ?_) (fun _ _ _ hx => hx.elim)
    obtain ⟨c7a, c7b, c7c⟩ := c7
    rw [show (inN 4 row).isSome = false from by rw [hq2]; rfl] at c7a
    rw [c7a, c7b, c7c]
    show mT _ _ _ _ 5 [.ref 27, .int row, .int key] [.int (nI 0), .ref 27] _ _ _ _
    refine mt_iload_n dX4_below_5 rfl ?_
    refine mt_ldc (v := (-99999)) dX4_below_6 mw_1113 ?_
    refine mt_ldc (v := nI 99999) dX4_below_8 mw_1114 ?_
    refine mt_callS (N := mX4_isIn) (Rc := rX4_isIn) (As := [.int key, .int (-99999), .int (nI 99999)]) (st := [.int (nI 0), .ref 27]) dX4_below_10 (kX4_isIn hl) sX4_isIn mw_1086 rfl (Nat.le_of_ble_eq_true rfl) ⟨⟨Nat.le_of_ble_eq_true rfl, Nat.le_of_ble_eq_true rfl⟩, Nat.le_of_ble_eq_true rfl, Nat.le_of_ble_eq_true rfl⟩ (fun v8 h9 n10 c11 => ?_) (fun _ _ _ hx => hx.elim)
    obtain ⟨c11a, c11b, c11c⟩ := c11
    rw [c11a, c11b, c11c]
    show mT _ _ _ _ 13 [.ref 27, .int row, .int key] [.int (mb (inR key (-99999) (nI 99999))), .int (nI 0), .ref 27] _ _ _ _
    refine mt_callV (N := mX4_isLet) (Rc := rX4_isLet) (As := [.int (nI 0), .int (mb (inR key (-99999) (nI 99999)))]) (st := []) dX4_below_13 (kX4_isLet (t := false) (f := inR key (-99999) (nI 99999)) hl C0) sX4_isLet mw_1092 mKX4 rfl C0 rfl (Nat.le_of_ble_eq_true rfl) ⟨⟨Nat.le_of_ble_eq_true rfl, Nat.le_of_ble_eq_true rfl⟩, Nat.le_of_ble_eq_true rfl, Nat.le_of_ble_eq_true rfl⟩ (fun v12 h13 n14 c15 => ?_) (fun _ _ _ hx => hx.elim)
    obtain ⟨c15a, c15b, c15c, c15d⟩ := c15
    rw [c15a, c15b]
    show mT _ _ _ _ 16 [.ref 27, .int row, .int key] [.int (nI 0)] _ _ _ _
    refine mt_if_eq dX4_below_16 (tgt := 29) rfl (fun q16 => ?_) (fun q16 => ?_)
    · have q16 := (mI_eq0 (by omega)).mp q16
      refine mt_iconst dX4_below_29 (v := nI 0) rfl ?_
      refine mt_ireturn dX4_below_30 rfl rfl (Nat.le_of_ble_eq_true rfl) (Nat.le_of_ble_eq_true rfl) ?_
      exact mOkq.no (k := 1) (S' := S) (by simp only [mp_below, dAt_n (k := 4) (x := row) hq2, if_pos q16]) (by decide) rfl (by omega) c15c (by omega) (mRows.fr (n' := n) HR (by omega) (fun j j1 j2 j3 => c15d (j) (by omega)) (by omega)) (fun j hj => c15d j (by omega))
    · have q16 := (not_congr (mI_eq0 (by omega))).mp q16
      exact absurd q16 (by decide)
  · obtain ⟨hr3, rfl⟩ := inN_of hq2 (by first | decide | omega)
    obtain ⟨⟨ka_17, kb_17, kc_17, kd_17⟩, kf_17, ke_17, kg_17⟩ := AK_1 r3 hr3
    obtain ⟨⟨sa_17, sb_17, sc_17, sd_17⟩, sf_17, se_17, sg_17⟩ := AS_1 r3 hr3
    have kn_17 := NE_1 r3 r3 hr3 hr3
    have kl_17 := LE_1 r3 hr3
    have km_17 := rroom_le (r := r3)
    rcases hk18 : keyOk key with _ | _
    · refine mt_aload_n dX4_below_0 rfl rfl ?_
      refine mt_iload_n dX4_below_1 rfl ?_
      refine mt_callS (N := mX4_isRow) (Rc := rX4_isRow) (As := [.int (nI r3)]) (st := [.ref 27]) dX4_below_2 (kX4_isRow hl) sX4_isRow mw_1083 rfl (Nat.le_of_ble_eq_true rfl) ⟨⟨Nat.le_of_ble_eq_true rfl, Nat.le_of_ble_eq_true rfl⟩, Nat.le_of_ble_eq_true rfl, Nat.le_of_ble_eq_true rfl⟩ (fun v19 h20 n21 c22 => ?_) (fun _ _ _ hx => hx.elim)
      obtain ⟨c22a, c22b, c22c⟩ := c22
      rw [show (inN 4 (nI r3)).isSome = true from by rw [inN_some hr3 (by decide)]; rfl] at c22a
      rw [c22a, c22b, c22c]
      show mT _ _ _ _ 5 [.ref 27, .int (nI r3), .int key] [.int (nI 1), .ref 27] _ _ _ _
      refine mt_iload_n dX4_below_5 rfl ?_
      refine mt_ldc (v := (-99999)) dX4_below_6 mw_1113 ?_
      refine mt_ldc (v := nI 99999) dX4_below_8 mw_1114 ?_
      refine mt_callS (N := mX4_isIn) (Rc := rX4_isIn) (As := [.int key, .int (-99999), .int (nI 99999)]) (st := [.int (nI 1), .ref 27]) dX4_below_10 (kX4_isIn hl) sX4_isIn mw_1086 rfl (Nat.le_of_ble_eq_true rfl) ⟨⟨Nat.le_of_ble_eq_true rfl, Nat.le_of_ble_eq_true rfl⟩, Nat.le_of_ble_eq_true rfl, Nat.le_of_ble_eq_true rfl⟩ (fun v23 h24 n25 c26 => ?_) (fun _ _ _ hx => hx.elim)
      obtain ⟨c26a, c26b, c26c⟩ := c26
      rw [show inR key (-99999) (nI 99999) = false from hk18] at c26a
      rw [c26a, c26b, c26c]
      show mT _ _ _ _ 13 [.ref 27, .int (nI r3), .int key] [.int (nI 0), .int (nI 1), .ref 27] _ _ _ _
      refine mt_callV (N := mX4_isLet) (Rc := rX4_isLet) (As := [.int (nI 1), .int (nI 0)]) (st := []) dX4_below_13 (kX4_isLet (t := true) (f := false) hl C0) sX4_isLet mw_1092 mKX4 rfl C0 rfl (Nat.le_of_ble_eq_true rfl) ⟨⟨Nat.le_of_ble_eq_true rfl, Nat.le_of_ble_eq_true rfl⟩, Nat.le_of_ble_eq_true rfl, Nat.le_of_ble_eq_true rfl⟩ (fun v27 h28 n29 c30 => ?_) (fun _ _ _ hx => hx.elim)
      obtain ⟨c30a, c30b, c30c, c30d⟩ := c30
      rw [c30a, c30b]
      show mT _ _ _ _ 16 [.ref 27, .int (nI r3), .int key] [.int (nI 0)] _ _ _ _
      refine mt_if_eq dX4_below_16 (tgt := 29) rfl (fun q31 => ?_) (fun q31 => ?_)
      · have q31 := (mI_eq0 (by omega)).mp q31
        refine mt_iconst dX4_below_29 (v := nI 0) rfl ?_
        refine mt_ireturn dX4_below_30 rfl rfl (Nat.le_of_ble_eq_true rfl) (Nat.le_of_ble_eq_true rfl) ?_
        exact mOkq.no (k := 2) (S' := S) (by simp only [mp_below, dAt_s (k := 4) hr3 (by first | decide | omega), dFit_n hk18, if_pos q31]) (by decide) rfl (by omega) c30c (by omega) (mRows.fr (n' := n) HR (by omega) (fun j j1 j2 j3 => c30d (j) (by omega)) (by omega)) (fun j hj => c30d j (by omega))
      · have q31 := (not_congr (mI_eq0 (by omega))).mp q31
        exact absurd q31 (by decide)
    · refine mt_aload_n dX4_below_0 rfl rfl ?_
      refine mt_iload_n dX4_below_1 rfl ?_
      refine mt_callS (N := mX4_isRow) (Rc := rX4_isRow) (As := [.int (nI r3)]) (st := [.ref 27]) dX4_below_2 (kX4_isRow hl) sX4_isRow mw_1083 rfl (Nat.le_of_ble_eq_true rfl) ⟨⟨Nat.le_of_ble_eq_true rfl, Nat.le_of_ble_eq_true rfl⟩, Nat.le_of_ble_eq_true rfl, Nat.le_of_ble_eq_true rfl⟩ (fun v32 h33 n34 c35 => ?_) (fun _ _ _ hx => hx.elim)
      obtain ⟨c35a, c35b, c35c⟩ := c35
      rw [show (inN 4 (nI r3)).isSome = true from by rw [inN_some hr3 (by decide)]; rfl] at c35a
      rw [c35a, c35b, c35c]
      show mT _ _ _ _ 5 [.ref 27, .int (nI r3), .int key] [.int (nI 1), .ref 27] _ _ _ _
      refine mt_iload_n dX4_below_5 rfl ?_
      refine mt_ldc (v := (-99999)) dX4_below_6 mw_1113 ?_
      refine mt_ldc (v := nI 99999) dX4_below_8 mw_1114 ?_
      refine mt_callS (N := mX4_isIn) (Rc := rX4_isIn) (As := [.int key, .int (-99999), .int (nI 99999)]) (st := [.int (nI 1), .ref 27]) dX4_below_10 (kX4_isIn hl) sX4_isIn mw_1086 rfl (Nat.le_of_ble_eq_true rfl) ⟨⟨Nat.le_of_ble_eq_true rfl, Nat.le_of_ble_eq_true rfl⟩, Nat.le_of_ble_eq_true rfl, Nat.le_of_ble_eq_true rfl⟩ (fun v36 h37 n38 c39 => ?_) (fun _ _ _ hx => hx.elim)
      obtain ⟨c39a, c39b, c39c⟩ := c39
      rw [show inR key (-99999) (nI 99999) = true from hk18] at c39a
      rw [c39a, c39b, c39c]
      show mT _ _ _ _ 13 [.ref 27, .int (nI r3), .int key] [.int (nI 1), .int (nI 1), .ref 27] _ _ _ _
      refine mt_callV (N := mX4_isLet) (Rc := rX4_isLet) (As := [.int (nI 1), .int (nI 1)]) (st := []) dX4_below_13 (kX4_isLet (t := true) (f := true) hl C0) sX4_isLet mw_1092 mKX4 rfl C0 rfl (Nat.le_of_ble_eq_true rfl) ⟨⟨Nat.le_of_ble_eq_true rfl, Nat.le_of_ble_eq_true rfl⟩, Nat.le_of_ble_eq_true rfl, Nat.le_of_ble_eq_true rfl⟩ (fun v40 h41 n42 c43 => ?_) (fun _ _ _ hx => hx.elim)
      obtain ⟨c43a, c43b, c43c, c43d⟩ := c43
      rw [c43a, c43b]
      show mT _ _ _ _ 16 [.ref 27, .int (nI r3), .int key] [.int (nI 1)] _ _ _ _
      refine mt_if_eq dX4_below_16 (tgt := 29) rfl (fun q44 => ?_) (fun q44 => ?_)
      · have q44 := (mI_eq0 (by omega)).mp q44
        exact absurd q44 (by decide)
      · have q44 := (not_congr (mI_eq0 (by omega))).mp q44
        refine mt_aload_n dX4_below_19 rfl rfl ?_
        refine mt_iload_n dX4_below_20 rfl ?_
        refine mt_iload_n dX4_below_21 rfl ?_
        refine mt_iconst dX4_below_22 (v := -1) rfl ?_
        refine mt_callV (N := mX4_often) (Rc := rX4_often) (As := [.int (nI r3), .int key, .int (-1)]) (st := []) dX4_below_23 (kX4_often hl c43c (mRows.fr (n' := n) HR (by omega) (fun j j1 j2 j3 => c43d (j) (by omega)) (by omega)) (by omega)) sX4_often mw_1299 mKX4 rfl c43c rfl (Nat.le_of_ble_eq_true rfl) ⟨⟨Nat.le_of_ble_eq_true rfl, Nat.le_of_ble_eq_true rfl⟩, Nat.le_of_ble_eq_true rfl, Nat.le_of_ble_eq_true rfl⟩ (fun v45 h46 n47 c48 => ?_) (fun _ _ _ hx => hx.elim)
        obtain ⟨c48a, c48b, c48c⟩ := c48
        rw [c48a, c48b, c48c]
        show mT _ _ _ _ 26 [.ref 27, .int (nI r3), .int key] [.int (mq_often (S.1 r3) key (-1))] _ _ _ _
        refine mt_goto dX4_below_26 (tgt := 30) rfl ?_
        refine mt_ireturn dX4_below_30 rfl rfl (Nat.le_of_ble_eq_true rfl) (Nat.le_of_ble_eq_true rfl) ?_
        exact mOkq.of (x := .int (mq_often (S.1 r3) key (-1))) (S' := ((S).1, S.2.1, S.2.2.1, S.2.2.2.1, S.2.2.2.2)) (by simp only [mp_below, dAt_s (k := 4) hr3 (by first | decide | omega), dFit_s hk18, if_neg q44] <;> first | rfl | simp_all) rfl (by omega) c43c (by omega) (mRows.fr (n' := n) HR (by omega) (fun j j1 j2 j3 => c43d (j) (by omega)) (by omega)) (fun j hj => c43d j (by omega))
def mp_right (S : cS) (row : Int32) : Nat × Value × cS := dAt S 4 row fun r => (0, .int (mq_pairs (S.1 r) (-1)), S)
abbrev rX4_right : Room := { frames := 2, cells := 0, slots := 0, locals := 46 }
set_option maxRecDepth 100000 in
set_option maxHeartbeats 2000000 in
theorem kX4_right {l : Launch} (hl : l.stackTraces = false) {h : mH} {n : Nat} {S : cS} {th : Int32} {row : Int32} (C : mAt h n S th) : mC l mX4_right rX4_right [.ref 27, .int row] h n (mOkq (mp_right S row) (.int (nI 0)) h n) (mNX) := by
  obtain ⟨C0, h39, kx, sx, HR⟩ := id C
  obtain ⟨⟨gk_1, G28_1, GK_1⟩, ⟨gs_1, G33_1, GS_1⟩, AK_1, AS_1, NE_1, NQ_1, LE_1⟩ := id HR
  refine mm_enter hl (by decide +kernel) rfl rfl rfl (Nat.le_of_ble_eq_true rfl) ?_
  show mT _ _ _ _ 0 [.ref 27, .int row] [] _ _ 0 0
  rcases hq2 : inN 4 row with _ | r3
  · refine mt_aload_n dX4_right_0 rfl rfl ?_
    refine mt_iload_n dX4_right_1 rfl ?_
    refine mt_callS (N := mX4_isRow) (Rc := rX4_isRow) (As := [.int row]) (st := [.ref 27]) dX4_right_2 (kX4_isRow hl) sX4_isRow mw_1083 rfl (Nat.le_of_ble_eq_true rfl) ⟨⟨Nat.le_of_ble_eq_true rfl, Nat.le_of_ble_eq_true rfl⟩, Nat.le_of_ble_eq_true rfl, Nat.le_of_ble_eq_true rfl⟩ (fun v4 h5 n6 c7 => ?_) (fun _ _ _ hx => hx.elim)
    obtain ⟨c7a, c7b, c7c⟩ := c7
    rw [show (inN 4 row).isSome = false from by rw [hq2]; rfl] at c7a
    rw [c7a, c7b, c7c]
    show mT _ _ _ _ 5 [.ref 27, .int row] [.int (nI 0), .ref 27] _ _ _ _
    refine mt_iconst dX4_right_5 (v := nI 1) rfl ?_
    refine mt_callV (N := mX4_isLet) (Rc := rX4_isLet) (As := [.int (nI 0), .int (nI 1)]) (st := []) dX4_right_6 (kX4_isLet (t := false) (f := true) hl C0) sX4_isLet mw_1092 mKX4 rfl C0 rfl (Nat.le_of_ble_eq_true rfl) ⟨⟨Nat.le_of_ble_eq_true rfl, Nat.le_of_ble_eq_true rfl⟩, Nat.le_of_ble_eq_true rfl, Nat.le_of_ble_eq_true rfl⟩ (fun v8 h9 n10 c11 => ?_) (fun _ _ _ hx => hx.elim)
    obtain ⟨c11a, c11b, c11c, c11d⟩ := c11
    rw [c11a, c11b]
    show mT _ _ _ _ 9 [.ref 27, .int row] [.int (nI 0)] _ _ _ _
    refine mt_if_eq dX4_right_9 (tgt := 21) rfl (fun q12 => ?_) (fun q12 => ?_)
    · have q12 := (mI_eq0 (by omega)).mp q12
      refine mt_iconst dX4_right_21 (v := nI 0) rfl ?_
      refine mt_ireturn dX4_right_22 rfl rfl (Nat.le_of_ble_eq_true rfl) (Nat.le_of_ble_eq_true rfl) ?_
      exact mOkq.no (k := 1) (S' := S) (by simp only [mp_right, dAt_n (k := 4) (x := row) hq2, if_pos q12]) (by decide) rfl (by omega) c11c (by omega) (mRows.fr (n' := n) HR (by omega) (fun j j1 j2 j3 => c11d (j) (by omega)) (by omega)) (fun j hj => c11d j (by omega))
    · have q12 := (not_congr (mI_eq0 (by omega))).mp q12
      exact absurd q12 (by decide)
  · obtain ⟨hr3, rfl⟩ := inN_of hq2 (by first | decide | omega)
    obtain ⟨⟨ka_13, kb_13, kc_13, kd_13⟩, kf_13, ke_13, kg_13⟩ := AK_1 r3 hr3
    obtain ⟨⟨sa_13, sb_13, sc_13, sd_13⟩, sf_13, se_13, sg_13⟩ := AS_1 r3 hr3
    have kn_13 := NE_1 r3 r3 hr3 hr3
    have kl_13 := LE_1 r3 hr3
    have km_13 := rroom_le (r := r3)
    refine mt_aload_n dX4_right_0 rfl rfl ?_
    refine mt_iload_n dX4_right_1 rfl ?_
    refine mt_callS (N := mX4_isRow) (Rc := rX4_isRow) (As := [.int (nI r3)]) (st := [.ref 27]) dX4_right_2 (kX4_isRow hl) sX4_isRow mw_1083 rfl (Nat.le_of_ble_eq_true rfl) ⟨⟨Nat.le_of_ble_eq_true rfl, Nat.le_of_ble_eq_true rfl⟩, Nat.le_of_ble_eq_true rfl, Nat.le_of_ble_eq_true rfl⟩ (fun v14 h15 n16 c17 => ?_) (fun _ _ _ hx => hx.elim)
    obtain ⟨c17a, c17b, c17c⟩ := c17
    rw [show (inN 4 (nI r3)).isSome = true from by rw [inN_some hr3 (by decide)]; rfl] at c17a
    rw [c17a, c17b, c17c]
    show mT _ _ _ _ 5 [.ref 27, .int (nI r3)] [.int (nI 1), .ref 27] _ _ _ _
    refine mt_iconst dX4_right_5 (v := nI 1) rfl ?_
    refine mt_callV (N := mX4_isLet) (Rc := rX4_isLet) (As := [.int (nI 1), .int (nI 1)]) (st := []) dX4_right_6 (kX4_isLet (t := true) (f := true) hl C0) sX4_isLet mw_1092 mKX4 rfl C0 rfl (Nat.le_of_ble_eq_true rfl) ⟨⟨Nat.le_of_ble_eq_true rfl, Nat.le_of_ble_eq_true rfl⟩, Nat.le_of_ble_eq_true rfl, Nat.le_of_ble_eq_true rfl⟩ (fun v18 h19 n20 c21 => ?_) (fun _ _ _ hx => hx.elim)
    obtain ⟨c21a, c21b, c21c, c21d⟩ := c21
    rw [c21a, c21b]
    show mT _ _ _ _ 9 [.ref 27, .int (nI r3)] [.int (nI 1)] _ _ _ _
    refine mt_if_eq dX4_right_9 (tgt := 21) rfl (fun q22 => ?_) (fun q22 => ?_)
    · have q22 := (mI_eq0 (by omega)).mp q22
      exact absurd q22 (by decide)
    · have q22 := (not_congr (mI_eq0 (by omega))).mp q22
      refine mt_aload_n dX4_right_12 rfl rfl ?_
      refine mt_iload_n dX4_right_13 rfl ?_
      refine mt_iconst dX4_right_14 (v := -1) rfl ?_
      refine mt_callV (N := mX4_pairs) (Rc := rX4_pairs) (As := [.int (nI r3), .int (-1)]) (st := []) dX4_right_15 (kX4_pairs hl c21c (mRows.fr (n' := n) HR (by omega) (fun j j1 j2 j3 => c21d (j) (by omega)) (by omega)) (by omega)) sX4_pairs mw_1146 mKX4 rfl c21c rfl (Nat.le_of_ble_eq_true rfl) ⟨⟨Nat.le_of_ble_eq_true rfl, Nat.le_of_ble_eq_true rfl⟩, Nat.le_of_ble_eq_true rfl, Nat.le_of_ble_eq_true rfl⟩ (fun v23 h24 n25 c26 => ?_) (fun _ _ _ hx => hx.elim)
      obtain ⟨c26a, c26b, c26c⟩ := c26
      rw [c26a, c26b, c26c]
      show mT _ _ _ _ 18 [.ref 27, .int (nI r3)] [.int (mq_pairs (S.1 r3) (-1))] _ _ _ _
      refine mt_goto dX4_right_18 (tgt := 22) rfl ?_
      refine mt_ireturn dX4_right_22 rfl rfl (Nat.le_of_ble_eq_true rfl) (Nat.le_of_ble_eq_true rfl) ?_
      exact mOkq.of (x := .int (mq_pairs (S.1 r3) (-1))) (S' := ((S).1, S.2.1, S.2.2.1, S.2.2.2.1, S.2.2.2.2)) (by simp only [mp_right, dAt_s (k := 4) hr3 (by first | decide | omega), if_neg q22] <;> first | rfl | simp_all) rfl (by omega) c21c (by omega) (mRows.fr (n' := n) HR (by omega) (fun j j1 j2 j3 => c21d (j) (by omega)) (by omega)) (fun j hj => c21d j (by omega))
def mp_ties (S : cS) (row : Int32) : Nat × Value × cS := dAt S 4 row fun r => (0, .int (mq_pairs (S.1 r) (nI 0)), S)
abbrev rX4_ties : Room := { frames := 2, cells := 0, slots := 0, locals := 46 }
set_option maxRecDepth 100000 in
set_option maxHeartbeats 2000000 in
theorem kX4_ties {l : Launch} (hl : l.stackTraces = false) {h : mH} {n : Nat} {S : cS} {th : Int32} {row : Int32} (C : mAt h n S th) : mC l mX4_ties rX4_ties [.ref 27, .int row] h n (mOkq (mp_ties S row) (.int (nI 0)) h n) (mNX) := by
  obtain ⟨C0, h39, kx, sx, HR⟩ := id C
  obtain ⟨⟨gk_1, G28_1, GK_1⟩, ⟨gs_1, G33_1, GS_1⟩, AK_1, AS_1, NE_1, NQ_1, LE_1⟩ := id HR
  refine mm_enter hl (by decide +kernel) rfl rfl rfl (Nat.le_of_ble_eq_true rfl) ?_
  show mT _ _ _ _ 0 [.ref 27, .int row] [] _ _ 0 0
  rcases hq2 : inN 4 row with _ | r3
  · refine mt_aload_n dX4_ties_0 rfl rfl ?_
    refine mt_iload_n dX4_ties_1 rfl ?_
    refine mt_callS (N := mX4_isRow) (Rc := rX4_isRow) (As := [.int row]) (st := [.ref 27]) dX4_ties_2 (kX4_isRow hl) sX4_isRow mw_1083 rfl (Nat.le_of_ble_eq_true rfl) ⟨⟨Nat.le_of_ble_eq_true rfl, Nat.le_of_ble_eq_true rfl⟩, Nat.le_of_ble_eq_true rfl, Nat.le_of_ble_eq_true rfl⟩ (fun v4 h5 n6 c7 => ?_) (fun _ _ _ hx => hx.elim)
    obtain ⟨c7a, c7b, c7c⟩ := c7
    rw [show (inN 4 row).isSome = false from by rw [hq2]; rfl] at c7a
    rw [c7a, c7b, c7c]
    show mT _ _ _ _ 5 [.ref 27, .int row] [.int (nI 0), .ref 27] _ _ _ _
    refine mt_iconst dX4_ties_5 (v := nI 1) rfl ?_
    refine mt_callV (N := mX4_isLet) (Rc := rX4_isLet) (As := [.int (nI 0), .int (nI 1)]) (st := []) dX4_ties_6 (kX4_isLet (t := false) (f := true) hl C0) sX4_isLet mw_1092 mKX4 rfl C0 rfl (Nat.le_of_ble_eq_true rfl) ⟨⟨Nat.le_of_ble_eq_true rfl, Nat.le_of_ble_eq_true rfl⟩, Nat.le_of_ble_eq_true rfl, Nat.le_of_ble_eq_true rfl⟩ (fun v8 h9 n10 c11 => ?_) (fun _ _ _ hx => hx.elim)
    obtain ⟨c11a, c11b, c11c, c11d⟩ := c11
    rw [c11a, c11b]
    show mT _ _ _ _ 9 [.ref 27, .int row] [.int (nI 0)] _ _ _ _
    refine mt_if_eq dX4_ties_9 (tgt := 21) rfl (fun q12 => ?_) (fun q12 => ?_)
    · have q12 := (mI_eq0 (by omega)).mp q12
      refine mt_iconst dX4_ties_21 (v := nI 0) rfl ?_
      refine mt_ireturn dX4_ties_22 rfl rfl (Nat.le_of_ble_eq_true rfl) (Nat.le_of_ble_eq_true rfl) ?_
      exact mOkq.no (k := 1) (S' := S) (by simp only [mp_ties, dAt_n (k := 4) (x := row) hq2, if_pos q12]) (by decide) rfl (by omega) c11c (by omega) (mRows.fr (n' := n) HR (by omega) (fun j j1 j2 j3 => c11d (j) (by omega)) (by omega)) (fun j hj => c11d j (by omega))
    · have q12 := (not_congr (mI_eq0 (by omega))).mp q12
      exact absurd q12 (by decide)
  · obtain ⟨hr3, rfl⟩ := inN_of hq2 (by first | decide | omega)
    obtain ⟨⟨ka_13, kb_13, kc_13, kd_13⟩, kf_13, ke_13, kg_13⟩ := AK_1 r3 hr3
    obtain ⟨⟨sa_13, sb_13, sc_13, sd_13⟩, sf_13, se_13, sg_13⟩ := AS_1 r3 hr3
    have kn_13 := NE_1 r3 r3 hr3 hr3
    have kl_13 := LE_1 r3 hr3
    have km_13 := rroom_le (r := r3)
    refine mt_aload_n dX4_ties_0 rfl rfl ?_
    refine mt_iload_n dX4_ties_1 rfl ?_
    refine mt_callS (N := mX4_isRow) (Rc := rX4_isRow) (As := [.int (nI r3)]) (st := [.ref 27]) dX4_ties_2 (kX4_isRow hl) sX4_isRow mw_1083 rfl (Nat.le_of_ble_eq_true rfl) ⟨⟨Nat.le_of_ble_eq_true rfl, Nat.le_of_ble_eq_true rfl⟩, Nat.le_of_ble_eq_true rfl, Nat.le_of_ble_eq_true rfl⟩ (fun v14 h15 n16 c17 => ?_) (fun _ _ _ hx => hx.elim)
    obtain ⟨c17a, c17b, c17c⟩ := c17
    rw [show (inN 4 (nI r3)).isSome = true from by rw [inN_some hr3 (by decide)]; rfl] at c17a
    rw [c17a, c17b, c17c]
    show mT _ _ _ _ 5 [.ref 27, .int (nI r3)] [.int (nI 1), .ref 27] _ _ _ _
    refine mt_iconst dX4_ties_5 (v := nI 1) rfl ?_
    refine mt_callV (N := mX4_isLet) (Rc := rX4_isLet) (As := [.int (nI 1), .int (nI 1)]) (st := []) dX4_ties_6 (kX4_isLet (t := true) (f := true) hl C0) sX4_isLet mw_1092 mKX4 rfl C0 rfl (Nat.le_of_ble_eq_true rfl) ⟨⟨Nat.le_of_ble_eq_true rfl, Nat.le_of_ble_eq_true rfl⟩, Nat.le_of_ble_eq_true rfl, Nat.le_of_ble_eq_true rfl⟩ (fun v18 h19 n20 c21 => ?_) (fun _ _ _ hx => hx.elim)
    obtain ⟨c21a, c21b, c21c, c21d⟩ := c21
    rw [c21a, c21b]
    show mT _ _ _ _ 9 [.ref 27, .int (nI r3)] [.int (nI 1)] _ _ _ _
    refine mt_if_eq dX4_ties_9 (tgt := 21) rfl (fun q22 => ?_) (fun q22 => ?_)
    · have q22 := (mI_eq0 (by omega)).mp q22
      exact absurd q22 (by decide)
    · have q22 := (not_congr (mI_eq0 (by omega))).mp q22
      refine mt_aload_n dX4_ties_12 rfl rfl ?_
      refine mt_iload_n dX4_ties_13 rfl ?_
      refine mt_iconst dX4_ties_14 (v := nI 0) rfl ?_
      refine mt_callV (N := mX4_pairs) (Rc := rX4_pairs) (As := [.int (nI r3), .int (nI 0)]) (st := []) dX4_ties_15 (kX4_pairs hl c21c (mRows.fr (n' := n) HR (by omega) (fun j j1 j2 j3 => c21d (j) (by omega)) (by omega)) (by omega)) sX4_pairs mw_1146 mKX4 rfl c21c rfl (Nat.le_of_ble_eq_true rfl) ⟨⟨Nat.le_of_ble_eq_true rfl, Nat.le_of_ble_eq_true rfl⟩, Nat.le_of_ble_eq_true rfl, Nat.le_of_ble_eq_true rfl⟩ (fun v23 h24 n25 c26 => ?_) (fun _ _ _ hx => hx.elim)
      obtain ⟨c26a, c26b, c26c⟩ := c26
      rw [c26a, c26b, c26c]
      show mT _ _ _ _ 18 [.ref 27, .int (nI r3)] [.int (mq_pairs (S.1 r3) (nI 0))] _ _ _ _
      refine mt_goto dX4_ties_18 (tgt := 22) rfl ?_
      refine mt_ireturn dX4_ties_22 rfl rfl (Nat.le_of_ble_eq_true rfl) (Nat.le_of_ble_eq_true rfl) ?_
      exact mOkq.of (x := .int (mq_pairs (S.1 r3) (nI 0))) (S' := ((S).1, S.2.1, S.2.2.1, S.2.2.2.1, S.2.2.2.2)) (by simp only [mp_ties, dAt_s (k := 4) hr3 (by first | decide | omega), if_neg q22] <;> first | rfl | simp_all) rfl (by omega) c21c (by omega) (mRows.fr (n' := n) HR (by omega) (fun j j1 j2 j3 => c21d (j) (by omega)) (by omega)) (fun j hj => c21d j (by omega))
