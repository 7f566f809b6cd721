/-! ===== the reference: what is asked of places and rows ===== -/
def mp_would (S : cS) (row : Int32) (place : Int32) : Nat × Value × cS := dAt S 4 row fun r => dAt S (S.1 r).length place fun p => (0, .int (xk (S.1 r) (scat (S.1 r) p)), S)
abbrev rX4_would : Room := { frames := 3, cells := 1, slots := 320, locals := 64 }
set_option maxRecDepth 100000 in
set_option maxHeartbeats 2000000 in
theorem kX4_would {l : Launch} (hl : l.stackTraces = false) {h : mH} {n : Nat} {S : cS} {th : Int32} {row : Int32} {place : Int32} (C : mAt h n S th) : mC l mX4_would rX4_would [.ref 27, .int row, .int place] h n (mOkq (mp_would S row place) (.int (nI 0)) h n) (mNX) := by
  obtain ⟨C0, h39, kx, sx, HR⟩ := id C
  obtain ⟨⟨gk_1, G28_1, GK_1⟩, ⟨gs_1, G33_1, GS_1⟩, AK_1, AS_1, NE_1, NQ_1, LE_1⟩ := id HR
  refine mm_enter hl (by decide +kernel) rfl rfl rfl (Nat.le_of_ble_eq_true rfl) ?_
  show mT _ _ _ _ 0 [.ref 27, .int row, .int place] [] _ _ 0 0
  rcases hq2 : inN 4 row with _ | r3
  · refine mt_aload_n dX4_would_0 rfl rfl ?_
    refine mt_aload_n dX4_would_1 rfl rfl ?_
    refine mt_iload_n dX4_would_2 rfl ?_
    refine mt_iload_n dX4_would_3 rfl ?_
    refine mt_callV (N := mX4_isPlace) (Rc := rX4_isPlace) (As := [.int row, .int place]) (st := [.ref 27]) dX4_would_4 (kX4_isPlace_f hl hq2) sX4_isPlace mw_1126 mKX4 rfl C0 rfl (Nat.le_of_ble_eq_true rfl) ⟨⟨Nat.le_of_ble_eq_true rfl, Nat.le_of_ble_eq_true rfl⟩, Nat.le_of_ble_eq_true rfl, Nat.le_of_ble_eq_true rfl⟩ (fun v4 h5 n6 c7 => ?_) (fun _ _ _ hx => hx.elim)
    obtain ⟨c7a, c7b, c7c⟩ := c7
    rw [c7a, c7b, c7c]
    show mT _ _ _ _ 7 [.ref 27, .int row, .int place] [.int (nI 0), .ref 27] _ _ _ _
    refine mt_iconst dX4_would_7 (v := nI 1) rfl ?_
    refine mt_callV (N := mX4_isLet) (Rc := rX4_isLet) (As := [.int (nI 0), .int (nI 1)]) (st := []) dX4_would_8 (kX4_isLet (t := false) (f := true) hl C0) sX4_isLet mw_1092 mKX4 rfl C0 rfl (Nat.le_of_ble_eq_true rfl) ⟨⟨Nat.le_of_ble_eq_true rfl, Nat.le_of_ble_eq_true rfl⟩, Nat.le_of_ble_eq_true rfl, Nat.le_of_ble_eq_true rfl⟩ (fun v8 h9 n10 c11 => ?_) (fun _ _ _ hx => hx.elim)
    obtain ⟨c11a, c11b, c11c, c11d⟩ := c11
    rw [c11a, c11b]
    show mT _ _ _ _ 11 [.ref 27, .int row, .int place] [.int (nI 0)] _ _ _ _
    refine mt_if_eq dX4_would_11 (tgt := 31) rfl (fun q12 => ?_) (fun q12 => ?_)
    · have q12 := (mI_eq0 (by omega)).mp q12
      refine mt_iconst dX4_would_31 (v := nI 0) rfl ?_
      refine mt_ireturn dX4_would_32 rfl rfl (Nat.le_of_ble_eq_true rfl) (Nat.le_of_ble_eq_true rfl) ?_
      exact mOkq.no (k := 1) (S' := S) (by simp only [mp_would, dAt_n (k := 4) (x := row) hq2, if_pos q12]) (by decide) rfl (by omega) c11c (by omega) (mRows.fr (n' := n) HR (by omega) (fun j j1 j2 j3 => c11d (j) (by omega)) (by omega)) (fun j hj => c11d j (by omega))
    · have q12 := (not_congr (mI_eq0 (by omega))).mp q12
      exact absurd q12 (by decide)
  · obtain ⟨hr3, rfl⟩ := inN_of hq2 (by first | decide | omega)
    obtain ⟨⟨ka_13, kb_13, kc_13, kd_13⟩, kf_13, ke_13, kg_13⟩ := AK_1 r3 hr3
    obtain ⟨⟨sa_13, sb_13, sc_13, sd_13⟩, sf_13, se_13, sg_13⟩ := AS_1 r3 hr3
    have kn_13 := NE_1 r3 r3 hr3 hr3
    have kl_13 := LE_1 r3 hr3
    have km_13 := rroom_le (r := r3)
    rcases hq14 : inN (S.1 r3).length place with _ | p15
    · refine mt_aload_n dX4_would_0 rfl rfl ?_
      refine mt_aload_n dX4_would_1 rfl rfl ?_
      refine mt_iload_n dX4_would_2 rfl ?_
      refine mt_iload_n dX4_would_3 rfl ?_
      refine mt_callV (N := mX4_isPlace) (Rc := rX4_isPlace) (As := [.int (nI r3), .int place]) (st := [.ref 27]) dX4_would_4 (kX4_isPlace hl C0 HR (by omega) (by omega)) sX4_isPlace mw_1126 mKX4 rfl C0 rfl (Nat.le_of_ble_eq_true rfl) ⟨⟨Nat.le_of_ble_eq_true rfl, Nat.le_of_ble_eq_true rfl⟩, Nat.le_of_ble_eq_true rfl, Nat.le_of_ble_eq_true rfl⟩ (fun v16 h17 n18 c19 => ?_) (fun _ _ _ hx => hx.elim)
      obtain ⟨c19a, c19b, c19c⟩ := c19
      rw [show (inN (S.1 r3).length place).isSome = false from by rw [hq14]; rfl] at c19a
      rw [c19a, c19b, c19c]
      show mT _ _ _ _ 7 [.ref 27, .int (nI r3), .int place] [.int (nI 0), .ref 27] _ _ _ _
      refine mt_iconst dX4_would_7 (v := nI 1) rfl ?_
      refine mt_callV (N := mX4_isLet) (Rc := rX4_isLet) (As := [.int (nI 0), .int (nI 1)]) (st := []) dX4_would_8 (kX4_isLet (t := false) (f := true) hl C0) sX4_isLet mw_1092 mKX4 rfl C0 rfl (Nat.le_of_ble_eq_true rfl) ⟨⟨Nat.le_of_ble_eq_true rfl, Nat.le_of_ble_eq_true rfl⟩, Nat.le_of_ble_eq_true rfl, Nat.le_of_ble_eq_true rfl⟩ (fun v20 h21 n22 c23 => ?_) (fun _ _ _ hx => hx.elim)
      obtain ⟨c23a, c23b, c23c, c23d⟩ := c23
      rw [c23a, c23b]
      show mT _ _ _ _ 11 [.ref 27, .int (nI r3), .int place] [.int (nI 0)] _ _ _ _
      refine mt_if_eq dX4_would_11 (tgt := 31) rfl (fun q24 => ?_) (fun q24 => ?_)
      · have q24 := (mI_eq0 (by omega)).mp q24
        refine mt_iconst dX4_would_31 (v := nI 0) rfl ?_
        refine mt_ireturn dX4_would_32 rfl rfl (Nat.le_of_ble_eq_true rfl) (Nat.le_of_ble_eq_true rfl) ?_
        exact mOkq.no (k := 1) (S' := S) (by simp only [mp_would, dAt_s (k := 4) hr3 (by first | decide | omega), dAt_n (k := (S.1 r3).length) (x := place) hq14, if_pos q24]) (by decide) rfl (by omega) c23c (by omega) (mRows.fr (n' := n) HR (by omega) (fun j j1 j2 j3 => c23d (j) (by omega)) (by omega)) (fun j hj => c23d j (by omega))
      · have q24 := (not_congr (mI_eq0 (by omega))).mp q24
        exact absurd q24 (by decide)
    · obtain ⟨hp15, rfl⟩ := inN_of hq14 (by first | decide | omega)
      refine mt_aload_n dX4_would_0 rfl rfl ?_
      refine mt_aload_n dX4_would_1 rfl rfl ?_
      refine mt_iload_n dX4_would_2 rfl ?_
      refine mt_iload_n dX4_would_3 rfl ?_
      refine mt_callV (N := mX4_isPlace) (Rc := rX4_isPlace) (As := [.int (nI r3), .int (nI p15)]) (st := [.ref 27]) dX4_would_4 (kX4_isPlace hl C0 HR (by omega) (by omega)) sX4_isPlace mw_1126 mKX4 rfl C0 rfl (Nat.le_of_ble_eq_true rfl) ⟨⟨Nat.le_of_ble_eq_true rfl, Nat.le_of_ble_eq_true rfl⟩, Nat.le_of_ble_eq_true rfl, Nat.le_of_ble_eq_true rfl⟩ (fun v25 h26 n27 c28 => ?_) (fun _ _ _ hx => hx.elim)
      obtain ⟨c28a, c28b, c28c⟩ := c28
      rw [show (inN (S.1 r3).length (nI p15)).isSome = true from by rw [inN_some hp15 (by omega)]; rfl] at c28a
      rw [c28a, c28b, c28c]
      show mT _ _ _ _ 7 [.ref 27, .int (nI r3), .int (nI p15)] [.int (nI 1), .ref 27] _ _ _ _
      refine mt_iconst dX4_would_7 (v := nI 1) rfl ?_
      refine mt_callV (N := mX4_isLet) (Rc := rX4_isLet) (As := [.int (nI 1), .int (nI 1)]) (st := []) dX4_would_8 (kX4_isLet (t := true) (f := true) hl C0) sX4_isLet mw_1092 mKX4 rfl C0 rfl (Nat.le_of_ble_eq_true rfl) ⟨⟨Nat.le_of_ble_eq_true rfl, Nat.le_of_ble_eq_true rfl⟩, Nat.le_of_ble_eq_true rfl, Nat.le_of_ble_eq_true rfl⟩ (fun v29 h30 n31 c32 => ?_) (fun _ _ _ hx => hx.elim)
      obtain ⟨c32a, c32b, c32c, c32d⟩ := c32
      rw [c32a, c32b]
      show mT _ _ _ _ 11 [.ref 27, .int (nI r3), .int (nI p15)] [.int (nI 1)] _ _ _ _
      refine mt_if_eq dX4_would_11 (tgt := 31) rfl (fun q33 => ?_) (fun q33 => ?_)
      · have q33 := (mI_eq0 (by omega)).mp q33
        exact absurd q33 (by decide)
      · have q33 := (not_congr (mI_eq0 (by omega))).mp q33
        refine mt_aload_n dX4_would_14 rfl rfl ?_
        refine mt_getfield mKX4 (i := 0) (by decide) mw_1053 dX4_would_15 c32c rfl ?_
        refine mt_iload_n dX4_would_18 rfl ?_
        refine mp_aaload dX4_would_19 ((c32d (28) (by omega)).trans G28_1) (fun _ => rfl) rfl rfl (by omega) (by omega) (v := .ref (kx r3)) (by rw [GK_1 _ (by omega)]; rfl) ?_
        refine mt_aload_n dX4_would_20 rfl rfl ?_
        refine mt_iload_n dX4_would_21 rfl ?_
        refine mt_callV (N := mX4_sorted) (Rc := rX4_sorted) (As := [.int (nI r3)]) (st := [.ref (kx r3)]) dX4_would_22 (kX4_sorted hl c32c (mRows.fr (n' := n) HR (by omega) (fun j j1 j2 j3 => c32d (j) (by omega)) (by omega)) (by omega) (by omega)) sX4_sorted mw_1187 mKX4 rfl c32c rfl (Nat.le_of_ble_eq_true rfl) ⟨⟨Nat.le_of_ble_eq_true rfl, Nat.le_of_ble_eq_true rfl⟩, Nat.le_of_ble_eq_true rfl, Nat.le_of_ble_eq_true rfl⟩ (fun v34 h35 n36 c37 => ?_) (fun _ _ _ hx => hx.elim)
        obtain ⟨c37a, c37b, ⟨c37g, c37c, c37d⟩, c37e⟩ := c37
        rw [c37a, c37b]
        show mT _ _ _ _ 25 [.ref 27, .int (nI r3), .int (nI p15)] [.ref n, .ref (kx r3)] _ _ _ _
        refine mt_iload_n dX4_would_25 rfl ?_
        refine mp_iaload dX4_would_26 c37c rfl (by omega) (by omega) (v := nI (scat (S.1 r3) p15)) (c37d _ (by omega)) ?_
        have sl := scat_lt (xs := S.1 r3) (by omega) p15
        refine mp_iaload dX4_would_27 ((c37e (kx r3) (by omega)).trans ((c32d (kx r3) (by omega)).trans ke_13)) rfl (by omega) (by omega) (v := xk (S.1 r3) (scat (S.1 r3) p15)) (kg_13 _ (by omega)) ?_
        refine mt_goto dX4_would_28 (tgt := 32) rfl ?_
        refine mt_ireturn dX4_would_32 rfl rfl (Nat.le_of_ble_eq_true rfl) (Nat.le_of_ble_eq_true rfl) ?_
        exact mOkq.of (x := .int (xk (S.1 r3) (scat (S.1 r3) p15))) (S' := ((S).1, S.2.1, S.2.2.1, S.2.2.2.1, S.2.2.2.2)) (by simp only [mp_would, dAt_s (k := 4) hr3 (by first | decide | omega), dAt_s (k := (S.1 r3).length) hp15 (by first | decide | omega), if_neg q33] <;> first | rfl | simp_all) rfl (by omega) ((c37e (27) (by omega)).trans c32c) (by omega) (mRows.fr (n' := n + 1) HR (by omega) (fun j j1 j2 j3 => (c37e (j) (by omega)).trans (c32d (j) (by omega))) (by omega)) (fun j hj => (c37e j (by omega)).trans (c32d j (by omega)))
def mp_wouldStamp (S : cS) (row : Int32) (place : Int32) : Nat × Value × cS := dAt S 4 row fun r => dAt S (S.1 r).length place fun p => (0, .int (xt (S.1 r) (scat (S.1 r) p)), S)
abbrev rX4_wouldStamp : Room := { frames := 3, cells := 1, slots := 320, locals := 64 }
set_option maxRecDepth 100000 in
set_option maxHeartbeats 2000000 in
theorem kX4_wouldStamp {l : Launch} (hl : l.stackTraces = false) {h : mH} {n : Nat} {S : cS} {th : Int32} {row : Int32} {place : Int32} (C : mAt h n S th) : mC l mX4_wouldStamp rX4_wouldStamp [.ref 27, .int row, .int place] h n (mOkq (mp_wouldStamp S row place) (.int (nI 0)) h n) (mNX) := by
  obtain ⟨C0, h39, kx, sx, HR⟩ := id C
  obtain ⟨⟨gk_1, G28_1, GK_1⟩, ⟨gs_1, G33_1, GS_1⟩, AK_1, AS_1, NE_1, NQ_1, LE_1⟩ := id HR
  refine mm_enter hl (by decide +kernel) rfl rfl rfl (Nat.le_of_ble_eq_true rfl) ?_
  show mT _ _ _ _ 0 [.ref 27, .int row, .int place] [] _ _ 0 0
  rcases hq2 : inN 4 row with _ | r3
  · refine mt_aload_n dX4_wouldStamp_0 rfl rfl ?_
    refine mt_aload_n dX4_wouldStamp_1 rfl rfl ?_
    refine mt_iload_n dX4_wouldStamp_2 rfl ?_
    refine mt_iload_n dX4_wouldStamp_3 rfl ?_
    refine mt_callV (N := mX4_isPlace) (Rc := rX4_isPlace) (As := [.int row, .int place]) (st := [.ref 27]) dX4_wouldStamp_4 (kX4_isPlace_f hl hq2) sX4_isPlace mw_1126 mKX4 rfl C0 rfl (Nat.le_of_ble_eq_true rfl) ⟨⟨Nat.le_of_ble_eq_true rfl, Nat.le_of_ble_eq_true rfl⟩, Nat.le_of_ble_eq_true rfl, Nat.le_of_ble_eq_true rfl⟩ (fun v4 h5 n6 c7 => ?_) (fun _ _ _ hx => hx.elim)
    obtain ⟨c7a, c7b, c7c⟩ := c7
    rw [c7a, c7b, c7c]
    show mT _ _ _ _ 7 [.ref 27, .int row, .int place] [.int (nI 0), .ref 27] _ _ _ _
    refine mt_iconst dX4_wouldStamp_7 (v := nI 1) rfl ?_
    refine mt_callV (N := mX4_isLet) (Rc := rX4_isLet) (As := [.int (nI 0), .int (nI 1)]) (st := []) dX4_wouldStamp_8 (kX4_isLet (t := false) (f := true) hl C0) sX4_isLet mw_1092 mKX4 rfl C0 rfl (Nat.le_of_ble_eq_true rfl) ⟨⟨Nat.le_of_ble_eq_true rfl, Nat.le_of_ble_eq_true rfl⟩, Nat.le_of_ble_eq_true rfl, Nat.le_of_ble_eq_true rfl⟩ (fun v8 h9 n10 c11 => ?_) (fun _ _ _ hx => hx.elim)
    obtain ⟨c11a, c11b, c11c, c11d⟩ := c11
    rw [c11a, c11b]
    show mT _ _ _ _ 11 [.ref 27, .int row, .int place] [.int (nI 0)] _ _ _ _
    refine mt_if_eq dX4_wouldStamp_11 (tgt := 31) rfl (fun q12 => ?_) (fun q12 => ?_)
    · have q12 := (mI_eq0 (by omega)).mp q12
      refine mt_iconst dX4_wouldStamp_31 (v := nI 0) rfl ?_
      refine mt_ireturn dX4_wouldStamp_32 rfl rfl (Nat.le_of_ble_eq_true rfl) (Nat.le_of_ble_eq_true rfl) ?_
      exact mOkq.no (k := 1) (S' := S) (by simp only [mp_wouldStamp, dAt_n (k := 4) (x := row) hq2, if_pos q12]) (by decide) rfl (by omega) c11c (by omega) (mRows.fr (n' := n) HR (by omega) (fun j j1 j2 j3 => c11d (j) (by omega)) (by omega)) (fun j hj => c11d j (by omega))
    · have q12 := (not_congr (mI_eq0 (by omega))).mp q12
      exact absurd q12 (by decide)
  · obtain ⟨hr3, rfl⟩ := inN_of hq2 (by first | decide | omega)
    obtain ⟨⟨ka_13, kb_13, kc_13, kd_13⟩, kf_13, ke_13, kg_13⟩ := AK_1 r3 hr3
    obtain ⟨⟨sa_13, sb_13, sc_13, sd_13⟩, sf_13, se_13, sg_13⟩ := AS_1 r3 hr3
    have kn_13 := NE_1 r3 r3 hr3 hr3
    have kl_13 := LE_1 r3 hr3
    have km_13 := rroom_le (r := r3)
    rcases hq14 : inN (S.1 r3).length place with _ | p15
    · refine mt_aload_n dX4_wouldStamp_0 rfl rfl ?_
      refine mt_aload_n dX4_wouldStamp_1 rfl rfl ?_
      refine mt_iload_n dX4_wouldStamp_2 rfl ?_
      refine mt_iload_n dX4_wouldStamp_3 rfl ?_
      refine mt_callV (N := mX4_isPlace) (Rc := rX4_isPlace) (As := [.int (nI r3), .int place]) (st := [.ref 27]) dX4_wouldStamp_4 (kX4_isPlace hl C0 HR (by omega) (by omega)) sX4_isPlace mw_1126 mKX4 rfl C0 rfl (Nat.le_of_ble_eq_true rfl) ⟨⟨Nat.le_of_ble_eq_true rfl, Nat.le_of_ble_eq_true rfl⟩, Nat.le_of_ble_eq_true rfl, Nat.le_of_ble_eq_true rfl⟩ (fun v16 h17 n18 c19 => ?_) (fun _ _ _ hx => hx.elim)
      obtain ⟨c19a, c19b, c19c⟩ := c19
      rw [show (inN (S.1 r3).length place).isSome = false from by rw [hq14]; rfl] at c19a
      rw [c19a, c19b, c19c]
      show mT _ _ _ _ 7 [.ref 27, .int (nI r3), .int place] [.int (nI 0), .ref 27] _ _ _ _
      refine mt_iconst dX4_wouldStamp_7 (v := nI 1) rfl ?_
      refine mt_callV (N := mX4_isLet) (Rc := rX4_isLet) (As := [.int (nI 0), .int (nI 1)]) (st := []) dX4_wouldStamp_8 (kX4_isLet (t := false) (f := true) hl C0) sX4_isLet mw_1092 mKX4 rfl C0 rfl (Nat.le_of_ble_eq_true rfl) ⟨⟨Nat.le_of_ble_eq_true rfl, Nat.le_of_ble_eq_true rfl⟩, Nat.le_of_ble_eq_true rfl, Nat.le_of_ble_eq_true rfl⟩ (fun v20 h21 n22 c23 => ?_) (fun _ _ _ hx => hx.elim)
      obtain ⟨c23a, c23b, c23c, c23d⟩ := c23
      rw [c23a, c23b]
      show mT _ _ _ _ 11 [.ref 27, .int (nI r3), .int place] [.int (nI 0)] _ _ _ _
      refine mt_if_eq dX4_wouldStamp_11 (tgt := 31) rfl (fun q24 => ?_) (fun q24 => ?_)
      · have q24 := (mI_eq0 (by omega)).mp q24
        refine mt_iconst dX4_wouldStamp_31 (v := nI 0) rfl ?_
        refine mt_ireturn dX4_wouldStamp_32 rfl rfl (Nat.le_of_ble_eq_true rfl) (Nat.le_of_ble_eq_true rfl) ?_
        exact mOkq.no (k := 1) (S' := S) (by simp only [mp_wouldStamp, dAt_s (k := 4) hr3 (by first | decide | omega), dAt_n (k := (S.1 r3).length) (x := place) hq14, if_pos q24]) (by decide) rfl (by omega) c23c (by omega) (mRows.fr (n' := n) HR (by omega) (fun j j1 j2 j3 => c23d (j) (by omega)) (by omega)) (fun j hj => c23d j (by omega))
      · have q24 := (not_congr (mI_eq0 (by omega))).mp q24
        exact absurd q24 (by decide)
    · obtain ⟨hp15, rfl⟩ := inN_of hq14 (by first | decide | omega)
      refine mt_aload_n dX4_wouldStamp_0 rfl rfl ?_
      refine mt_aload_n dX4_wouldStamp_1 rfl rfl ?_
      refine mt_iload_n dX4_wouldStamp_2 rfl ?_
      refine mt_iload_n dX4_wouldStamp_3 rfl ?_
      refine mt_callV (N := mX4_isPlace) (Rc := rX4_isPlace) (As := [.int (nI r3), .int (nI p15)]) (st := [.ref 27]) dX4_wouldStamp_4 (kX4_isPlace hl C0 HR (by omega) (by omega)) sX4_isPlace mw_1126 mKX4 rfl C0 rfl (Nat.le_of_ble_eq_true rfl) ⟨⟨Nat.le_of_ble_eq_true rfl, Nat.le_of_ble_eq_true rfl⟩, Nat.le_of_ble_eq_true rfl, Nat.le_of_ble_eq_true rfl⟩ (fun v25 h26 n27 c28 => ?_) (fun _ _ _ hx => hx.elim)
      obtain ⟨c28a, c28b, c28c⟩ := c28
      rw [show (inN (S.1 r3).length (nI p15)).isSome = true from by rw [inN_some hp15 (by omega)]; rfl] at c28a
      rw [c28a, c28b, c28c]
      show mT _ _ _ _ 7 [.ref 27, .int (nI r3), .int (nI p15)] [.int (nI 1), .ref 27] _ _ _ _
      refine mt_iconst dX4_wouldStamp_7 (v := nI 1) rfl ?_
      refine mt_callV (N := mX4_isLet) (Rc := rX4_isLet) (As := [.int (nI 1), .int (nI 1)]) (st := []) dX4_wouldStamp_8 (kX4_isLet (t := true) (f := true) hl C0) sX4_isLet mw_1092 mKX4 rfl C0 rfl (Nat.le_of_ble_eq_true rfl) ⟨⟨Nat.le_of_ble_eq_true rfl, Nat.le_of_ble_eq_true rfl⟩, Nat.le_of_ble_eq_true rfl, Nat.le_of_ble_eq_true rfl⟩ (fun v29 h30 n31 c32 => ?_) (fun _ _ _ hx => hx.elim)
      obtain ⟨c32a, c32b, c32c, c32d⟩ := c32
      rw [c32a, c32b]
      show mT _ _ _ _ 11 [.ref 27, .int (nI r3), .int (nI p15)] [.int (nI 1)] _ _ _ _
      refine mt_if_eq dX4_wouldStamp_11 (tgt := 31) rfl (fun q33 => ?_) (fun q33 => ?_)
      · have q33 := (mI_eq0 (by omega)).mp q33
        exact absurd q33 (by decide)
      · have q33 := (not_congr (mI_eq0 (by omega))).mp q33
        refine mt_aload_n dX4_wouldStamp_14 rfl rfl ?_
        refine mt_getfield mKX4 (i := 1) (by decide) mw_1054 dX4_wouldStamp_15 c32c rfl ?_
        refine mt_iload_n dX4_wouldStamp_18 rfl ?_
        refine mp_aaload dX4_wouldStamp_19 ((c32d (33) (by omega)).trans G33_1) (fun _ => rfl) rfl rfl (by omega) (by omega) (v := .ref (sx r3)) (by rw [GS_1 _ (by omega)]; rfl) ?_
        refine mt_aload_n dX4_wouldStamp_20 rfl rfl ?_
        refine mt_iload_n dX4_wouldStamp_21 rfl ?_
        refine mt_callV (N := mX4_sorted) (Rc := rX4_sorted) (As := [.int (nI r3)]) (st := [.ref (sx r3)]) dX4_wouldStamp_22 (kX4_sorted hl c32c (mRows.fr (n' := n) HR (by omega) (fun j j1 j2 j3 => c32d (j) (by omega)) (by omega)) (by omega) (by omega)) sX4_sorted mw_1187 mKX4 rfl c32c rfl (Nat.le_of_ble_eq_true rfl) ⟨⟨Nat.le_of_ble_eq_true rfl, Nat.le_of_ble_eq_true rfl⟩, Nat.le_of_ble_eq_true rfl, Nat.le_of_ble_eq_true rfl⟩ (fun v34 h35 n36 c37 => ?_) (fun _ _ _ hx => hx.elim)
        obtain ⟨c37a, c37b, ⟨c37g, c37c, c37d⟩, c37e⟩ := c37
        rw [c37a, c37b]
        show mT _ _ _ _ 25 [.ref 27, .int (nI r3), .int (nI p15)] [.ref n, .ref (sx r3)] _ _ _ _
        refine mt_iload_n dX4_wouldStamp_25 rfl ?_
        refine mp_iaload dX4_wouldStamp_26 c37c rfl (by omega) (by omega) (v := nI (scat (S.1 r3) p15)) (c37d _ (by omega)) ?_
        have sl := scat_lt (xs := S.1 r3) (by omega) p15
        refine mp_iaload dX4_wouldStamp_27 ((c37e (sx r3) (by omega)).trans ((c32d (sx r3) (by omega)).trans se_13)) rfl (by omega) (by omega) (v := xt (S.1 r3) (scat (S.1 r3) p15)) (sg_13 _ (by omega)) ?_
        refine mt_goto dX4_wouldStamp_28 (tgt := 32) rfl ?_
        refine mt_ireturn dX4_wouldStamp_32 rfl rfl (Nat.le_of_ble_eq_true rfl) (Nat.le_of_ble_eq_true rfl) ?_
        exact mOkq.of (x := .int (xt (S.1 r3) (scat (S.1 r3) p15))) (S' := ((S).1, S.2.1, S.2.2.1, S.2.2.2.1, S.2.2.2.2)) (by simp only [mp_wouldStamp, dAt_s (k := 4) hr3 (by first | decide | omega), dAt_s (k := (S.1 r3).length) hp15 (by first | decide | omega), if_neg q33] <;> first | rfl | simp_all) rfl (by omega) ((c37e (27) (by omega)).trans c32c) (by omega) (mRows.fr (n' := n + 1) HR (by omega) (fun j j1 j2 j3 => (c37e (j) (by omega)).trans (c32d (j) (by omega))) (by omega)) (fun j hj => (c37e j (by omega)).trans (c32d j (by omega)))
abbrev rX4_wrongAt : Room := { frames := 3, cells := 0, slots := 0, locals := 64 }
set_option maxRecDepth 100000 in
set_option maxHeartbeats 2000000 in
theorem tX4_wrongAt_21 {l : Launch} {R : Room} {K : mK} {cc sc : Nat} {h : mH} {n : Nat} {S : cS} {kx sx : Nat → Nat} {g ac rf kn th : Int32} {r : Nat} {r9 : Int32} {p : Nat} (C0 : h 27 = .inr (.inr (6, [.ref 28, .ref 33, .int g, .int ac, .int rf, .int kn, .int th]))) (HR : mRows h n S kx sx) (h39 : 39 ≤ n) (hr : r < 4) (hp : p < (S.1 r).length) (kk0 : ∀ (acc : Int32) (k : Nat), (acc = r9) → mT l mX4_wrongAt R K 99 [.ref 27, .int (nI r), .int (nI p), .int acc, .int (nI k)] [] h n cc sc) : ∀ (N0 : Nat) (k : Nat) (acc : Int32), ((S.1 r).length - k) < N0 → (mlp (wAt (S.1 r) p) ((S.1 r).length - k) k acc = r9) → (k ≤ (S.1 r).length) → mT l mX4_wrongAt R K 21 [.ref 27, .int (nI r), .int (nI p), .int acc, .int (nI k)] [] h n cc sc := by
  intro N0
  induction N0 with
  | zero => intro k acc hm; exact absurd hm (Nat.not_lt_zero _)
  | succ N0 ih =>
    intro k acc hm hr9 hi9
    obtain ⟨⟨gk_1, G28_1, GK_1⟩, ⟨gs_1, G33_1, GS_1⟩, AK_1, AS_1, NE_1, NQ_1, LE_1⟩ := id HR
    obtain ⟨⟨ka_2, kb_2, kc_2, kd_2⟩, kf_2, ke_2, kg_2⟩ := AK_1 r hr
    obtain ⟨⟨sa_2, sb_2, sc_2, sd_2⟩, sf_2, se_2, sg_2⟩ := AS_1 r hr
    have kn_2 := NE_1 r r hr hr
    have kl_2 := LE_1 r hr
    have km_2 := rroom_le (r := r)
    refine mt_iload dX4_wrongAt_21 rfl ?_
    refine mt_aload_n dX4_wrongAt_23 rfl rfl ?_
    refine mt_getfield mKX4 (i := 0) (by decide) mw_1053 dX4_wrongAt_24 C0 rfl ?_
    refine mt_iload_n dX4_wrongAt_27 rfl ?_
    refine mp_aaload dX4_wrongAt_28 G28_1 (fun _ => rfl) rfl rfl (by omega) (by omega) (v := .ref (kx r)) (by rw [GK_1 _ (by omega)]; rfl) ?_
    refine mt_alen dX4_wrongAt_29 ke_2 (by decide) ?_
    refine mt_icmp_ge dX4_wrongAt_30 (tgt := 99) rfl (fun q3 => ?_) (fun q3 => ?_)
    · have q3 := Int32.not_lt.mpr q3
      have q3 := (not_congr (nI_ltI (by omega) (by omega))).mp q3
      exact kk0 acc k ((mlp_end (f := wAt (S.1 r) p) (by omega)).symm.trans hr9)
    · have q3 := Int32.not_le.mp q3
      have q3 := (nI_ltI (by omega) (by omega)).mp q3
      refine mt_iload_n dX4_wrongAt_33 rfl ?_
      refine mt_iload dX4_wrongAt_34 rfl ?_
      refine mt_iload_n dX4_wrongAt_36 rfl ?_
      refine mt_icmp_ge dX4_wrongAt_37 (tgt := 60) rfl (fun q4 => ?_) (fun q4 => ?_)
      · have q4 := Int32.not_lt.mpr q4
        have q4 := (not_congr (nI_ltI (by omega) (by omega))).mp q4
        refine mt_iload dX4_wrongAt_60 rfl ?_
        refine mt_iload_n dX4_wrongAt_62 rfl ?_
        refine mt_icmp_le dX4_wrongAt_63 (tgt := 90) rfl (fun q5 => ?_) (fun q5 => ?_)
        · have q5 := Int32.not_lt.mpr q5
          have q5 := (not_congr (nI_ltI (by omega) (by omega))).mp q5
          refine mt_iconst dX4_wrongAt_90 (v := nI 0) rfl ?_
          refine mp_iadd dX4_wrongAt_91 (v := acc + (nI 0)) rfl ?_
          refine mp_istore_n dX4_wrongAt_92 (ls' := [.ref 27, .int (nI r), .int (nI p), .int (acc + (nI 0)), .int (nI k)]) rfl (by decide) rfl ?_
          refine mp_iinc dX4_wrongAt_93 rfl (v := nI (k + 1)) mI_inc (ls' := [.ref 27, .int (nI r), .int (nI p), .int (acc + (nI 0)), .int (nI (k + 1))]) rfl (by decide) rfl ?_
          refine mt_goto dX4_wrongAt_96 (tgt := 21) rfl ?_
          exact ih (k + 1) (acc + (nI 0)) (by omega) ((mlp_go (f := wAt (S.1 r) p) (by omega) (by simp [wAt, q3, q4, q5, nI_0, mI_one] <;> rfl)).symm.trans hr9) (by omega)
        · have q5 := Int32.not_le.mp q5
          have q5 := (nI_ltI (by omega) (by omega)).mp q5
          refine mt_aload_n dX4_wrongAt_66 rfl rfl ?_
          refine mt_getfield mKX4 (i := 0) (by decide) mw_1053 dX4_wrongAt_67 C0 rfl ?_
          refine mt_iload_n dX4_wrongAt_70 rfl ?_
          refine mp_aaload dX4_wrongAt_71 G28_1 (fun _ => rfl) rfl rfl (by omega) (by omega) (v := .ref (kx r)) (by rw [GK_1 _ (by omega)]; rfl) ?_
          refine mt_iload dX4_wrongAt_72 rfl ?_
          refine mp_iaload dX4_wrongAt_74 ke_2 rfl (by omega) (by omega) (v := xk (S.1 r) k) (kg_2 _ (by omega)) ?_
          refine mt_aload_n dX4_wrongAt_75 rfl rfl ?_
          refine mt_getfield mKX4 (i := 0) (by decide) mw_1053 dX4_wrongAt_76 C0 rfl ?_
          refine mt_iload_n dX4_wrongAt_79 rfl ?_
          refine mp_aaload dX4_wrongAt_80 G28_1 (fun _ => rfl) rfl rfl (by omega) (by omega) (v := .ref (kx r)) (by rw [GK_1 _ (by omega)]; rfl) ?_
          refine mt_iload_n dX4_wrongAt_81 rfl ?_
          refine mp_iaload dX4_wrongAt_82 ke_2 rfl (by omega) (by omega) (v := xk (S.1 r) p) (kg_2 _ (by omega)) ?_
          refine mt_icmp_ge dX4_wrongAt_83 (tgt := 90) rfl (fun q6 => ?_) (fun q6 => ?_)
          · have q6 := Int32.not_lt.mpr q6
            refine mt_iconst dX4_wrongAt_90 (v := nI 0) rfl ?_
            refine mp_iadd dX4_wrongAt_91 (v := acc + (nI 0)) rfl ?_
            refine mp_istore_n dX4_wrongAt_92 (ls' := [.ref 27, .int (nI r), .int (nI p), .int (acc + (nI 0)), .int (nI k)]) rfl (by decide) rfl ?_
            refine mp_iinc dX4_wrongAt_93 rfl (v := nI (k + 1)) mI_inc (ls' := [.ref 27, .int (nI r), .int (nI p), .int (acc + (nI 0)), .int (nI (k + 1))]) rfl (by decide) rfl ?_
            refine mt_goto dX4_wrongAt_96 (tgt := 21) rfl ?_
            exact ih (k + 1) (acc + (nI 0)) (by omega) ((mlp_go (f := wAt (S.1 r) p) (by omega) (by simp [wAt, q3, q4, q5, q6, nI_0, mI_one] <;> rfl)).symm.trans hr9) (by omega)
          · have q6 := Int32.not_le.mp q6
            refine mt_iconst dX4_wrongAt_86 (v := nI 1) rfl ?_
            refine mt_goto dX4_wrongAt_87 (tgt := 91) rfl ?_
            refine mp_iadd dX4_wrongAt_91 (v := acc + (nI 1)) rfl ?_
            refine mp_istore_n dX4_wrongAt_92 (ls' := [.ref 27, .int (nI r), .int (nI p), .int (acc + (nI 1)), .int (nI k)]) rfl (by decide) rfl ?_
            refine mp_iinc dX4_wrongAt_93 rfl (v := nI (k + 1)) mI_inc (ls' := [.ref 27, .int (nI r), .int (nI p), .int (acc + (nI 1)), .int (nI (k + 1))]) rfl (by decide) rfl ?_
            refine mt_goto dX4_wrongAt_96 (tgt := 21) rfl ?_
            exact ih (k + 1) (acc + (nI 1)) (by omega) ((mlp_go (f := wAt (S.1 r) p) (by omega) (by simp [wAt, q3, q4, q5, q6, nI_0, mI_one] <;> rfl)).symm.trans hr9) (by omega)
      · have q4 := Int32.not_le.mp q4
        have q4 := (nI_ltI (by omega) (by omega)).mp q4
        refine mt_aload_n dX4_wrongAt_40 rfl rfl ?_
        refine mt_getfield mKX4 (i := 0) (by decide) mw_1053 dX4_wrongAt_41 C0 rfl ?_
        refine mt_iload_n dX4_wrongAt_44 rfl ?_
        refine mp_aaload dX4_wrongAt_45 G28_1 (fun _ => rfl) rfl rfl (by omega) (by omega) (v := .ref (kx r)) (by rw [GK_1 _ (by omega)]; rfl) ?_
        refine mt_iload dX4_wrongAt_46 rfl ?_
        refine mp_iaload dX4_wrongAt_48 ke_2 rfl (by omega) (by omega) (v := xk (S.1 r) k) (kg_2 _ (by omega)) ?_
        refine mt_aload_n dX4_wrongAt_49 rfl rfl ?_
        refine mt_getfield mKX4 (i := 0) (by decide) mw_1053 dX4_wrongAt_50 C0 rfl ?_
        refine mt_iload_n dX4_wrongAt_53 rfl ?_
        refine mp_aaload dX4_wrongAt_54 G28_1 (fun _ => rfl) rfl rfl (by omega) (by omega) (v := .ref (kx r)) (by rw [GK_1 _ (by omega)]; rfl) ?_
        refine mt_iload_n dX4_wrongAt_55 rfl ?_
        refine mp_iaload dX4_wrongAt_56 ke_2 rfl (by omega) (by omega) (v := xk (S.1 r) p) (kg_2 _ (by omega)) ?_
        refine mt_icmp_gt dX4_wrongAt_57 (tgt := 86) rfl (fun q7 => ?_) (fun q7 => ?_)
        · refine mt_iconst dX4_wrongAt_86 (v := nI 1) rfl ?_
          refine mt_goto dX4_wrongAt_87 (tgt := 91) rfl ?_
          refine mp_iadd dX4_wrongAt_91 (v := acc + (nI 1)) rfl ?_
          refine mp_istore_n dX4_wrongAt_92 (ls' := [.ref 27, .int (nI r), .int (nI p), .int (acc + (nI 1)), .int (nI k)]) rfl (by decide) rfl ?_
          refine mp_iinc dX4_wrongAt_93 rfl (v := nI (k + 1)) mI_inc (ls' := [.ref 27, .int (nI r), .int (nI p), .int (acc + (nI 1)), .int (nI (k + 1))]) rfl (by decide) rfl ?_
          refine mt_goto dX4_wrongAt_96 (tgt := 21) rfl ?_
          exact ih (k + 1) (acc + (nI 1)) (by omega) ((mlp_go (f := wAt (S.1 r) p) (by omega) (by simp [wAt, q3, q4, q7, nI_0, mI_one] <;> rfl)).symm.trans hr9) (by omega)
        · refine mt_iload dX4_wrongAt_60 rfl ?_
          refine mt_iload_n dX4_wrongAt_62 rfl ?_
          refine mt_icmp_le dX4_wrongAt_63 (tgt := 90) rfl (fun q8 => ?_) (fun q8 => ?_)
          · have q8 := Int32.not_lt.mpr q8
            have q8 := (not_congr (nI_ltI (by omega) (by omega))).mp q8
            refine mt_iconst dX4_wrongAt_90 (v := nI 0) rfl ?_
            refine mp_iadd dX4_wrongAt_91 (v := acc + (nI 0)) rfl ?_
            refine mp_istore_n dX4_wrongAt_92 (ls' := [.ref 27, .int (nI r), .int (nI p), .int (acc + (nI 0)), .int (nI k)]) rfl (by decide) rfl ?_
            refine mp_iinc dX4_wrongAt_93 rfl (v := nI (k + 1)) mI_inc (ls' := [.ref 27, .int (nI r), .int (nI p), .int (acc + (nI 0)), .int (nI (k + 1))]) rfl (by decide) rfl ?_
            refine mt_goto dX4_wrongAt_96 (tgt := 21) rfl ?_
            exact ih (k + 1) (acc + (nI 0)) (by omega) ((mlp_go (f := wAt (S.1 r) p) (by omega) (by simp [wAt, q3, q4, q7, q8, nI_0, mI_one] <;> rfl)).symm.trans hr9) (by omega)
          · have q8 := Int32.not_le.mp q8
            have q8 := (nI_ltI (by omega) (by omega)).mp q8
            refine mt_aload_n dX4_wrongAt_66 rfl rfl ?_
            refine mt_getfield mKX4 (i := 0) (by decide) mw_1053 dX4_wrongAt_67 C0 rfl ?_
            refine mt_iload_n dX4_wrongAt_70 rfl ?_
            refine mp_aaload dX4_wrongAt_71 G28_1 (fun _ => rfl) rfl rfl (by omega) (by omega) (v := .ref (kx r)) (by rw [GK_1 _ (by omega)]; rfl) ?_
            refine mt_iload dX4_wrongAt_72 rfl ?_
            refine mp_iaload dX4_wrongAt_74 ke_2 rfl (by omega) (by omega) (v := xk (S.1 r) k) (kg_2 _ (by omega)) ?_
            refine mt_aload_n dX4_wrongAt_75 rfl rfl ?_
            refine mt_getfield mKX4 (i := 0) (by decide) mw_1053 dX4_wrongAt_76 C0 rfl ?_
            refine mt_iload_n dX4_wrongAt_79 rfl ?_
            refine mp_aaload dX4_wrongAt_80 G28_1 (fun _ => rfl) rfl rfl (by omega) (by omega) (v := .ref (kx r)) (by rw [GK_1 _ (by omega)]; rfl) ?_
            refine mt_iload_n dX4_wrongAt_81 rfl ?_
            refine mp_iaload dX4_wrongAt_82 ke_2 rfl (by omega) (by omega) (v := xk (S.1 r) p) (kg_2 _ (by omega)) ?_
            refine mt_icmp_ge dX4_wrongAt_83 (tgt := 90) rfl (fun q9 => ?_) (fun q9 => ?_)
            · have q9 := Int32.not_lt.mpr q9
              refine mt_iconst dX4_wrongAt_90 (v := nI 0) rfl ?_
              refine mp_iadd dX4_wrongAt_91 (v := acc + (nI 0)) rfl ?_
              refine mp_istore_n dX4_wrongAt_92 (ls' := [.ref 27, .int (nI r), .int (nI p), .int (acc + (nI 0)), .int (nI k)]) rfl (by decide) rfl ?_
              refine mp_iinc dX4_wrongAt_93 rfl (v := nI (k + 1)) mI_inc (ls' := [.ref 27, .int (nI r), .int (nI p), .int (acc + (nI 0)), .int (nI (k + 1))]) rfl (by decide) rfl ?_
              refine mt_goto dX4_wrongAt_96 (tgt := 21) rfl ?_
              exact ih (k + 1) (acc + (nI 0)) (by omega) ((mlp_go (f := wAt (S.1 r) p) (by omega) (by simp [wAt, q3, q4, q7, q8, q9, nI_0, mI_one] <;> rfl)).symm.trans hr9) (by omega)
            · have q9 := Int32.not_le.mp q9
              refine mt_iconst dX4_wrongAt_86 (v := nI 1) rfl ?_
              refine mt_goto dX4_wrongAt_87 (tgt := 91) rfl ?_
              refine mp_iadd dX4_wrongAt_91 (v := acc + (nI 1)) rfl ?_
              refine mp_istore_n dX4_wrongAt_92 (ls' := [.ref 27, .int (nI r), .int (nI p), .int (acc + (nI 1)), .int (nI k)]) rfl (by decide) rfl ?_
              refine mp_iinc dX4_wrongAt_93 rfl (v := nI (k + 1)) mI_inc (ls' := [.ref 27, .int (nI r), .int (nI p), .int (acc + (nI 1)), .int (nI (k + 1))]) rfl (by decide) rfl ?_
              refine mt_goto dX4_wrongAt_96 (tgt := 21) rfl ?_
              exact ih (k + 1) (acc + (nI 1)) (by omega) ((mlp_go (f := wAt (S.1 r) p) (by omega) (by simp [wAt, q3, q4, q7, q8, q9, nI_0, mI_one] <;> rfl)).symm.trans hr9) (by omega)
def mp_wrongAt (S : cS) (row : Int32) (place : Int32) : Nat × Value × cS := dAt S 4 row fun r => dAt S (S.1 r).length place fun p => (0, .int (mlp (wAt (S.1 r) p) ((S.1 r).length - 0) 0 (nI 0)), S)
set_option maxRecDepth 100000 in
set_option maxHeartbeats 2000000 in
theorem kX4_wrongAt {l : Launch} (hl : l.stackTraces = false) {h : mH} {n : Nat} {S : cS} {th : Int32} {row : Int32} {place : Int32} (C : mAt h n S th) : mC l mX4_wrongAt rX4_wrongAt [.ref 27, .int row, .int place] h n (mOkq (mp_wrongAt S row place) (.int (nI 0)) h n) (mNX) := by
  obtain ⟨C0, h39, kx, sx, HR⟩ := id C
  obtain ⟨⟨gk_1, G28_1, GK_1⟩, ⟨gs_1, G33_1, GS_1⟩, AK_1, AS_1, NE_1, NQ_1, LE_1⟩ := id HR
  refine mm_enter hl (by decide +kernel) rfl rfl rfl (Nat.le_of_ble_eq_true rfl) ?_
  show mT _ _ _ _ 0 [.ref 27, .int row, .int place, .double 0, .double 0] [] _ _ 0 0
  rcases hq2 : inN 4 row with _ | r3
  · refine mt_aload_n dX4_wrongAt_0 rfl rfl ?_
    refine mt_aload_n dX4_wrongAt_1 rfl rfl ?_
    refine mt_iload_n dX4_wrongAt_2 rfl ?_
    refine mt_iload_n dX4_wrongAt_3 rfl ?_
    refine mt_callV (N := mX4_isPlace) (Rc := rX4_isPlace) (As := [.int row, .int place]) (st := [.ref 27]) dX4_wrongAt_4 (kX4_isPlace_f hl hq2) sX4_isPlace mw_1126 mKX4 rfl C0 rfl (Nat.le_of_ble_eq_true rfl) ⟨⟨Nat.le_of_ble_eq_true rfl, Nat.le_of_ble_eq_true rfl⟩, Nat.le_of_ble_eq_true rfl, Nat.le_of_ble_eq_true rfl⟩ (fun v4 h5 n6 c7 => ?_) (fun _ _ _ hx => hx.elim)
    obtain ⟨c7a, c7b, c7c⟩ := c7
    rw [c7a, c7b, c7c]
    show mT _ _ _ _ 7 [.ref 27, .int row, .int place, .double 0, .double 0] [.int (nI 0), .ref 27] _ _ _ _
    refine mt_iconst dX4_wrongAt_7 (v := nI 1) rfl ?_
    refine mt_callV (N := mX4_isLet) (Rc := rX4_isLet) (As := [.int (nI 0), .int (nI 1)]) (st := []) dX4_wrongAt_8 (kX4_isLet (t := false) (f := true) hl C0) sX4_isLet mw_1092 mKX4 rfl C0 rfl (Nat.le_of_ble_eq_true rfl) ⟨⟨Nat.le_of_ble_eq_true rfl, Nat.le_of_ble_eq_true rfl⟩, Nat.le_of_ble_eq_true rfl, Nat.le_of_ble_eq_true rfl⟩ (fun v8 h9 n10 c11 => ?_) (fun _ _ _ hx => hx.elim)
    obtain ⟨c11a, c11b, c11c, c11d⟩ := c11
    rw [c11a, c11b]
    show mT _ _ _ _ 11 [.ref 27, .int row, .int place, .double 0, .double 0] [.int (nI 0)] _ _ _ _
    refine mt_if_ne dX4_wrongAt_11 (tgt := 16) rfl (fun q12 => ?_) (fun q12 => ?_)
    · have q12 := (not_congr (mI_eq0 (by omega))).mp q12
      exact absurd q12 (by decide)
    · have q12 := (mI_eq0 (by omega)).mp q12
      refine mt_iconst dX4_wrongAt_14 (v := nI 0) rfl ?_
      refine mt_ireturn dX4_wrongAt_15 rfl rfl (Nat.le_of_ble_eq_true rfl) (Nat.le_of_ble_eq_true rfl) ?_
      exact mOkq.no (k := 1) (S' := S) (by simp only [mp_wrongAt, dAt_n (k := 4) (x := row) hq2, if_pos q12]) (by decide) rfl (by omega) c11c (by omega) (mRows.fr (n' := n) HR (by omega) (fun j j1 j2 j3 => c11d (j) (by omega)) (by omega)) (fun j hj => c11d j (by omega))
  · obtain ⟨hr3, rfl⟩ := inN_of hq2 (by first | decide | omega)
    obtain ⟨⟨ka_13, kb_13, kc_13, kd_13⟩, kf_13, ke_13, kg_13⟩ := AK_1 r3 hr3
    obtain ⟨⟨sa_13, sb_13, sc_13, sd_13⟩, sf_13, se_13, sg_13⟩ := AS_1 r3 hr3
    have kn_13 := NE_1 r3 r3 hr3 hr3
    have kl_13 := LE_1 r3 hr3
    have km_13 := rroom_le (r := r3)
    rcases hq14 : inN (S.1 r3).length place with _ | p15
    · refine mt_aload_n dX4_wrongAt_0 rfl rfl ?_
      refine mt_aload_n dX4_wrongAt_1 rfl rfl ?_
      refine mt_iload_n dX4_wrongAt_2 rfl ?_
      refine mt_iload_n dX4_wrongAt_3 rfl ?_
      refine mt_callV (N := mX4_isPlace) (Rc := rX4_isPlace) (As := [.int (nI r3), .int place]) (st := [.ref 27]) dX4_wrongAt_4 (kX4_isPlace hl C0 HR (by omega) (by omega)) sX4_isPlace mw_1126 mKX4 rfl C0 rfl (Nat.le_of_ble_eq_true rfl) ⟨⟨Nat.le_of_ble_eq_true rfl, Nat.le_of_ble_eq_true rfl⟩, Nat.le_of_ble_eq_true rfl, Nat.le_of_ble_eq_true rfl⟩ (fun v16 h17 n18 c19 => ?_) (fun _ _ _ hx => hx.elim)
      obtain ⟨c19a, c19b, c19c⟩ := c19
      rw [show (inN (S.1 r3).length place).isSome = false from by rw [hq14]; rfl] at c19a
      rw [c19a, c19b, c19c]
      show mT _ _ _ _ 7 [.ref 27, .int (nI r3), .int place, .double 0, .double 0] [.int (nI 0), .ref 27] _ _ _ _
      refine mt_iconst dX4_wrongAt_7 (v := nI 1) rfl ?_
      refine mt_callV (N := mX4_isLet) (Rc := rX4_isLet) (As := [.int (nI 0), .int (nI 1)]) (st := []) dX4_wrongAt_8 (kX4_isLet (t := false) (f := true) hl C0) sX4_isLet mw_1092 mKX4 rfl C0 rfl (Nat.le_of_ble_eq_true rfl) ⟨⟨Nat.le_of_ble_eq_true rfl, Nat.le_of_ble_eq_true rfl⟩, Nat.le_of_ble_eq_true rfl, Nat.le_of_ble_eq_true rfl⟩ (fun v20 h21 n22 c23 => ?_) (fun _ _ _ hx => hx.elim)
      obtain ⟨c23a, c23b, c23c, c23d⟩ := c23
      rw [c23a, c23b]
      show mT _ _ _ _ 11 [.ref 27, .int (nI r3), .int place, .double 0, .double 0] [.int (nI 0)] _ _ _ _
      refine mt_if_ne dX4_wrongAt_11 (tgt := 16) rfl (fun q24 => ?_) (fun q24 => ?_)
      · have q24 := (not_congr (mI_eq0 (by omega))).mp q24
        exact absurd q24 (by decide)
      · have q24 := (mI_eq0 (by omega)).mp q24
        refine mt_iconst dX4_wrongAt_14 (v := nI 0) rfl ?_
        refine mt_ireturn dX4_wrongAt_15 rfl rfl (Nat.le_of_ble_eq_true rfl) (Nat.le_of_ble_eq_true rfl) ?_
        exact mOkq.no (k := 1) (S' := S) (by simp only [mp_wrongAt, dAt_s (k := 4) hr3 (by first | decide | omega), dAt_n (k := (S.1 r3).length) (x := place) hq14, if_pos q24]) (by decide) rfl (by omega) c23c (by omega) (mRows.fr (n' := n) HR (by omega) (fun j j1 j2 j3 => c23d (j) (by omega)) (by omega)) (fun j hj => c23d j (by omega))
    · obtain ⟨hp15, rfl⟩ := inN_of hq14 (by first | decide | omega)
      refine mt_aload_n dX4_wrongAt_0 rfl rfl ?_
      refine mt_aload_n dX4_wrongAt_1 rfl rfl ?_
      refine mt_iload_n dX4_wrongAt_2 rfl ?_
      refine mt_iload_n dX4_wrongAt_3 rfl ?_
      refine mt_callV (N := mX4_isPlace) (Rc := rX4_isPlace) (As := [.int (nI r3), .int (nI p15)]) (st := [.ref 27]) dX4_wrongAt_4 (kX4_isPlace hl C0 HR (by omega) (by omega)) sX4_isPlace mw_1126 mKX4 rfl C0 rfl (Nat.le_of_ble_eq_true rfl) ⟨⟨Nat.le_of_ble_eq_true rfl, Nat.le_of_ble_eq_true rfl⟩, Nat.le_of_ble_eq_true rfl, Nat.le_of_ble_eq_true rfl⟩ (fun v25 h26 n27 c28 => ?_) (fun _ _ _ hx => hx.elim)
      obtain ⟨c28a, c28b, c28c⟩ := c28
      rw [show (inN (S.1 r3).length (nI p15)).isSome = true from by rw [inN_some hp15 (by omega)]; rfl] at c28a
      rw [c28a, c28b, c28c]
      show mT _ _ _ _ 7 [.ref 27, .int (nI r3), .int (nI p15), .double 0, .double 0] [.int (nI 1), .ref 27] _ _ _ _
      refine mt_iconst dX4_wrongAt_7 (v := nI 1) rfl ?_
      refine mt_callV (N := mX4_isLet) (Rc := rX4_isLet) (As := [.int (nI 1), .int (nI 1)]) (st := []) dX4_wrongAt_8 (kX4_isLet (t := true) (f := true) hl C0) sX4_isLet mw_1092 mKX4 rfl C0 rfl (Nat.le_of_ble_eq_true rfl) ⟨⟨Nat.le_of_ble_eq_true rfl, Nat.le_of_ble_eq_true rfl⟩, Nat.le_of_ble_eq_true rfl, Nat.le_of_ble_eq_true rfl⟩ (fun v29 h30 n31 c32 => ?_) (fun _ _ _ hx => hx.elim)
      obtain ⟨c32a, c32b, c32c, c32d⟩ := c32
      rw [c32a, c32b]
      show mT _ _ _ _ 11 [.ref 27, .int (nI r3), .int (nI p15), .double 0, .double 0] [.int (nI 1)] _ _ _ _
      refine mt_if_ne dX4_wrongAt_11 (tgt := 16) rfl (fun q33 => ?_) (fun q33 => ?_)
      · have q33 := (not_congr (mI_eq0 (by omega))).mp q33
        refine mt_iconst dX4_wrongAt_16 (v := nI 0) rfl ?_
        refine mp_istore_n dX4_wrongAt_17 (ls' := [.ref 27, .int (nI r3), .int (nI p15), .int (nI 0), .double 0]) rfl (by decide) rfl ?_
        refine mt_iconst dX4_wrongAt_18 (v := nI 0) rfl ?_
        refine mp_istore dX4_wrongAt_19 (ls' := [.ref 27, .int (nI r3), .int (nI p15), .int (nI 0), .int (nI 0)]) rfl (by decide) rfl ?_
        refine tX4_wrongAt_21 c32c (mRows.fr (n' := n) HR (by omega) (fun j j1 j2 j3 => c32d (j) (by omega)) (by omega)) (by omega) hr3 (by omega) (fun acc_34 k_35 z36 => ?_) _ 0 (nI 0) (Nat.lt_succ_self _) rfl (by omega)
        refine mt_iload_n dX4_wrongAt_99 rfl ?_
        refine mt_ireturn dX4_wrongAt_100 rfl rfl (Nat.le_of_ble_eq_true rfl) (Nat.le_of_ble_eq_true rfl) ?_
        exact mOkq.of (x := .int acc_34) (S' := ((S).1, S.2.1, S.2.2.1, S.2.2.2.1, S.2.2.2.2)) (by simp only [mp_wrongAt, dAt_s (k := 4) hr3 (by first | decide | omega), dAt_s (k := (S.1 r3).length) hp15 (by first | decide | omega), if_neg q33]; exact congrArg (fun x => ((0 : Nat), Value.int (x), S)) z36.symm) rfl (by omega) c32c (by omega) (mRows.fr (n' := n) HR (by omega) (fun j j1 j2 j3 => c32d (j) (by omega)) (by omega)) (fun j hj => c32d j (by omega))
      · have q33 := (mI_eq0 (by omega)).mp q33
        exact absurd q33 (by decide)
def mp_isSorted (S : cS) (row : Int32) : Nat × Value × cS := dAt S 4 row fun r => (0, .int (mb (decide (mq_pairs (S.1 r) (nI 1) = 0))), S)
abbrev rX4_isSorted : Room := { frames := 2, cells := 0, slots := 0, locals := 46 }
set_option maxRecDepth 100000 in
set_option maxHeartbeats 2000000 in
theorem kX4_isSorted {l : Launch} (hl : l.stackTraces = false) {h : mH} {n : Nat} {S : cS} {th : Int32} {row : Int32} (C : mAt h n S th) : mC l mX4_isSorted rX4_isSorted [.ref 27, .int row] h n (mOkq (mp_isSorted S row) (.int (nI 0)) h n) (mNX) := by
  obtain ⟨C0, h39, kx, sx, HR⟩ := id C
  obtain ⟨⟨gk_1, G28_1, GK_1⟩, ⟨gs_1, G33_1, GS_1⟩, AK_1, AS_1, NE_1, NQ_1, LE_1⟩ := id HR
  refine mm_enter hl (by decide +kernel) rfl rfl rfl (Nat.le_of_ble_eq_true rfl) ?_
  show mT _ _ _ _ 0 [.ref 27, .int row] [] _ _ 0 0
  rcases hq2 : inN 4 row with _ | r3
  · refine mt_aload_n dX4_isSorted_0 rfl rfl ?_
    refine mt_iload_n dX4_isSorted_1 rfl ?_
    refine mt_callS (N := mX4_isRow) (Rc := rX4_isRow) (As := [.int row]) (st := [.ref 27]) dX4_isSorted_2 (kX4_isRow hl) sX4_isRow mw_1083 rfl (Nat.le_of_ble_eq_true rfl) ⟨⟨Nat.le_of_ble_eq_true rfl, Nat.le_of_ble_eq_true rfl⟩, Nat.le_of_ble_eq_true rfl, Nat.le_of_ble_eq_true rfl⟩ (fun v4 h5 n6 c7 => ?_) (fun _ _ _ hx => hx.elim)
    obtain ⟨c7a, c7b, c7c⟩ := c7
    rw [show (inN 4 row).isSome = false from by rw [hq2]; rfl] at c7a
    rw [c7a, c7b, c7c]
    show mT _ _ _ _ 5 [.ref 27, .int row] [.int (nI 0), .ref 27] _ _ _ _
    refine mt_iconst dX4_isSorted_5 (v := nI 1) rfl ?_
    refine mt_callV (N := mX4_isLet) (Rc := rX4_isLet) (As := [.int (nI 0), .int (nI 1)]) (st := []) dX4_isSorted_6 (kX4_isLet (t := false) (f := true) hl C0) sX4_isLet mw_1092 mKX4 rfl C0 rfl (Nat.le_of_ble_eq_true rfl) ⟨⟨Nat.le_of_ble_eq_true rfl, Nat.le_of_ble_eq_true rfl⟩, Nat.le_of_ble_eq_true rfl, Nat.le_of_ble_eq_true rfl⟩ (fun v8 h9 n10 c11 => ?_) (fun _ _ _ hx => hx.elim)
    obtain ⟨c11a, c11b, c11c, c11d⟩ := c11
    rw [c11a, c11b]
    show mT _ _ _ _ 9 [.ref 27, .int row] [.int (nI 0)] _ _ _ _
    refine mt_if_eq dX4_isSorted_9 (tgt := 25) rfl (fun q12 => ?_) (fun q12 => ?_)
    · have q12 := (mI_eq0 (by omega)).mp q12
      refine mt_iconst dX4_isSorted_25 (v := nI 0) rfl ?_
      refine mt_ireturn dX4_isSorted_26 rfl rfl (Nat.le_of_ble_eq_true rfl) (Nat.le_of_ble_eq_true rfl) ?_
      exact mOkq.no (k := 1) (S' := S) (by simp only [mp_isSorted, dAt_n (k := 4) (x := row) hq2, if_pos q12]) (by decide) rfl (by omega) c11c (by omega) (mRows.fr (n' := n) HR (by omega) (fun j j1 j2 j3 => c11d (j) (by omega)) (by omega)) (fun j hj => c11d j (by omega))
    · have q12 := (not_congr (mI_eq0 (by omega))).mp q12
      exact absurd q12 (by decide)
  · obtain ⟨hr3, rfl⟩ := inN_of hq2 (by first | decide | omega)
    obtain ⟨⟨ka_13, kb_13, kc_13, kd_13⟩, kf_13, ke_13, kg_13⟩ := AK_1 r3 hr3
    obtain ⟨⟨sa_13, sb_13, sc_13, sd_13⟩, sf_13, se_13, sg_13⟩ := AS_1 r3 hr3
    have kn_13 := NE_1 r3 r3 hr3 hr3
    have kl_13 := LE_1 r3 hr3
    have km_13 := rroom_le (r := r3)
    refine mt_aload_n dX4_isSorted_0 rfl rfl ?_
    refine mt_iload_n dX4_isSorted_1 rfl ?_
    refine mt_callS (N := mX4_isRow) (Rc := rX4_isRow) (As := [.int (nI r3)]) (st := [.ref 27]) dX4_isSorted_2 (kX4_isRow hl) sX4_isRow mw_1083 rfl (Nat.le_of_ble_eq_true rfl) ⟨⟨Nat.le_of_ble_eq_true rfl, Nat.le_of_ble_eq_true rfl⟩, Nat.le_of_ble_eq_true rfl, Nat.le_of_ble_eq_true rfl⟩ (fun v14 h15 n16 c17 => ?_) (fun _ _ _ hx => hx.elim)
    obtain ⟨c17a, c17b, c17c⟩ := c17
    rw [show (inN 4 (nI r3)).isSome = true from by rw [inN_some hr3 (by decide)]; rfl] at c17a
    rw [c17a, c17b, c17c]
    show mT _ _ _ _ 5 [.ref 27, .int (nI r3)] [.int (nI 1), .ref 27] _ _ _ _
    refine mt_iconst dX4_isSorted_5 (v := nI 1) rfl ?_
    refine mt_callV (N := mX4_isLet) (Rc := rX4_isLet) (As := [.int (nI 1), .int (nI 1)]) (st := []) dX4_isSorted_6 (kX4_isLet (t := true) (f := true) hl C0) sX4_isLet mw_1092 mKX4 rfl C0 rfl (Nat.le_of_ble_eq_true rfl) ⟨⟨Nat.le_of_ble_eq_true rfl, Nat.le_of_ble_eq_true rfl⟩, Nat.le_of_ble_eq_true rfl, Nat.le_of_ble_eq_true rfl⟩ (fun v18 h19 n20 c21 => ?_) (fun _ _ _ hx => hx.elim)
    obtain ⟨c21a, c21b, c21c, c21d⟩ := c21
    rw [c21a, c21b]
    show mT _ _ _ _ 9 [.ref 27, .int (nI r3)] [.int (nI 1)] _ _ _ _
    refine mt_if_eq dX4_isSorted_9 (tgt := 25) rfl (fun q22 => ?_) (fun q22 => ?_)
    · have q22 := (mI_eq0 (by omega)).mp q22
      exact absurd q22 (by decide)
    · have q22 := (not_congr (mI_eq0 (by omega))).mp q22
      refine mt_aload_n dX4_isSorted_12 rfl rfl ?_
      refine mt_iload_n dX4_isSorted_13 rfl ?_
      refine mt_iconst dX4_isSorted_14 (v := nI 1) rfl ?_
      refine mt_callV (N := mX4_pairs) (Rc := rX4_pairs) (As := [.int (nI r3), .int (nI 1)]) (st := []) dX4_isSorted_15 (kX4_pairs hl c21c (mRows.fr (n' := n) HR (by omega) (fun j j1 j2 j3 => c21d (j) (by omega)) (by omega)) (by omega)) sX4_pairs mw_1146 mKX4 rfl c21c rfl (Nat.le_of_ble_eq_true rfl) ⟨⟨Nat.le_of_ble_eq_true rfl, Nat.le_of_ble_eq_true rfl⟩, Nat.le_of_ble_eq_true rfl, Nat.le_of_ble_eq_true rfl⟩ (fun v23 h24 n25 c26 => ?_) (fun _ _ _ hx => hx.elim)
      obtain ⟨c26a, c26b, c26c⟩ := c26
      rw [c26a, c26b, c26c]
      show mT _ _ _ _ 18 [.ref 27, .int (nI r3)] [.int (mq_pairs (S.1 r3) (nI 1))] _ _ _ _
      refine mt_if_ne dX4_isSorted_18 (tgt := 25) rfl (fun q27 => ?_) (fun q27 => ?_)
      · refine mt_iconst dX4_isSorted_25 (v := nI 0) rfl ?_
        refine mt_ireturn dX4_isSorted_26 rfl rfl (Nat.le_of_ble_eq_true rfl) (Nat.le_of_ble_eq_true rfl) ?_
        exact mOkq.of (x := .int (nI 0)) (S' := ((S).1, S.2.1, S.2.2.1, S.2.2.2.1, S.2.2.2.2)) (by simp only [mp_isSorted, dAt_s (k := 4) hr3 (by first | decide | omega)]; exact congrArg (a₂ := false) (fun b => ((0 : Nat), Value.int (mb b), S)) (by simp [decide_eq_false q22, decide_eq_false q27])) rfl (by omega) c21c (by omega) (mRows.fr (n' := n) HR (by omega) (fun j j1 j2 j3 => c21d (j) (by omega)) (by omega)) (fun j hj => c21d j (by omega))
      · refine mt_iconst dX4_isSorted_21 (v := nI 1) rfl ?_
        refine mt_goto dX4_isSorted_22 (tgt := 26) rfl ?_
        refine mt_ireturn dX4_isSorted_26 rfl rfl (Nat.le_of_ble_eq_true rfl) (Nat.le_of_ble_eq_true rfl) ?_
        exact mOkq.of (x := .int (nI 1)) (S' := ((S).1, S.2.1, S.2.2.1, S.2.2.2.1, S.2.2.2.2)) (by simp only [mp_isSorted, dAt_s (k := 4) hr3 (by first | decide | omega)]; exact congrArg (a₂ := true) (fun b => ((0 : Nat), Value.int (mb b), S)) (by simp [decide_eq_false q22, decide_eq_true q27])) rfl (by omega) c21c (by omega) (mRows.fr (n' := n) HR (by omega) (fun j j1 j2 j3 => c21d (j) (by omega)) (by omega)) (fun j hj => c21d j (by omega))
def mp_isFalling (S : cS) (row : Int32) : Nat × Value × cS := dAt S 4 row fun r => (0, .int (mb (decide (mq_pairs (S.1 r) (nI 0) + mq_pairs (S.1 r) (-1) = 0))), S)
abbrev rX4_isFalling : Room := { frames := 2, cells := 0, slots := 0, locals := 46 }
set_option maxRecDepth 100000 in
set_option maxHeartbeats 2000000 in
theorem kX4_isFalling {l : Launch} (hl : l.stackTraces = false) {h : mH} {n : Nat} {S : cS} {th : Int32} {row : Int32} (C : mAt h n S th) : mC l mX4_isFalling rX4_isFalling [.ref 27, .int row] h n (mOkq (mp_isFalling S row) (.int (nI 0)) h n) (mNX) := by
  obtain ⟨C0, h39, kx, sx, HR⟩ := id C
  obtain ⟨⟨gk_1, G28_1, GK_1⟩, ⟨gs_1, G33_1, GS_1⟩, AK_1, AS_1, NE_1, NQ_1, LE_1⟩ := id HR
  refine mm_enter hl (by decide +kernel) rfl rfl rfl (Nat.le_of_ble_eq_true rfl) ?_
  show mT _ _ _ _ 0 [.ref 27, .int row] [] _ _ 0 0
  rcases hq2 : inN 4 row with _ | r3
  · refine mt_aload_n dX4_isFalling_0 rfl rfl ?_
    refine mt_iload_n dX4_isFalling_1 rfl ?_
    refine mt_callS (N := mX4_isRow) (Rc := rX4_isRow) (As := [.int row]) (st := [.ref 27]) dX4_isFalling_2 (kX4_isRow hl) sX4_isRow mw_1083 rfl (Nat.le_of_ble_eq_true rfl) ⟨⟨Nat.le_of_ble_eq_true rfl, Nat.le_of_ble_eq_true rfl⟩, Nat.le_of_ble_eq_true rfl, Nat.le_of_ble_eq_true rfl⟩ (fun v4 h5 n6 c7 => ?_) (fun _ _ _ hx => hx.elim)
    obtain ⟨c7a, c7b, c7c⟩ := c7
    rw [show (inN 4 row).isSome = false from by rw [hq2]; rfl] at c7a
    rw [c7a, c7b, c7c]
    show mT _ _ _ _ 5 [.ref 27, .int row] [.int (nI 0), .ref 27] _ _ _ _
    refine mt_iconst dX4_isFalling_5 (v := nI 1) rfl ?_
    refine mt_callV (N := mX4_isLet) (Rc := rX4_isLet) (As := [.int (nI 0), .int (nI 1)]) (st := []) dX4_isFalling_6 (kX4_isLet (t := false) (f := true) hl C0) sX4_isLet mw_1092 mKX4 rfl C0 rfl (Nat.le_of_ble_eq_true rfl) ⟨⟨Nat.le_of_ble_eq_true rfl, Nat.le_of_ble_eq_true rfl⟩, Nat.le_of_ble_eq_true rfl, Nat.le_of_ble_eq_true rfl⟩ (fun v8 h9 n10 c11 => ?_) (fun _ _ _ hx => hx.elim)
    obtain ⟨c11a, c11b, c11c, c11d⟩ := c11
    rw [c11a, c11b]
    show mT _ _ _ _ 9 [.ref 27, .int row] [.int (nI 0)] _ _ _ _
    refine mt_if_eq dX4_isFalling_9 (tgt := 32) rfl (fun q12 => ?_) (fun q12 => ?_)
    · have q12 := (mI_eq0 (by omega)).mp q12
      refine mt_iconst dX4_isFalling_32 (v := nI 0) rfl ?_
      refine mt_ireturn dX4_isFalling_33 rfl rfl (Nat.le_of_ble_eq_true rfl) (Nat.le_of_ble_eq_true rfl) ?_
      exact mOkq.no (k := 1) (S' := S) (by simp only [mp_isFalling, dAt_n (k := 4) (x := row) hq2, if_pos q12]) (by decide) rfl (by omega) c11c (by omega) (mRows.fr (n' := n) HR (by omega) (fun j j1 j2 j3 => c11d (j) (by omega)) (by omega)) (fun j hj => c11d j (by omega))
    · have q12 := (not_congr (mI_eq0 (by omega))).mp q12
      exact absurd q12 (by decide)
  · obtain ⟨hr3, rfl⟩ := inN_of hq2 (by first | decide | omega)
    obtain ⟨⟨ka_13, kb_13, kc_13, kd_13⟩, kf_13, ke_13, kg_13⟩ := AK_1 r3 hr3
    obtain ⟨⟨sa_13, sb_13, sc_13, sd_13⟩, sf_13, se_13, sg_13⟩ := AS_1 r3 hr3
    have kn_13 := NE_1 r3 r3 hr3 hr3
    have kl_13 := LE_1 r3 hr3
    have km_13 := rroom_le (r := r3)
    refine mt_aload_n dX4_isFalling_0 rfl rfl ?_
    refine mt_iload_n dX4_isFalling_1 rfl ?_
    refine mt_callS (N := mX4_isRow) (Rc := rX4_isRow) (As := [.int (nI r3)]) (st := [.ref 27]) dX4_isFalling_2 (kX4_isRow hl) sX4_isRow mw_1083 rfl (Nat.le_of_ble_eq_true rfl) ⟨⟨Nat.le_of_ble_eq_true rfl, Nat.le_of_ble_eq_true rfl⟩, Nat.le_of_ble_eq_true rfl, Nat.le_of_ble_eq_true rfl⟩ (fun v14 h15 n16 c17 => ?_) (fun _ _ _ hx => hx.elim)
    obtain ⟨c17a, c17b, c17c⟩ := c17
    rw [show (inN 4 (nI r3)).isSome = true from by rw [inN_some hr3 (by decide)]; rfl] at c17a
    rw [c17a, c17b, c17c]
    show mT _ _ _ _ 5 [.ref 27, .int (nI r3)] [.int (nI 1), .ref 27] _ _ _ _
    refine mt_iconst dX4_isFalling_5 (v := nI 1) rfl ?_
    refine mt_callV (N := mX4_isLet) (Rc := rX4_isLet) (As := [.int (nI 1), .int (nI 1)]) (st := []) dX4_isFalling_6 (kX4_isLet (t := true) (f := true) hl C0) sX4_isLet mw_1092 mKX4 rfl C0 rfl (Nat.le_of_ble_eq_true rfl) ⟨⟨Nat.le_of_ble_eq_true rfl, Nat.le_of_ble_eq_true rfl⟩, Nat.le_of_ble_eq_true rfl, Nat.le_of_ble_eq_true rfl⟩ (fun v18 h19 n20 c21 => ?_) (fun _ _ _ hx => hx.elim)
    obtain ⟨c21a, c21b, c21c, c21d⟩ := c21
    rw [c21a, c21b]
    show mT _ _ _ _ 9 [.ref 27, .int (nI r3)] [.int (nI 1)] _ _ _ _
    refine mt_if_eq dX4_isFalling_9 (tgt := 32) rfl (fun q22 => ?_) (fun q22 => ?_)
    · have q22 := (mI_eq0 (by omega)).mp q22
      exact absurd q22 (by decide)
    · have q22 := (not_congr (mI_eq0 (by omega))).mp q22
      refine mt_aload_n dX4_isFalling_12 rfl rfl ?_
      refine mt_iload_n dX4_isFalling_13 rfl ?_
      refine mt_iconst dX4_isFalling_14 (v := nI 0) rfl ?_
      refine mt_callV (N := mX4_pairs) (Rc := rX4_pairs) (As := [.int (nI r3), .int (nI 0)]) (st := []) dX4_isFalling_15 (kX4_pairs hl c21c (mRows.fr (n' := n) HR (by omega) (fun j j1 j2 j3 => c21d (j) (by omega)) (by omega)) (by omega)) sX4_pairs mw_1146 mKX4 rfl c21c rfl (Nat.le_of_ble_eq_true rfl) ⟨⟨Nat.le_of_ble_eq_true rfl, Nat.le_of_ble_eq_true rfl⟩, Nat.le_of_ble_eq_true rfl, Nat.le_of_ble_eq_true rfl⟩ (fun v23 h24 n25 c26 => ?_) (fun _ _ _ hx => hx.elim)
      obtain ⟨c26a, c26b, c26c⟩ := c26
      rw [c26a, c26b, c26c]
      show mT _ _ _ _ 18 [.ref 27, .int (nI r3)] [.int (mq_pairs (S.1 r3) (nI 0))] _ _ _ _
      refine mt_aload_n dX4_isFalling_18 rfl rfl ?_
      refine mt_iload_n dX4_isFalling_19 rfl ?_
      refine mt_iconst dX4_isFalling_20 (v := -1) rfl ?_
      refine mt_callV (N := mX4_pairs) (Rc := rX4_pairs) (As := [.int (nI r3), .int (-1)]) (st := [.int (mq_pairs (S.1 r3) (nI 0))]) dX4_isFalling_21 (kX4_pairs hl c21c (mRows.fr (n' := n) HR (by omega) (fun j j1 j2 j3 => c21d (j) (by omega)) (by omega)) (by omega)) sX4_pairs mw_1146 mKX4 rfl c21c rfl (Nat.le_of_ble_eq_true rfl) ⟨⟨Nat.le_of_ble_eq_true rfl, Nat.le_of_ble_eq_true rfl⟩, Nat.le_of_ble_eq_true rfl, Nat.le_of_ble_eq_true rfl⟩ (fun v27 h28 n29 c30 => ?_) (fun _ _ _ hx => hx.elim)
      obtain ⟨c30a, c30b, c30c⟩ := c30
      rw [c30a, c30b, c30c]
      show mT _ _ _ _ 24 [.ref 27, .int (nI r3)] [.int (mq_pairs (S.1 r3) (-1)), .int (mq_pairs (S.1 r3) (nI 0))] _ _ _ _
      refine mp_iadd dX4_isFalling_24 (v := (mq_pairs (S.1 r3) (nI 0)) + (mq_pairs (S.1 r3) (-1))) rfl ?_
      refine mt_if_ne dX4_isFalling_25 (tgt := 32) rfl (fun q31 => ?_) (fun q31 => ?_)
      · refine mt_iconst dX4_isFalling_32 (v := nI 0) rfl ?_
        refine mt_ireturn dX4_isFalling_33 rfl rfl (Nat.le_of_ble_eq_true rfl) (Nat.le_of_ble_eq_true rfl) ?_
        exact mOkq.of (x := .int (nI 0)) (S' := ((S).1, S.2.1, S.2.2.1, S.2.2.2.1, S.2.2.2.2)) (by simp only [mp_isFalling, dAt_s (k := 4) hr3 (by first | decide | omega)]; exact congrArg (a₂ := false) (fun b => ((0 : Nat), Value.int (mb b), S)) (by simp [decide_eq_false q22, decide_eq_false q31])) rfl (by omega) c21c (by omega) (mRows.fr (n' := n) HR (by omega) (fun j j1 j2 j3 => c21d (j) (by omega)) (by omega)) (fun j hj => c21d j (by omega))
      · refine mt_iconst dX4_isFalling_28 (v := nI 1) rfl ?_
        refine mt_goto dX4_isFalling_29 (tgt := 33) rfl ?_
        refine mt_ireturn dX4_isFalling_33 rfl rfl (Nat.le_of_ble_eq_true rfl) (Nat.le_of_ble_eq_true rfl) ?_
        exact mOkq.of (x := .int (nI 1)) (S' := ((S).1, S.2.1, S.2.2.1, S.2.2.2.1, S.2.2.2.2)) (by simp only [mp_isFalling, dAt_s (k := 4) hr3 (by first | decide | omega)]; exact congrArg (a₂ := true) (fun b => ((0 : Nat), Value.int (mb b), S)) (by simp [decide_eq_false q22, decide_eq_true q31])) rfl (by omega) c21c (by omega) (mRows.fr (n' := n) HR (by omega) (fun j j1 j2 j3 => c21d (j) (by omega)) (by omega)) (fun j hj => c21d j (by omega))
abbrev rX4_isKept : Room := { frames := 2, cells := 0, slots := 0, locals := 42 }
set_option maxRecDepth 100000 in
set_option maxHeartbeats 2000000 in
theorem tX4_isKept_16 {l : Launch} {R : Room} {K : mK} {cc sc : Nat} {h : mH} {n : Nat} {S : cS} {kx sx : Nat → Nat} {g ac rf kn th : Int32} {r : Nat} {r9 : Bool} (C0 : h 27 = .inr (.inr (6, [.ref 28, .ref 33, .int g, .int ac, .int rf, .int kn, .int th]))) (HR : mRows h n S kx sx) (h39 : 39 ≤ n) (hr : r < 4) (kk0 : ∀ (k : Nat), (r9 = true) → mT l mX4_isKept R K 77 [.ref 27, .int (nI r), .int (nI k)] [] h n cc sc) (kk1 : ∀ (k : Nat), (r9 = false) → mT l mX4_isKept R K 69 [.ref 27, .int (nI r), .int (nI k)] [] h n cc sc) : ∀ (N0 : Nat) (k : Nat), ((S.1 r).length - k) < N0 → (mall (fun k => decide (¬ (xk (S.1 r) k = xk (S.1 r) (k - 1) ∧ xt (S.1 r) k < xt (S.1 r) (k - 1)))) ((S.1 r).length - k) k = r9) → (0 < k) → (k ≤ (S.1 r).length + 1) → mT l mX4_isKept R K 16 [.ref 27, .int (nI r), .int (nI k)] [] h n cc sc := by
  intro N0
  induction N0 with
  | zero => intro k hm; exact absurd hm (Nat.not_lt_zero _)
  | succ N0 ih =>
    intro k hm hr9 h0 hk
    obtain ⟨⟨gk_1, G28_1, GK_1⟩, ⟨gs_1, G33_1, GS_1⟩, AK_1, AS_1, NE_1, NQ_1, LE_1⟩ := id HR
    obtain ⟨⟨ka_2, kb_2, kc_2, kd_2⟩, kf_2, ke_2, kg_2⟩ := AK_1 r hr
    obtain ⟨⟨sa_2, sb_2, sc_2, sd_2⟩, sf_2, se_2, sg_2⟩ := AS_1 r hr
    have kn_2 := NE_1 r r hr hr
    have kl_2 := LE_1 r hr
    have km_2 := rroom_le (r := r)
    refine mt_iload_n dX4_isKept_16 rfl ?_
    refine mt_aload_n dX4_isKept_17 rfl rfl ?_
    refine mt_getfield mKX4 (i := 0) (by decide) mw_1053 dX4_isKept_18 C0 rfl ?_
    refine mt_iload_n dX4_isKept_21 rfl ?_
    refine mp_aaload dX4_isKept_22 G28_1 (fun _ => rfl) rfl rfl (by omega) (by omega) (v := .ref (kx r)) (by rw [GK_1 _ (by omega)]; rfl) ?_
    refine mt_alen dX4_isKept_23 ke_2 (by decide) ?_
    refine mt_icmp_ge dX4_isKept_24 (tgt := 77) rfl (fun q3 => ?_) (fun q3 => ?_)
    · have q3 := Int32.not_lt.mpr q3
      have q3 := (not_congr (nI_ltI (by omega) (by omega))).mp q3
      exact kk0 k (((mall_end (p := fun k => decide (¬ (xk (S.1 r) k = xk (S.1 r) (k - 1) ∧ xt (S.1 r) k < xt (S.1 r) (k - 1)))) (by omega)).symm.trans hr9).symm)
    · have q3 := Int32.not_le.mp q3
      have q3 := (nI_ltI (by omega) (by omega)).mp q3
      refine mt_aload_n dX4_isKept_27 rfl rfl ?_
      refine mt_getfield mKX4 (i := 0) (by decide) mw_1053 dX4_isKept_28 C0 rfl ?_
      refine mt_iload_n dX4_isKept_31 rfl ?_
      refine mp_aaload dX4_isKept_32 G28_1 (fun _ => rfl) rfl rfl (by omega) (by omega) (v := .ref (kx r)) (by rw [GK_1 _ (by omega)]; rfl) ?_
      refine mt_iload_n dX4_isKept_33 rfl ?_
      refine mp_iaload dX4_isKept_34 ke_2 rfl (by omega) (by omega) (v := xk (S.1 r) k) (kg_2 _ (by omega)) ?_
      refine mt_aload_n dX4_isKept_35 rfl rfl ?_
      refine mt_getfield mKX4 (i := 0) (by decide) mw_1053 dX4_isKept_36 C0 rfl ?_
      refine mt_iload_n dX4_isKept_39 rfl ?_
      refine mp_aaload dX4_isKept_40 G28_1 (fun _ => rfl) rfl rfl (by omega) (by omega) (v := .ref (kx r)) (by rw [GK_1 _ (by omega)]; rfl) ?_
      refine mt_iload_n dX4_isKept_41 rfl ?_
      refine mt_iconst dX4_isKept_42 (v := nI 1) rfl ?_
      refine mp_isub dX4_isKept_43 (v := nI (k - 1)) (pk_sub (by omega)) ?_
      refine mp_iaload dX4_isKept_44 ke_2 rfl (by omega) (by omega) (v := xk (S.1 r) (k - 1)) (kg_2 _ (by omega)) ?_
      refine mt_icmp_ne dX4_isKept_45 (tgt := 71) rfl (fun q4 => ?_) (fun q4 => ?_)
      · refine mp_iinc dX4_isKept_71 rfl (v := nI (k + 1)) mI_inc (ls' := [.ref 27, .int (nI r), .int (nI (k + 1))]) rfl (by decide) rfl ?_
        refine mt_goto dX4_isKept_74 (tgt := 16) rfl ?_
        exact ih (k + 1) (by omega) ((mall_go (p := fun k => decide (¬ (xk (S.1 r) k = xk (S.1 r) (k - 1) ∧ xt (S.1 r) k < xt (S.1 r) (k - 1)))) (by omega) (by simp [q3, q4])).symm.trans hr9) (by omega) (by omega)
      · refine mt_aload_n dX4_isKept_48 rfl rfl ?_
        refine mt_getfield mKX4 (i := 1) (by decide) mw_1054 dX4_isKept_49 C0 rfl ?_
        refine mt_iload_n dX4_isKept_52 rfl ?_
        refine mp_aaload dX4_isKept_53 G33_1 (fun _ => rfl) rfl rfl (by omega) (by omega) (v := .ref (sx r)) (by rw [GS_1 _ (by omega)]; rfl) ?_
        refine mt_iload_n dX4_isKept_54 rfl ?_
        refine mt_iconst dX4_isKept_55 (v := nI 1) rfl ?_
        refine mp_isub dX4_isKept_56 (v := nI (k - 1)) (pk_sub (by omega)) ?_
        refine mp_iaload dX4_isKept_57 se_2 rfl (by omega) (by omega) (v := xt (S.1 r) (k - 1)) (sg_2 _ (by omega)) ?_
        refine mt_aload_n dX4_isKept_58 rfl rfl ?_
        refine mt_getfield mKX4 (i := 1) (by decide) mw_1054 dX4_isKept_59 C0 rfl ?_
        refine mt_iload_n dX4_isKept_62 rfl ?_
        refine mp_aaload dX4_isKept_63 G33_1 (fun _ => rfl) rfl rfl (by omega) (by omega) (v := .ref (sx r)) (by rw [GS_1 _ (by omega)]; rfl) ?_
        refine mt_iload_n dX4_isKept_64 rfl ?_
        refine mp_iaload dX4_isKept_65 se_2 rfl (by omega) (by omega) (v := xt (S.1 r) k) (sg_2 _ (by omega)) ?_
        refine mt_icmp_le dX4_isKept_66 (tgt := 71) rfl (fun q5 => ?_) (fun q5 => ?_)
        · have q5 := Int32.not_lt.mpr q5
          refine mp_iinc dX4_isKept_71 rfl (v := nI (k + 1)) mI_inc (ls' := [.ref 27, .int (nI r), .int (nI (k + 1))]) rfl (by decide) rfl ?_
          refine mt_goto dX4_isKept_74 (tgt := 16) rfl ?_
          exact ih (k + 1) (by omega) ((mall_go (p := fun k => decide (¬ (xk (S.1 r) k = xk (S.1 r) (k - 1) ∧ xt (S.1 r) k < xt (S.1 r) (k - 1)))) (by omega) (by simp [q3, q4, q5])).symm.trans hr9) (by omega) (by omega)
        · have q5 := Int32.not_le.mp q5
          exact kk1 k (((mall_no (p := fun k => decide (¬ (xk (S.1 r) k = xk (S.1 r) (k - 1) ∧ xt (S.1 r) k < xt (S.1 r) (k - 1)))) (by omega) (by simp [q3, q4, q5])).symm.trans hr9).symm)
def mp_isKept (S : cS) (row : Int32) : Nat × Value × cS := dAt S 4 row fun r => (0, .int (mb (mall (fun k => decide (¬ (xk (S.1 r) k = xk (S.1 r) (k - 1) ∧ xt (S.1 r) k < xt (S.1 r) (k - 1)))) ((S.1 r).length - 1) 1)), S)
set_option maxRecDepth 100000 in
set_option maxHeartbeats 2000000 in
theorem kX4_isKept {l : Launch} (hl : l.stackTraces = false) {h : mH} {n : Nat} {S : cS} {th : Int32} {row : Int32} (C : mAt h n S th) : mC l mX4_isKept rX4_isKept [.ref 27, .int row] h n (mOkq (mp_isKept S row) (.int (nI 0)) h n) (mNX) := by
  obtain ⟨C0, h39, kx, sx, HR⟩ := id C
  obtain ⟨⟨gk_1, G28_1, GK_1⟩, ⟨gs_1, G33_1, GS_1⟩, AK_1, AS_1, NE_1, NQ_1, LE_1⟩ := id HR
  refine mm_enter hl (by decide +kernel) rfl rfl rfl (Nat.le_of_ble_eq_true rfl) ?_
  show mT _ _ _ _ 0 [.ref 27, .int row, .double 0] [] _ _ 0 0
  rcases hq2 : inN 4 row with _ | r3
  · refine mt_aload_n dX4_isKept_0 rfl rfl ?_
    refine mt_iload_n dX4_isKept_1 rfl ?_
    refine mt_callS (N := mX4_isRow) (Rc := rX4_isRow) (As := [.int row]) (st := [.ref 27]) dX4_isKept_2 (kX4_isRow hl) sX4_isRow mw_1083 rfl (Nat.le_of_ble_eq_true rfl) ⟨⟨Nat.le_of_ble_eq_true rfl, Nat.le_of_ble_eq_true rfl⟩, Nat.le_of_ble_eq_true rfl, Nat.le_of_ble_eq_true rfl⟩ (fun v4 h5 n6 c7 => ?_) (fun _ _ _ hx => hx.elim)
    obtain ⟨c7a, c7b, c7c⟩ := c7
    rw [show (inN 4 row).isSome = false from by rw [hq2]; rfl] at c7a
    rw [c7a, c7b, c7c]
    show mT _ _ _ _ 5 [.ref 27, .int row, .double 0] [.int (nI 0), .ref 27] _ _ _ _
    refine mt_iconst dX4_isKept_5 (v := nI 1) rfl ?_
    refine mt_callV (N := mX4_isLet) (Rc := rX4_isLet) (As := [.int (nI 0), .int (nI 1)]) (st := []) dX4_isKept_6 (kX4_isLet (t := false) (f := true) hl C0) sX4_isLet mw_1092 mKX4 rfl C0 rfl (Nat.le_of_ble_eq_true rfl) ⟨⟨Nat.le_of_ble_eq_true rfl, Nat.le_of_ble_eq_true rfl⟩, Nat.le_of_ble_eq_true rfl, Nat.le_of_ble_eq_true rfl⟩ (fun v8 h9 n10 c11 => ?_) (fun _ _ _ hx => hx.elim)
    obtain ⟨c11a, c11b, c11c, c11d⟩ := c11
    rw [c11a, c11b]
    show mT _ _ _ _ 9 [.ref 27, .int row, .double 0] [.int (nI 0)] _ _ _ _
    refine mt_if_ne dX4_isKept_9 (tgt := 14) rfl (fun q12 => ?_) (fun q12 => ?_)
    · have q12 := (not_congr (mI_eq0 (by omega))).mp q12
      exact absurd q12 (by decide)
    · have q12 := (mI_eq0 (by omega)).mp q12
      refine mt_iconst dX4_isKept_12 (v := nI 0) rfl ?_
      refine mt_ireturn dX4_isKept_13 rfl rfl (Nat.le_of_ble_eq_true rfl) (Nat.le_of_ble_eq_true rfl) ?_
      exact mOkq.no (k := 1) (S' := S) (by simp only [mp_isKept, dAt_n (k := 4) (x := row) hq2, if_pos q12]) (by decide) rfl (by omega) c11c (by omega) (mRows.fr (n' := n) HR (by omega) (fun j j1 j2 j3 => c11d (j) (by omega)) (by omega)) (fun j hj => c11d j (by omega))
  · obtain ⟨hr3, rfl⟩ := inN_of hq2 (by first | decide | omega)
    obtain ⟨⟨ka_13, kb_13, kc_13, kd_13⟩, kf_13, ke_13, kg_13⟩ := AK_1 r3 hr3
    obtain ⟨⟨sa_13, sb_13, sc_13, sd_13⟩, sf_13, se_13, sg_13⟩ := AS_1 r3 hr3
    have kn_13 := NE_1 r3 r3 hr3 hr3
    have kl_13 := LE_1 r3 hr3
    have km_13 := rroom_le (r := r3)
    refine mt_aload_n dX4_isKept_0 rfl rfl ?_
    refine mt_iload_n dX4_isKept_1 rfl ?_
    refine mt_callS (N := mX4_isRow) (Rc := rX4_isRow) (As := [.int (nI r3)]) (st := [.ref 27]) dX4_isKept_2 (kX4_isRow hl) sX4_isRow mw_1083 rfl (Nat.le_of_ble_eq_true rfl) ⟨⟨Nat.le_of_ble_eq_true rfl, Nat.le_of_ble_eq_true rfl⟩, Nat.le_of_ble_eq_true rfl, Nat.le_of_ble_eq_true rfl⟩ (fun v14 h15 n16 c17 => ?_) (fun _ _ _ hx => hx.elim)
    obtain ⟨c17a, c17b, c17c⟩ := c17
    rw [show (inN 4 (nI r3)).isSome = true from by rw [inN_some hr3 (by decide)]; rfl] at c17a
    rw [c17a, c17b, c17c]
    show mT _ _ _ _ 5 [.ref 27, .int (nI r3), .double 0] [.int (nI 1), .ref 27] _ _ _ _
    refine mt_iconst dX4_isKept_5 (v := nI 1) rfl ?_
    refine mt_callV (N := mX4_isLet) (Rc := rX4_isLet) (As := [.int (nI 1), .int (nI 1)]) (st := []) dX4_isKept_6 (kX4_isLet (t := true) (f := true) hl C0) sX4_isLet mw_1092 mKX4 rfl C0 rfl (Nat.le_of_ble_eq_true rfl) ⟨⟨Nat.le_of_ble_eq_true rfl, Nat.le_of_ble_eq_true rfl⟩, Nat.le_of_ble_eq_true rfl, Nat.le_of_ble_eq_true rfl⟩ (fun v18 h19 n20 c21 => ?_) (fun _ _ _ hx => hx.elim)
    obtain ⟨c21a, c21b, c21c, c21d⟩ := c21
    rw [c21a, c21b]
    show mT _ _ _ _ 9 [.ref 27, .int (nI r3), .double 0] [.int (nI 1)] _ _ _ _
    refine mt_if_ne dX4_isKept_9 (tgt := 14) rfl (fun q22 => ?_) (fun q22 => ?_)
    · have q22 := (not_congr (mI_eq0 (by omega))).mp q22
      refine mt_iconst dX4_isKept_14 (v := nI 1) rfl ?_
      refine mp_istore_n dX4_isKept_15 (ls' := [.ref 27, .int (nI r3), .int (nI 1)]) rfl (by decide) rfl ?_
      refine tX4_isKept_16 c21c (mRows.fr (n' := n) HR (by omega) (fun j j1 j2 j3 => c21d (j) (by omega)) (by omega)) (by omega) hr3 (fun k_23 z24 => ?_) (fun k_25 z26 => ?_) _ 1 (Nat.lt_succ_self _) rfl (by decide) (by omega)
      · refine mt_iconst dX4_isKept_77 (v := nI 1) rfl ?_
        refine mt_ireturn dX4_isKept_78 rfl rfl (Nat.le_of_ble_eq_true rfl) (Nat.le_of_ble_eq_true rfl) ?_
        exact mOkq.of (x := .int (nI 1)) (S' := ((S).1, S.2.1, S.2.2.1, S.2.2.2.1, S.2.2.2.2)) (by simp only [mp_isKept, dAt_s (k := 4) hr3 (by first | decide | omega), if_neg q22]; exact congrArg (fun x => ((0 : Nat), Value.int (mb x), S)) z24) rfl (by omega) c21c (by omega) (mRows.fr (n' := n) HR (by omega) (fun j j1 j2 j3 => c21d (j) (by omega)) (by omega)) (fun j hj => c21d j (by omega))
      · refine mt_iconst dX4_isKept_69 (v := nI 0) rfl ?_
        refine mt_ireturn dX4_isKept_70 rfl rfl (Nat.le_of_ble_eq_true rfl) (Nat.le_of_ble_eq_true rfl) ?_
        exact mOkq.of (x := .int (nI 0)) (S' := ((S).1, S.2.1, S.2.2.1, S.2.2.2.1, S.2.2.2.2)) (by simp only [mp_isKept, dAt_s (k := 4) hr3 (by first | decide | omega), if_neg q22]; exact congrArg (fun x => ((0 : Nat), Value.int (mb x), S)) z26) rfl (by omega) c21c (by omega) (mRows.fr (n' := n) HR (by omega) (fun j j1 j2 j3 => c21d (j) (by omega)) (by omega)) (fun j hj => c21d j (by omega))
    · have q22 := (mI_eq0 (by omega)).mp q22
      exact absurd q22 (by decide)
def mp_wrong (S : cS) (row : Int32) (how : Int32) : Nat × Value × cS := dAt S 4 row fun r => dArg S 2 how fun _ => (0, .int (mq_pairs (S.1 r) (nI 1)), S)
abbrev rX4_wrong : Room := { frames := 2, cells := 0, slots := 0, locals := 46 }
set_option maxRecDepth 100000 in
set_option maxHeartbeats 2000000 in
theorem kX4_wrong {l : Launch} (hl : l.stackTraces = false) {h : mH} {n : Nat} {S : cS} {th : Int32} {row : Int32} {how : Int32} (C : mAt h n S th) : mC l mX4_wrong rX4_wrong [.ref 27, .int row, .int how] h n (mOkq (mp_wrong S row how) (.int (nI 0)) h n) (mNX) := by
  obtain ⟨C0, h39, kx, sx, HR⟩ := id C
  obtain ⟨⟨gk_1, G28_1, GK_1⟩, ⟨gs_1, G33_1, GS_1⟩, AK_1, AS_1, NE_1, NQ_1, LE_1⟩ := id HR
  refine mm_enter hl (by decide +kernel) rfl rfl rfl (Nat.le_of_ble_eq_true rfl) ?_
  show mT _ _ _ _ 0 [.ref 27, .int row, .int how] [] _ _ 0 0
  rcases hq2 : inN 4 row with _ | r3
  · refine mt_aload_n dX4_wrong_0 rfl rfl ?_
    refine mt_iload_n dX4_wrong_1 rfl ?_
    refine mt_callS (N := mX4_isRow) (Rc := rX4_isRow) (As := [.int row]) (st := [.ref 27]) dX4_wrong_2 (kX4_isRow hl) sX4_isRow mw_1083 rfl (Nat.le_of_ble_eq_true rfl) ⟨⟨Nat.le_of_ble_eq_true rfl, Nat.le_of_ble_eq_true rfl⟩, Nat.le_of_ble_eq_true rfl, Nat.le_of_ble_eq_true rfl⟩ (fun v4 h5 n6 c7 => ?_) (fun _ _ _ hx => hx.elim)
    obtain ⟨c7a, c7b, c7c⟩ := c7
    rw [show (inN 4 row).isSome = false from by rw [hq2]; rfl] at c7a
    rw [c7a, c7b, c7c]
    show mT _ _ _ _ 5 [.ref 27, .int row, .int how] [.int (nI 0), .ref 27] _ _ _ _
    refine mt_iload_n dX4_wrong_5 rfl ?_
    refine mt_iconst dX4_wrong_6 (v := nI 0) rfl ?_
    refine mt_iconst dX4_wrong_7 (v := nI 1) rfl ?_
    refine mt_callS (N := mX4_isIn) (Rc := rX4_isIn) (As := [.int how, .int (nI 0), .int (nI 1)]) (st := [.int (nI 0), .ref 27]) dX4_wrong_8 (kX4_isIn hl) sX4_isIn mw_1086 rfl (Nat.le_of_ble_eq_true rfl) ⟨⟨Nat.le_of_ble_eq_true rfl, Nat.le_of_ble_eq_true rfl⟩, Nat.le_of_ble_eq_true rfl, Nat.le_of_ble_eq_true rfl⟩ (fun v8 h9 n10 c11 => ?_) (fun _ _ _ hx => hx.elim)
    obtain ⟨c11a, c11b, c11c⟩ := c11
    rw [c11a, c11b, c11c]
    show mT _ _ _ _ 11 [.ref 27, .int row, .int how] [.int (mb (inR how (nI 0) (nI 1))), .int (nI 0), .ref 27] _ _ _ _
    refine mt_callV (N := mX4_isLet) (Rc := rX4_isLet) (As := [.int (nI 0), .int (mb (inR how (nI 0) (nI 1)))]) (st := []) dX4_wrong_11 (kX4_isLet (t := false) (f := inR how (nI 0) (nI 1)) hl C0) sX4_isLet mw_1092 mKX4 rfl C0 rfl (Nat.le_of_ble_eq_true rfl) ⟨⟨Nat.le_of_ble_eq_true rfl, Nat.le_of_ble_eq_true rfl⟩, Nat.le_of_ble_eq_true rfl, Nat.le_of_ble_eq_true rfl⟩ (fun v12 h13 n14 c15 => ?_) (fun _ _ _ hx => hx.elim)
    obtain ⟨c15a, c15b, c15c, c15d⟩ := c15
    rw [c15a, c15b]
    show mT _ _ _ _ 14 [.ref 27, .int row, .int how] [.int (nI 0)] _ _ _ _
    refine mt_if_eq dX4_wrong_14 (tgt := 26) rfl (fun q16 => ?_) (fun q16 => ?_)
    · have q16 := (mI_eq0 (by omega)).mp q16
      refine mt_iconst dX4_wrong_26 (v := nI 0) rfl ?_
      refine mt_ireturn dX4_wrong_27 rfl rfl (Nat.le_of_ble_eq_true rfl) (Nat.le_of_ble_eq_true rfl) ?_
      exact mOkq.no (k := 1) (S' := S) (by simp only [mp_wrong, dAt_n (k := 4) (x := row) hq2, if_pos q16]) (by decide) rfl (by omega) c15c (by omega) (mRows.fr (n' := n) HR (by omega) (fun j j1 j2 j3 => c15d (j) (by omega)) (by omega)) (fun j hj => c15d j (by omega))
    · have q16 := (not_congr (mI_eq0 (by omega))).mp q16
      exact absurd q16 (by decide)
  · obtain ⟨hr3, rfl⟩ := inN_of hq2 (by first | decide | omega)
    obtain ⟨⟨ka_17, kb_17, kc_17, kd_17⟩, kf_17, ke_17, kg_17⟩ := AK_1 r3 hr3
    obtain ⟨⟨sa_17, sb_17, sc_17, sd_17⟩, sf_17, se_17, sg_17⟩ := AS_1 r3 hr3
    have kn_17 := NE_1 r3 r3 hr3 hr3
    have kl_17 := LE_1 r3 hr3
    have km_17 := rroom_le (r := r3)
    rcases hq18 : inN 2 how with _ | p19
    · refine mt_aload_n dX4_wrong_0 rfl rfl ?_
      refine mt_iload_n dX4_wrong_1 rfl ?_
      refine mt_callS (N := mX4_isRow) (Rc := rX4_isRow) (As := [.int (nI r3)]) (st := [.ref 27]) dX4_wrong_2 (kX4_isRow hl) sX4_isRow mw_1083 rfl (Nat.le_of_ble_eq_true rfl) ⟨⟨Nat.le_of_ble_eq_true rfl, Nat.le_of_ble_eq_true rfl⟩, Nat.le_of_ble_eq_true rfl, Nat.le_of_ble_eq_true rfl⟩ (fun v20 h21 n22 c23 => ?_) (fun _ _ _ hx => hx.elim)
      obtain ⟨c23a, c23b, c23c⟩ := c23
      rw [show (inN 4 (nI r3)).isSome = true from by rw [inN_some hr3 (by decide)]; rfl] at c23a
      rw [c23a, c23b, c23c]
      show mT _ _ _ _ 5 [.ref 27, .int (nI r3), .int how] [.int (nI 1), .ref 27] _ _ _ _
      refine mt_iload_n dX4_wrong_5 rfl ?_
      refine mt_iconst dX4_wrong_6 (v := nI 0) rfl ?_
      refine mt_iconst dX4_wrong_7 (v := nI 1) rfl ?_
      refine mt_callS (N := mX4_isIn) (Rc := rX4_isIn) (As := [.int how, .int (nI 0), .int (nI 1)]) (st := [.int (nI 1), .ref 27]) dX4_wrong_8 (kX4_isIn hl) sX4_isIn mw_1086 rfl (Nat.le_of_ble_eq_true rfl) ⟨⟨Nat.le_of_ble_eq_true rfl, Nat.le_of_ble_eq_true rfl⟩, Nat.le_of_ble_eq_true rfl, Nat.le_of_ble_eq_true rfl⟩ (fun v24 h25 n26 c27 => ?_) (fun _ _ _ hx => hx.elim)
      obtain ⟨c27a, c27b, c27c⟩ := c27
      rw [show inR how (nI 0) (nI 1) = false from inR_f (k := 1) hq18 (by first | decide | omega)] at c27a
      rw [c27a, c27b, c27c]
      show mT _ _ _ _ 11 [.ref 27, .int (nI r3), .int how] [.int (nI 0), .int (nI 1), .ref 27] _ _ _ _
      refine mt_callV (N := mX4_isLet) (Rc := rX4_isLet) (As := [.int (nI 1), .int (nI 0)]) (st := []) dX4_wrong_11 (kX4_isLet (t := true) (f := false) hl C0) sX4_isLet mw_1092 mKX4 rfl C0 rfl (Nat.le_of_ble_eq_true rfl) ⟨⟨Nat.le_of_ble_eq_true rfl, Nat.le_of_ble_eq_true rfl⟩, Nat.le_of_ble_eq_true rfl, Nat.le_of_ble_eq_true rfl⟩ (fun v28 h29 n30 c31 => ?_) (fun _ _ _ hx => hx.elim)
      obtain ⟨c31a, c31b, c31c, c31d⟩ := c31
      rw [c31a, c31b]
      show mT _ _ _ _ 14 [.ref 27, .int (nI r3), .int how] [.int (nI 0)] _ _ _ _
      refine mt_if_eq dX4_wrong_14 (tgt := 26) rfl (fun q32 => ?_) (fun q32 => ?_)
      · have q32 := (mI_eq0 (by omega)).mp q32
        refine mt_iconst dX4_wrong_26 (v := nI 0) rfl ?_
        refine mt_ireturn dX4_wrong_27 rfl rfl (Nat.le_of_ble_eq_true rfl) (Nat.le_of_ble_eq_true rfl) ?_
        exact mOkq.no (k := 2) (S' := S) (by simp only [mp_wrong, dAt_s (k := 4) hr3 (by first | decide | omega), dArg_n (k := 2) (x := how) hq18, if_pos q32]) (by decide) rfl (by omega) c31c (by omega) (mRows.fr (n' := n) HR (by omega) (fun j j1 j2 j3 => c31d (j) (by omega)) (by omega)) (fun j hj => c31d j (by omega))
      · have q32 := (not_congr (mI_eq0 (by omega))).mp q32
        exact absurd q32 (by decide)
    · obtain ⟨hp19, rfl⟩ := inN_of hq18 (by first | decide | omega)
      refine mt_aload_n dX4_wrong_0 rfl rfl ?_
      refine mt_iload_n dX4_wrong_1 rfl ?_
      refine mt_callS (N := mX4_isRow) (Rc := rX4_isRow) (As := [.int (nI r3)]) (st := [.ref 27]) dX4_wrong_2 (kX4_isRow hl) sX4_isRow mw_1083 rfl (Nat.le_of_ble_eq_true rfl) ⟨⟨Nat.le_of_ble_eq_true rfl, Nat.le_of_ble_eq_true rfl⟩, Nat.le_of_ble_eq_true rfl, Nat.le_of_ble_eq_true rfl⟩ (fun v33 h34 n35 c36 => ?_) (fun _ _ _ hx => hx.elim)
      obtain ⟨c36a, c36b, c36c⟩ := c36
      rw [show (inN 4 (nI r3)).isSome = true from by rw [inN_some hr3 (by decide)]; rfl] at c36a
      rw [c36a, c36b, c36c]
      show mT _ _ _ _ 5 [.ref 27, .int (nI r3), .int (nI p19)] [.int (nI 1), .ref 27] _ _ _ _
      refine mt_iload_n dX4_wrong_5 rfl ?_
      refine mt_iconst dX4_wrong_6 (v := nI 0) rfl ?_
      refine mt_iconst dX4_wrong_7 (v := nI 1) rfl ?_
      refine mt_callS (N := mX4_isIn) (Rc := rX4_isIn) (As := [.int (nI p19), .int (nI 0), .int (nI 1)]) (st := [.int (nI 1), .ref 27]) dX4_wrong_8 (kX4_isIn hl) sX4_isIn mw_1086 rfl (Nat.le_of_ble_eq_true rfl) ⟨⟨Nat.le_of_ble_eq_true rfl, Nat.le_of_ble_eq_true rfl⟩, Nat.le_of_ble_eq_true rfl, Nat.le_of_ble_eq_true rfl⟩ (fun v37 h38 n39 c40 => ?_) (fun _ _ _ hx => hx.elim)
      obtain ⟨c40a, c40b, c40c⟩ := c40
      rw [show inR (nI p19) (nI 0) (nI 1) = true from inR_t (k := 1) hp19 (by first | decide | omega)] at c40a
      rw [c40a, c40b, c40c]
      show mT _ _ _ _ 11 [.ref 27, .int (nI r3), .int (nI p19)] [.int (nI 1), .int (nI 1), .ref 27] _ _ _ _
      refine mt_callV (N := mX4_isLet) (Rc := rX4_isLet) (As := [.int (nI 1), .int (nI 1)]) (st := []) dX4_wrong_11 (kX4_isLet (t := true) (f := true) hl C0) sX4_isLet mw_1092 mKX4 rfl C0 rfl (Nat.le_of_ble_eq_true rfl) ⟨⟨Nat.le_of_ble_eq_true rfl, Nat.le_of_ble_eq_true rfl⟩, Nat.le_of_ble_eq_true rfl, Nat.le_of_ble_eq_true rfl⟩ (fun v41 h42 n43 c44 => ?_) (fun _ _ _ hx => hx.elim)
      obtain ⟨c44a, c44b, c44c, c44d⟩ := c44
      rw [c44a, c44b]
      show mT _ _ _ _ 14 [.ref 27, .int (nI r3), .int (nI p19)] [.int (nI 1)] _ _ _ _
      refine mt_if_eq dX4_wrong_14 (tgt := 26) rfl (fun q45 => ?_) (fun q45 => ?_)
      · have q45 := (mI_eq0 (by omega)).mp q45
        exact absurd q45 (by decide)
      · have q45 := (not_congr (mI_eq0 (by omega))).mp q45
        refine mt_aload_n dX4_wrong_17 rfl rfl ?_
        refine mt_iload_n dX4_wrong_18 rfl ?_
        refine mt_iconst dX4_wrong_19 (v := nI 1) rfl ?_
        refine mt_callV (N := mX4_pairs) (Rc := rX4_pairs) (As := [.int (nI r3), .int (nI 1)]) (st := []) dX4_wrong_20 (kX4_pairs hl c44c (mRows.fr (n' := n) HR (by omega) (fun j j1 j2 j3 => c44d (j) (by omega)) (by omega)) (by omega)) sX4_pairs mw_1146 mKX4 rfl c44c rfl (Nat.le_of_ble_eq_true rfl) ⟨⟨Nat.le_of_ble_eq_true rfl, Nat.le_of_ble_eq_true rfl⟩, Nat.le_of_ble_eq_true rfl, Nat.le_of_ble_eq_true rfl⟩ (fun v46 h47 n48 c49 => ?_) (fun _ _ _ hx => hx.elim)
        obtain ⟨c49a, c49b, c49c⟩ := c49
        rw [c49a, c49b, c49c]
        show mT _ _ _ _ 23 [.ref 27, .int (nI r3), .int (nI p19)] [.int (mq_pairs (S.1 r3) (nI 1))] _ _ _ _
        refine mt_goto dX4_wrong_23 (tgt := 27) rfl ?_
        refine mt_ireturn dX4_wrong_27 rfl rfl (Nat.le_of_ble_eq_true rfl) (Nat.le_of_ble_eq_true rfl) ?_
        exact mOkq.of (x := .int (mq_pairs (S.1 r3) (nI 1))) (S' := ((S).1, S.2.1, S.2.2.1, S.2.2.2.1, S.2.2.2.2)) (by simp only [mp_wrong, dAt_s (k := 4) hr3 (by first | decide | omega), dArg_s (k := 2) hp19 (by first | decide | omega), if_neg q45] <;> first | rfl | simp_all) rfl (by omega) c44c (by omega) (mRows.fr (n' := n) HR (by omega) (fun j j1 j2 j3 => c44d (j) (by omega)) (by omega)) (fun j hj => c44d j (by omega))
abbrev rX4_runs : Room := { frames := 2, cells := 0, slots := 0, locals := 42 }
set_option maxRecDepth 100000 in
set_option maxHeartbeats 2000000 in
theorem tX4_runs_18 {l : Launch} {K : mK} {h : mH} {n : Nat} {S : cS} {kx sx : Nat → Nat} {g ac rf kn th : Int32} {r : Nat} {r9 : Int32} (hl : l.stackTraces = false) (C0 : h 27 = .inr (.inr (6, [.ref 28, .ref 33, .int g, .int ac, .int rf, .int kn, .int th]))) (HR : mRows h n S kx sx) (h39 : 39 ≤ n) (hr : r < 4) (kk0 : ∀ (acc : Int32) (k : Nat), (acc = r9) → mT l mX4_runs rX4_runs K 44 [.ref 27, .int (nI r), .int acc, .int (nI k)] [] h n 0 0) : ∀ (N0 : Nat) (k : Nat) (acc : Int32), ((S.1 r).length - k) < N0 → (∃ d, (S.1 r).length ≤ k + d ∧ mruns (S.1 r) d k acc = r9) → (k ≤ (S.1 r).length) → mT l mX4_runs rX4_runs K 18 [.ref 27, .int (nI r), .int acc, .int (nI k)] [] h n 0 0 := by
  intro N0
  induction N0 with
  | zero => intro k acc hm; exact absurd hm (Nat.not_lt_zero _)
  | succ N0 ih =>
    intro k acc hm hr9 hk
    obtain ⟨⟨gk_1, G28_1, GK_1⟩, ⟨gs_1, G33_1, GS_1⟩, AK_1, AS_1, NE_1, NQ_1, LE_1⟩ := id HR
    obtain ⟨⟨ka_2, kb_2, kc_2, kd_2⟩, kf_2, ke_2, kg_2⟩ := AK_1 r hr
    obtain ⟨⟨sa_2, sb_2, sc_2, sd_2⟩, sf_2, se_2, sg_2⟩ := AS_1 r hr
    have kn_2 := NE_1 r r hr hr
    have kl_2 := LE_1 r hr
    have km_2 := rroom_le (r := r)
    refine mt_iload_n dX4_runs_18 rfl ?_
    refine mt_aload_n dX4_runs_19 rfl rfl ?_
    refine mt_getfield mKX4 (i := 0) (by decide) mw_1053 dX4_runs_20 C0 rfl ?_
    refine mt_iload_n dX4_runs_23 rfl ?_
    refine mp_aaload dX4_runs_24 G28_1 (fun _ => rfl) rfl rfl (by omega) (by omega) (v := .ref (kx r)) (by rw [GK_1 _ (by omega)]; rfl) ?_
    refine mt_alen dX4_runs_25 ke_2 (by decide) ?_
    refine mt_icmp_ge dX4_runs_26 (tgt := 44) rfl (fun q3 => ?_) (fun q3 => ?_)
    · have q3 := Int32.not_lt.mpr q3
      have q3 := (not_congr (nI_ltI (by omega) (by omega))).mp q3
      exact kk0 acc k (mruns_end (by omega) hr9)
    · have q3 := Int32.not_le.mp q3
      have q3 := (nI_ltI (by omega) (by omega)).mp q3
      have eb := endOfRun_le (xs := (S.1 r)) (k := k) (by omega)
      refine mp_iinc dX4_runs_29 rfl (v := acc + 1) rfl (ls' := [.ref 27, .int (nI r), .int (acc + 1), .int (nI k)]) rfl (by decide) rfl ?_
      refine mt_iload_n dX4_runs_32 rfl ?_
      refine mt_aload_n dX4_runs_33 rfl rfl ?_
      refine mt_iload_n dX4_runs_34 rfl ?_
      refine mt_iload_n dX4_runs_35 rfl ?_
      refine mt_callV (N := mX4_behind) (Rc := rX4_behind) (As := [.int (nI r), .int (nI k)]) (st := [.int (nI k)]) dX4_runs_36 (kX4_behind hl C0 HR (by omega) (by omega)) sX4_behind mw_1247 mKX4 rfl C0 rfl (Nat.le_of_ble_eq_true rfl) ⟨⟨Nat.le_of_ble_eq_true rfl, Nat.le_of_ble_eq_true rfl⟩, Nat.le_of_ble_eq_true rfl, Nat.le_of_ble_eq_true rfl⟩ (fun v4 h5 n6 c7 => ?_) (fun _ _ _ hx => hx.elim)
      obtain ⟨c7a, c7b, c7c⟩ := c7
      rw [c7a, c7b, c7c]
      show mT _ _ _ _ 39 [.ref 27, .int (nI r), .int (acc + 1), .int (nI k)] [.int (nI (q_endOfRun (S.1 r) k - k)), .int (nI k)] _ _ _ _
      refine mp_iadd dX4_runs_39 (v := nI (k + (q_endOfRun (S.1 r) k - k))) (nI_add _ _) ?_
      refine mp_istore_n dX4_runs_40 (ls' := [.ref 27, .int (nI r), .int (acc + 1), .int (nI (k + (q_endOfRun (S.1 r) k - k)))]) rfl (by decide) rfl ?_
      refine mt_goto dX4_runs_41 (tgt := 18) rfl ?_
      exact ih (k + (q_endOfRun (S.1 r) k - k)) (acc + 1) (by omega) (mruns_go (by omega) hr9) (by omega)
def mp_runs (S : cS) (row : Int32) : Nat × Value × cS := dAt S 4 row fun r => (0, .int (mruns (S.1 r) (S.1 r).length 0 (nI 0)), S)
set_option maxRecDepth 100000 in
set_option maxHeartbeats 2000000 in
theorem kX4_runs {l : Launch} (hl : l.stackTraces = false) {h : mH} {n : Nat} {S : cS} {th : Int32} {row : Int32} (C : mAt h n S th) : mC l mX4_runs rX4_runs [.ref 27, .int row] h n (mOkq (mp_runs S row) (.int (nI 0)) h n) (mNX) := by
  obtain ⟨C0, h39, kx, sx, HR⟩ := id C
  obtain ⟨⟨gk_1, G28_1, GK_1⟩, ⟨gs_1, G33_1, GS_1⟩, AK_1, AS_1, NE_1, NQ_1, LE_1⟩ := id HR
  refine mm_enter hl (by decide +kernel) rfl rfl rfl (Nat.le_of_ble_eq_true rfl) ?_
  show mT _ _ _ _ 0 [.ref 27, .int row, .double 0, .double 0] [] _ _ 0 0
  rcases hq2 : inN 4 row with _ | r3
  · refine mt_aload_n dX4_runs_0 rfl rfl ?_
    refine mt_iload_n dX4_runs_1 rfl ?_
    refine mt_callS (N := mX4_isRow) (Rc := rX4_isRow) (As := [.int row]) (st := [.ref 27]) dX4_runs_2 (kX4_isRow hl) sX4_isRow mw_1083 rfl (Nat.le_of_ble_eq_true rfl) ⟨⟨Nat.le_of_ble_eq_true rfl, Nat.le_of_ble_eq_true rfl⟩, Nat.le_of_ble_eq_true rfl, Nat.le_of_ble_eq_true rfl⟩ (fun v4 h5 n6 c7 => ?_) (fun _ _ _ hx => hx.elim)
    obtain ⟨c7a, c7b, c7c⟩ := c7
    rw [show (inN 4 row).isSome = false from by rw [hq2]; rfl] at c7a
    rw [c7a, c7b, c7c]
    show mT _ _ _ _ 5 [.ref 27, .int row, .double 0, .double 0] [.int (nI 0), .ref 27] _ _ _ _
    refine mt_iconst dX4_runs_5 (v := nI 1) rfl ?_
    refine mt_callV (N := mX4_isLet) (Rc := rX4_isLet) (As := [.int (nI 0), .int (nI 1)]) (st := []) dX4_runs_6 (kX4_isLet (t := false) (f := true) hl C0) sX4_isLet mw_1092 mKX4 rfl C0 rfl (Nat.le_of_ble_eq_true rfl) ⟨⟨Nat.le_of_ble_eq_true rfl, Nat.le_of_ble_eq_true rfl⟩, Nat.le_of_ble_eq_true rfl, Nat.le_of_ble_eq_true rfl⟩ (fun v8 h9 n10 c11 => ?_) (fun _ _ _ hx => hx.elim)
    obtain ⟨c11a, c11b, c11c, c11d⟩ := c11
    rw [c11a, c11b]
    show mT _ _ _ _ 9 [.ref 27, .int row, .double 0, .double 0] [.int (nI 0)] _ _ _ _
    refine mt_if_ne dX4_runs_9 (tgt := 14) rfl (fun q12 => ?_) (fun q12 => ?_)
    · have q12 := (not_congr (mI_eq0 (by omega))).mp q12
      exact absurd q12 (by decide)
    · have q12 := (mI_eq0 (by omega)).mp q12
      refine mt_iconst dX4_runs_12 (v := nI 0) rfl ?_
      refine mt_ireturn dX4_runs_13 rfl rfl (Nat.le_of_ble_eq_true rfl) (Nat.le_of_ble_eq_true rfl) ?_
      exact mOkq.no (k := 1) (S' := S) (by simp only [mp_runs, dAt_n (k := 4) (x := row) hq2, if_pos q12]) (by decide) rfl (by omega) c11c (by omega) (mRows.fr (n' := n) HR (by omega) (fun j j1 j2 j3 => c11d (j) (by omega)) (by omega)) (fun j hj => c11d j (by omega))
  · obtain ⟨hr3, rfl⟩ := inN_of hq2 (by first | decide | omega)
    obtain ⟨⟨ka_13, kb_13, kc_13, kd_13⟩, kf_13, ke_13, kg_13⟩ := AK_1 r3 hr3
    obtain ⟨⟨sa_13, sb_13, sc_13, sd_13⟩, sf_13, se_13, sg_13⟩ := AS_1 r3 hr3
    have kn_13 := NE_1 r3 r3 hr3 hr3
    have kl_13 := LE_1 r3 hr3
    have km_13 := rroom_le (r := r3)
    refine mt_aload_n dX4_runs_0 rfl rfl ?_
    refine mt_iload_n dX4_runs_1 rfl ?_
    refine mt_callS (N := mX4_isRow) (Rc := rX4_isRow) (As := [.int (nI r3)]) (st := [.ref 27]) dX4_runs_2 (kX4_isRow hl) sX4_isRow mw_1083 rfl (Nat.le_of_ble_eq_true rfl) ⟨⟨Nat.le_of_ble_eq_true rfl, Nat.le_of_ble_eq_true rfl⟩, Nat.le_of_ble_eq_true rfl, Nat.le_of_ble_eq_true rfl⟩ (fun v14 h15 n16 c17 => ?_) (fun _ _ _ hx => hx.elim)
    obtain ⟨c17a, c17b, c17c⟩ := c17
    rw [show (inN 4 (nI r3)).isSome = true from by rw [inN_some hr3 (by decide)]; rfl] at c17a
    rw [c17a, c17b, c17c]
    show mT _ _ _ _ 5 [.ref 27, .int (nI r3), .double 0, .double 0] [.int (nI 1), .ref 27] _ _ _ _
    refine mt_iconst dX4_runs_5 (v := nI 1) rfl ?_
    refine mt_callV (N := mX4_isLet) (Rc := rX4_isLet) (As := [.int (nI 1), .int (nI 1)]) (st := []) dX4_runs_6 (kX4_isLet (t := true) (f := true) hl C0) sX4_isLet mw_1092 mKX4 rfl C0 rfl (Nat.le_of_ble_eq_true rfl) ⟨⟨Nat.le_of_ble_eq_true rfl, Nat.le_of_ble_eq_true rfl⟩, Nat.le_of_ble_eq_true rfl, Nat.le_of_ble_eq_true rfl⟩ (fun v18 h19 n20 c21 => ?_) (fun _ _ _ hx => hx.elim)
    obtain ⟨c21a, c21b, c21c, c21d⟩ := c21
    rw [c21a, c21b]
    show mT _ _ _ _ 9 [.ref 27, .int (nI r3), .double 0, .double 0] [.int (nI 1)] _ _ _ _
    refine mt_if_ne dX4_runs_9 (tgt := 14) rfl (fun q22 => ?_) (fun q22 => ?_)
    · have q22 := (not_congr (mI_eq0 (by omega))).mp q22
      refine mt_iconst dX4_runs_14 (v := nI 0) rfl ?_
      refine mp_istore_n dX4_runs_15 (ls' := [.ref 27, .int (nI r3), .int (nI 0), .double 0]) rfl (by decide) rfl ?_
      refine mt_iconst dX4_runs_16 (v := nI 0) rfl ?_
      refine mp_istore_n dX4_runs_17 (ls' := [.ref 27, .int (nI r3), .int (nI 0), .int (nI 0)]) rfl (by decide) rfl ?_
      refine tX4_runs_18 hl c21c (mRows.fr (n' := n) HR (by omega) (fun j j1 j2 j3 => c21d (j) (by omega)) (by omega)) (by omega) hr3 (fun acc_23 k_24 z25 => ?_) _ 0 (nI 0) (Nat.lt_succ_self _) (⟨_, Nat.le_add_left _ _, rfl⟩) (by omega)
      refine mt_iload_n dX4_runs_44 rfl ?_
      refine mt_ireturn dX4_runs_45 rfl rfl (Nat.le_of_ble_eq_true rfl) (Nat.le_of_ble_eq_true rfl) ?_
      exact mOkq.of (x := .int acc_23) (S' := ((S).1, S.2.1, S.2.2.1, S.2.2.2.1, S.2.2.2.2)) (by simp only [mp_runs, dAt_s (k := 4) hr3 (by first | decide | omega), if_neg q22]; exact congrArg (fun x => ((0 : Nat), Value.int (x), S)) z25.symm) rfl (by omega) c21c (by omega) (mRows.fr (n' := n) HR (by omega) (fun j j1 j2 j3 => c21d (j) (by omega)) (by omega)) (fun j hj => c21d j (by omega))
    · have q22 := (mI_eq0 (by omega)).mp q22
      exact absurd q22 (by decide)
abbrev rX4_longest : Room := { frames := 2, cells := 0, slots := 0, locals := 42 }
set_option maxRecDepth 100000 in
set_option maxHeartbeats 2000000 in
theorem tX4_longest_18 {l : Launch} {K : mK} {h : mH} {n : Nat} {S : cS} {kx sx : Nat → Nat} {g ac rf kn th : Int32} {r : Nat} {r9 : Nat}  (hl : l.stackTraces = false) (C0 : h 27 = .inr (.inr (6, [.ref 28, .ref 33, .int g, .int ac, .int rf, .int kn, .int th]))) (HR : mRows h n S kx sx) (h39 : 39 ≤ n) (hr : r < 4) (kk0 : ∀ (acc : Nat) (k : Nat), (acc = r9) → mT l mX4_longest rX4_longest K 46 [.ref 27, .int (nI r), .int (nI acc), .int (nI k)] [] h n 0 0) : ∀ (N0 : Nat) (k : Nat) (acc : Nat), ((S.1 r).length - k) < N0 → (mlp (lgS (S.1 r)) ((S.1 r).length - k) k acc = r9) → (acc ≤ 320) → (k ≤ (S.1 r).length) → mT l mX4_longest rX4_longest K 18 [.ref 27, .int (nI r), .int (nI acc), .int (nI k)] [] h n 0 0 := by
  intro N0
  induction N0 with
  | zero => intro k acc hm; exact absurd hm (Nat.not_lt_zero _)
  | succ N0 ih =>
    intro k acc hm hr9 hac hi9
    obtain ⟨⟨gk_1, G28_1, GK_1⟩, ⟨gs_1, G33_1, GS_1⟩, AK_1, AS_1, NE_1, NQ_1, LE_1⟩ := id HR
    obtain ⟨⟨ka_2, kb_2, kc_2, kd_2⟩, kf_2, ke_2, kg_2⟩ := AK_1 r hr
    obtain ⟨⟨sa_2, sb_2, sc_2, sd_2⟩, sf_2, se_2, sg_2⟩ := AS_1 r hr
    have kn_2 := NE_1 r r hr hr
    have kl_2 := LE_1 r hr
    have km_2 := rroom_le (r := r)
    refine mt_iload_n dX4_longest_18 rfl ?_
    refine mt_aload_n dX4_longest_19 rfl rfl ?_
    refine mt_getfield mKX4 (i := 0) (by decide) mw_1053 dX4_longest_20 C0 rfl ?_
    refine mt_iload_n dX4_longest_23 rfl ?_
    refine mp_aaload dX4_longest_24 G28_1 (fun _ => rfl) rfl rfl (by omega) (by omega) (v := .ref (kx r)) (by rw [GK_1 _ (by omega)]; rfl) ?_
    refine mt_alen dX4_longest_25 ke_2 (by decide) ?_
    refine mt_icmp_ge dX4_longest_26 (tgt := 46) rfl (fun q3 => ?_) (fun q3 => ?_)
    · have q3 := Int32.not_lt.mpr q3
      have q3 := (not_congr (nI_ltI (by omega) (by omega))).mp q3
      exact kk0 acc k ((mlp_end (f := lgS (S.1 r)) (by omega)).symm.trans hr9)
    · have q3 := Int32.not_le.mp q3
      have q3 := (nI_ltI (by omega) (by omega)).mp q3
      have eb := endOfRun_le (xs := (S.1 r)) (k := k) (by omega)
      refine mt_iload_n dX4_longest_29 rfl ?_
      refine mt_aload_n dX4_longest_30 rfl rfl ?_
      refine mt_iload_n dX4_longest_31 rfl ?_
      refine mt_iload_n dX4_longest_32 rfl ?_
      refine mt_callV (N := mX4_behind) (Rc := rX4_behind) (As := [.int (nI r), .int (nI k)]) (st := [.int (nI acc)]) dX4_longest_33 (kX4_behind hl C0 HR (by omega) (by omega)) sX4_behind mw_1247 mKX4 rfl C0 rfl (Nat.le_of_ble_eq_true rfl) ⟨⟨Nat.le_of_ble_eq_true rfl, Nat.le_of_ble_eq_true rfl⟩, Nat.le_of_ble_eq_true rfl, Nat.le_of_ble_eq_true rfl⟩ (fun v4 h5 n6 c7 => ?_) (fun _ _ _ hx => hx.elim)
      obtain ⟨c7a, c7b, c7c⟩ := c7
      rw [c7a, c7b, c7c]
      show mT _ _ _ _ 36 [.ref 27, .int (nI r), .int (nI acc), .int (nI k)] [.int (nI (q_endOfRun (S.1 r) k - k)), .int (nI acc)] _ _ _ _
      refine mt_mmax dX4_longest_36 mw_1294 mw_349 mw_41 (mw_max) (Nat.le_of_ble_eq_true rfl) ⟨Nat.le_of_ble_eq_true rfl, Nat.le_of_ble_eq_true rfl⟩ (Nat.le_of_ble_eq_true rfl) (Nat.le_of_ble_eq_true rfl) (v := nI (max acc (q_endOfRun (S.1 r) k - k))) (mI_max (by omega) (by omega)) ?_
      refine mp_istore_n dX4_longest_39 (ls' := [.ref 27, .int (nI r), .int (nI (max acc (q_endOfRun (S.1 r) k - k))), .int (nI k)]) rfl (by decide) rfl ?_
      refine mp_iinc dX4_longest_40 rfl (v := nI (k + 1)) mI_inc (ls' := [.ref 27, .int (nI r), .int (nI (max acc (q_endOfRun (S.1 r) k - k))), .int (nI (k + 1))]) rfl (by decide) rfl ?_
      refine mt_goto dX4_longest_43 (tgt := 18) rfl ?_
      exact ih (k + 1) (max acc (q_endOfRun (S.1 r) k - k)) (by omega) ((mlp_go (f := lgS (S.1 r)) (by omega) rfl).symm.trans hr9) (by omega) (by omega)
def mp_longest (S : cS) (row : Int32) : Nat × Value × cS := dAt S 4 row fun r => (0, .int (nI (mlp (lgS (S.1 r)) ((S.1 r).length - 0) 0 0)), S)
set_option maxRecDepth 100000 in
set_option maxHeartbeats 2000000 in
theorem kX4_longest {l : Launch} (hl : l.stackTraces = false) {h : mH} {n : Nat} {S : cS} {th : Int32} {row : Int32} (C : mAt h n S th) : mC l mX4_longest rX4_longest [.ref 27, .int row] h n (mOkq (mp_longest S row) (.int (nI 0)) h n) (mNX) := by
  obtain ⟨C0, h39, kx, sx, HR⟩ := id C
  obtain ⟨⟨gk_1, G28_1, GK_1⟩, ⟨gs_1, G33_1, GS_1⟩, AK_1, AS_1, NE_1, NQ_1, LE_1⟩ := id HR
  refine mm_enter hl (by decide +kernel) rfl rfl rfl (Nat.le_of_ble_eq_true rfl) ?_
  show mT _ _ _ _ 0 [.ref 27, .int row, .double 0, .double 0] [] _ _ 0 0
  rcases hq2 : inN 4 row with _ | r3
  · refine mt_aload_n dX4_longest_0 rfl rfl ?_
    refine mt_iload_n dX4_longest_1 rfl ?_
    refine mt_callS (N := mX4_isRow) (Rc := rX4_isRow) (As := [.int row]) (st := [.ref 27]) dX4_longest_2 (kX4_isRow hl) sX4_isRow mw_1083 rfl (Nat.le_of_ble_eq_true rfl) ⟨⟨Nat.le_of_ble_eq_true rfl, Nat.le_of_ble_eq_true rfl⟩, Nat.le_of_ble_eq_true rfl, Nat.le_of_ble_eq_true rfl⟩ (fun v4 h5 n6 c7 => ?_) (fun _ _ _ hx => hx.elim)
    obtain ⟨c7a, c7b, c7c⟩ := c7
    rw [show (inN 4 row).isSome = false from by rw [hq2]; rfl] at c7a
    rw [c7a, c7b, c7c]
    show mT _ _ _ _ 5 [.ref 27, .int row, .double 0, .double 0] [.int (nI 0), .ref 27] _ _ _ _
    refine mt_iconst dX4_longest_5 (v := nI 1) rfl ?_
    refine mt_callV (N := mX4_isLet) (Rc := rX4_isLet) (As := [.int (nI 0), .int (nI 1)]) (st := []) dX4_longest_6 (kX4_isLet (t := false) (f := true) hl C0) sX4_isLet mw_1092 mKX4 rfl C0 rfl (Nat.le_of_ble_eq_true rfl) ⟨⟨Nat.le_of_ble_eq_true rfl, Nat.le_of_ble_eq_true rfl⟩, Nat.le_of_ble_eq_true rfl, Nat.le_of_ble_eq_true rfl⟩ (fun v8 h9 n10 c11 => ?_) (fun _ _ _ hx => hx.elim)
    obtain ⟨c11a, c11b, c11c, c11d⟩ := c11
    rw [c11a, c11b]
    show mT _ _ _ _ 9 [.ref 27, .int row, .double 0, .double 0] [.int (nI 0)] _ _ _ _
    refine mt_if_ne dX4_longest_9 (tgt := 14) rfl (fun q12 => ?_) (fun q12 => ?_)
    · have q12 := (not_congr (mI_eq0 (by omega))).mp q12
      exact absurd q12 (by decide)
    · have q12 := (mI_eq0 (by omega)).mp q12
      refine mt_iconst dX4_longest_12 (v := nI 0) rfl ?_
      refine mt_ireturn dX4_longest_13 rfl rfl (Nat.le_of_ble_eq_true rfl) (Nat.le_of_ble_eq_true rfl) ?_
      exact mOkq.no (k := 1) (S' := S) (by simp only [mp_longest, dAt_n (k := 4) (x := row) hq2, if_pos q12]) (by decide) rfl (by omega) c11c (by omega) (mRows.fr (n' := n) HR (by omega) (fun j j1 j2 j3 => c11d (j) (by omega)) (by omega)) (fun j hj => c11d j (by omega))
  · obtain ⟨hr3, rfl⟩ := inN_of hq2 (by first | decide | omega)
    obtain ⟨⟨ka_13, kb_13, kc_13, kd_13⟩, kf_13, ke_13, kg_13⟩ := AK_1 r3 hr3
    obtain ⟨⟨sa_13, sb_13, sc_13, sd_13⟩, sf_13, se_13, sg_13⟩ := AS_1 r3 hr3
    have kn_13 := NE_1 r3 r3 hr3 hr3
    have kl_13 := LE_1 r3 hr3
    have km_13 := rroom_le (r := r3)
    refine mt_aload_n dX4_longest_0 rfl rfl ?_
    refine mt_iload_n dX4_longest_1 rfl ?_
    refine mt_callS (N := mX4_isRow) (Rc := rX4_isRow) (As := [.int (nI r3)]) (st := [.ref 27]) dX4_longest_2 (kX4_isRow hl) sX4_isRow mw_1083 rfl (Nat.le_of_ble_eq_true rfl) ⟨⟨Nat.le_of_ble_eq_true rfl, Nat.le_of_ble_eq_true rfl⟩, Nat.le_of_ble_eq_true rfl, Nat.le_of_ble_eq_true rfl⟩ (fun v14 h15 n16 c17 => ?_) (fun _ _ _ hx => hx.elim)
    obtain ⟨c17a, c17b, c17c⟩ := c17
    rw [show (inN 4 (nI r3)).isSome = true from by rw [inN_some hr3 (by decide)]; rfl] at c17a
    rw [c17a, c17b, c17c]
    show mT _ _ _ _ 5 [.ref 27, .int (nI r3), .double 0, .double 0] [.int (nI 1), .ref 27] _ _ _ _
    refine mt_iconst dX4_longest_5 (v := nI 1) rfl ?_
    refine mt_callV (N := mX4_isLet) (Rc := rX4_isLet) (As := [.int (nI 1), .int (nI 1)]) (st := []) dX4_longest_6 (kX4_isLet (t := true) (f := true) hl C0) sX4_isLet mw_1092 mKX4 rfl C0 rfl (Nat.le_of_ble_eq_true rfl) ⟨⟨Nat.le_of_ble_eq_true rfl, Nat.le_of_ble_eq_true rfl⟩, Nat.le_of_ble_eq_true rfl, Nat.le_of_ble_eq_true rfl⟩ (fun v18 h19 n20 c21 => ?_) (fun _ _ _ hx => hx.elim)
    obtain ⟨c21a, c21b, c21c, c21d⟩ := c21
    rw [c21a, c21b]
    show mT _ _ _ _ 9 [.ref 27, .int (nI r3), .double 0, .double 0] [.int (nI 1)] _ _ _ _
    refine mt_if_ne dX4_longest_9 (tgt := 14) rfl (fun q22 => ?_) (fun q22 => ?_)
    · have q22 := (not_congr (mI_eq0 (by omega))).mp q22
      refine mt_iconst dX4_longest_14 (v := nI 0) rfl ?_
      refine mp_istore_n dX4_longest_15 (ls' := [.ref 27, .int (nI r3), .int (nI 0), .double 0]) rfl (by decide) rfl ?_
      refine mt_iconst dX4_longest_16 (v := nI 0) rfl ?_
      refine mp_istore_n dX4_longest_17 (ls' := [.ref 27, .int (nI r3), .int (nI 0), .int (nI 0)]) rfl (by decide) rfl ?_
      refine tX4_longest_18 hl c21c (mRows.fr (n' := n) HR (by omega) (fun j j1 j2 j3 => c21d (j) (by omega)) (by omega)) (by omega) hr3 (fun acc_23 k_24 z25 => ?_) _ 0 0 (Nat.lt_succ_self _) rfl (by omega) (by omega)
      refine mt_iload_n dX4_longest_46 rfl ?_
      refine mt_ireturn dX4_longest_47 rfl rfl (Nat.le_of_ble_eq_true rfl) (Nat.le_of_ble_eq_true rfl) ?_
      exact mOkq.of (x := .int (nI acc_23)) (S' := ((S).1, S.2.1, S.2.2.1, S.2.2.2.1, S.2.2.2.2)) (by simp only [mp_longest, dAt_s (k := 4) hr3 (by first | decide | omega), if_neg q22]; exact congrArg (fun x => ((0 : Nat), Value.int (nI x), S)) z25.symm) rfl (by omega) c21c (by omega) (mRows.fr (n' := n) HR (by omega) (fun j j1 j2 j3 => c21d (j) (by omega)) (by omega)) (fun j hj => c21d j (by omega))
    · have q22 := (mI_eq0 (by omega)).mp q22
      exact absurd q22 (by decide)
abbrev rX4_first : Room := { frames := 2, cells := 0, slots := 0, locals := 42 }
set_option maxRecDepth 100000 in
set_option maxHeartbeats 2000000 in
theorem tX4_first_27 {l : Launch} {R : Room} {K : mK} {cc sc : Nat} {h : mH} {n : Nat} {S : cS} {kx sx : Nat → Nat} {g ac rf kn th : Int32} {r : Nat} {r9 : Int32} {key : Int32} {b : Bool} (C0 : h 27 = .inr (.inr (6, [.ref 28, .ref 33, .int g, .int ac, .int rf, .int kn, .int th]))) (HR : mRows h n S kx sx) (h39 : 39 ≤ n) (hr : r < 4) (kk0 : ∀ (its : Int32) (k : Nat), (its = r9) → mT l mX4_first R K 72 [.ref 27, .int (nI r), .int key, .int (mb (b)), .int its, .int (nI k)] [] h n cc sc) : ∀ (N0 : Nat) (k : Nat) (its : Int32), ((S.1 r).length - k) < N0 → (mlp (fsS (S.1 r) key b) ((S.1 r).length - k) k its = r9) → (k ≤ (S.1 r).length) → mT l mX4_first R K 27 [.ref 27, .int (nI r), .int key, .int (mb (b)), .int its, .int (nI k)] [] h n cc sc := by
  intro N0
  induction N0 with
  | zero => intro k its hm; exact absurd hm (Nat.not_lt_zero _)
  | succ N0 ih =>
    intro k its hm hr9 hi9
    obtain ⟨⟨gk_1, G28_1, GK_1⟩, ⟨gs_1, G33_1, GS_1⟩, AK_1, AS_1, NE_1, NQ_1, LE_1⟩ := id HR
    obtain ⟨⟨ka_2, kb_2, kc_2, kd_2⟩, kf_2, ke_2, kg_2⟩ := AK_1 r hr
    obtain ⟨⟨sa_2, sb_2, sc_2, sd_2⟩, sf_2, se_2, sg_2⟩ := AS_1 r hr
    have kn_2 := NE_1 r r hr hr
    have kl_2 := LE_1 r hr
    have km_2 := rroom_le (r := r)
    refine mt_iload dX4_first_27 rfl ?_
    refine mt_aload_n dX4_first_29 rfl rfl ?_
    refine mt_getfield mKX4 (i := 0) (by decide) mw_1053 dX4_first_30 C0 rfl ?_
    refine mt_iload_n dX4_first_33 rfl ?_
    refine mp_aaload dX4_first_34 G28_1 (fun _ => rfl) rfl rfl (by omega) (by omega) (v := .ref (kx r)) (by rw [GK_1 _ (by omega)]; rfl) ?_
    refine mt_alen dX4_first_35 ke_2 (by decide) ?_
    refine mt_icmp_ge dX4_first_36 (tgt := 72) rfl (fun q3 => ?_) (fun q3 => ?_)
    · have q3 := Int32.not_lt.mpr q3
      have q3 := (not_congr (nI_ltI (by omega) (by omega))).mp q3
      exact kk0 its k ((mlp_end (f := fsS (S.1 r) key b) (by omega)).symm.trans hr9)
    · have q3 := Int32.not_le.mp q3
      have q3 := (nI_ltI (by omega) (by omega)).mp q3
      refine mt_aload_n dX4_first_39 rfl rfl ?_
      refine mt_getfield mKX4 (i := 0) (by decide) mw_1053 dX4_first_40 C0 rfl ?_
      refine mt_iload_n dX4_first_43 rfl ?_
      refine mp_aaload dX4_first_44 G28_1 (fun _ => rfl) rfl rfl (by omega) (by omega) (v := .ref (kx r)) (by rw [GK_1 _ (by omega)]; rfl) ?_
      refine mt_iload dX4_first_45 rfl ?_
      refine mp_iaload dX4_first_47 ke_2 rfl (by omega) (by omega) (v := xk (S.1 r) k) (kg_2 _ (by omega)) ?_
      refine mt_iload_n dX4_first_48 rfl ?_
      refine mt_icmp_ne dX4_first_49 (tgt := 66) rfl (fun q4 => ?_) (fun q4 => ?_)
      · refine mp_iinc dX4_first_66 rfl (v := nI (k + 1)) mI_inc (ls' := [.ref 27, .int (nI r), .int key, .int (mb (b)), .int its, .int (nI (k + 1))]) rfl (by decide) rfl ?_
        refine mt_goto dX4_first_69 (tgt := 27) rfl ?_
        exact ih (k + 1) its (by omega) ((mlp_go (f := fsS (S.1 r) key b) (by omega) (by simp [fsS, q3, q4, nI_0, mI_one] <;> rfl)).symm.trans hr9) (by omega)
      · refine mt_iload_n dX4_first_52 rfl ?_
        refine mt_if_ne dX4_first_53 (tgt := 62) rfl (fun q5 => ?_) (fun q5 => ?_)
        · have q5 : b = true := mb_1.mp q5
          refine mt_iload dX4_first_62 rfl ?_
          refine mp_istore dX4_first_64 (ls' := [.ref 27, .int (nI r), .int key, .int (mb (b)), .int (nI k), .int (nI k)]) rfl (by decide) rfl ?_
          refine mp_iinc dX4_first_66 rfl (v := nI (k + 1)) mI_inc (ls' := [.ref 27, .int (nI r), .int key, .int (mb (b)), .int (nI k), .int (nI (k + 1))]) rfl (by decide) rfl ?_
          refine mt_goto dX4_first_69 (tgt := 27) rfl ?_
          exact ih (k + 1) (nI k) (by omega) ((mlp_go (f := fsS (S.1 r) key b) (by omega) (by simp [fsS, q3, q4, q5, nI_0, mI_one] <;> rfl)).symm.trans hr9) (by omega)
        · have q5 : b = false := mb_0.mp q5
          refine mt_iload dX4_first_56 rfl ?_
          refine mt_iconst dX4_first_58 (v := -1) rfl ?_
          refine mt_icmp_ne dX4_first_59 (tgt := 66) rfl (fun q6 => ?_) (fun q6 => ?_)
          · refine mp_iinc dX4_first_66 rfl (v := nI (k + 1)) mI_inc (ls' := [.ref 27, .int (nI r), .int key, .int (mb (b)), .int its, .int (nI (k + 1))]) rfl (by decide) rfl ?_
            refine mt_goto dX4_first_69 (tgt := 27) rfl ?_
            exact ih (k + 1) its (by omega) ((mlp_go (f := fsS (S.1 r) key b) (by omega) (by simp [fsS, q3, q4, q5, q6, nI_0, mI_one] <;> rfl)).symm.trans hr9) (by omega)
          · refine mt_iload dX4_first_62 rfl ?_
            refine mp_istore dX4_first_64 (ls' := [.ref 27, .int (nI r), .int key, .int (mb (b)), .int (nI k), .int (nI k)]) rfl (by decide) rfl ?_
            refine mp_iinc dX4_first_66 rfl (v := nI (k + 1)) mI_inc (ls' := [.ref 27, .int (nI r), .int key, .int (mb (b)), .int (nI k), .int (nI (k + 1))]) rfl (by decide) rfl ?_
            refine mt_goto dX4_first_69 (tgt := 27) rfl ?_
            exact ih (k + 1) (nI k) (by omega) ((mlp_go (f := fsS (S.1 r) key b) (by omega) (by simp [fsS, q3, q4, q5, q6, nI_0, mI_one] <;> rfl)).symm.trans hr9) (by omega)
def mp_first (S : cS) (row : Int32) (key : Int32) (isLast : Bool) : Nat × Value × cS := dAt S 4 row fun r => dFit S (keyOk key) (0, .int (mlp (fsS (S.1 r) key isLast) ((S.1 r).length - 0) 0 (-1)), S)
set_option maxRecDepth 100000 in
set_option maxHeartbeats 2000000 in
theorem kX4_first {l : Launch} (hl : l.stackTraces = false) {h : mH} {n : Nat} {S : cS} {th : Int32} {row : Int32} {key : Int32} {isLast : Bool} (C : mAt h n S th) : mC l mX4_first rX4_first [.ref 27, .int row, .int key, .int (mb (isLast))] h n (mOkq (mp_first S row key isLast) (.int (nI 0)) h n) (mNX) := by
  obtain ⟨C0, h39, kx, sx, HR⟩ := id C
  obtain ⟨⟨gk_1, G28_1, GK_1⟩, ⟨gs_1, G33_1, GS_1⟩, AK_1, AS_1, NE_1, NQ_1, LE_1⟩ := id HR
  refine mm_enter hl (by decide +kernel) rfl rfl rfl (Nat.le_of_ble_eq_true rfl) ?_
  show mT _ _ _ _ 0 [.ref 27, .int row, .int key, .int (mb (isLast)), .double 0, .double 0] [] _ _ 0 0
  rcases hq2 : inN 4 row with _ | r3
  · refine mt_aload_n dX4_first_0 rfl rfl ?_
    refine mt_iload_n dX4_first_1 rfl ?_
    refine mt_callS (N := mX4_isRow) (Rc := rX4_isRow) (As := [.int row]) (st := [.ref 27]) dX4_first_2 (kX4_isRow hl) sX4_isRow mw_1083 rfl (Nat.le_of_ble_eq_true rfl) ⟨⟨Nat.le_of_ble_eq_true rfl, Nat.le_of_ble_eq_true rfl⟩, Nat.le_of_ble_eq_true rfl, Nat.le_of_ble_eq_true rfl⟩ (fun v4 h5 n6 c7 => ?_) (fun _ _ _ hx => hx.elim)
    obtain ⟨c7a, c7b, c7c⟩ := c7
    rw [show (inN 4 row).isSome = false from by rw [hq2]; rfl] at c7a
    rw [c7a, c7b, c7c]
    show mT _ _ _ _ 5 [.ref 27, .int row, .int key, .int (mb (isLast)), .double 0, .double 0] [.int (nI 0), .ref 27] _ _ _ _
    refine mt_iload_n dX4_first_5 rfl ?_
    refine mt_ldc (v := (-99999)) dX4_first_6 mw_1113 ?_
    refine mt_ldc (v := nI 99999) dX4_first_8 mw_1114 ?_
    refine mt_callS (N := mX4_isIn) (Rc := rX4_isIn) (As := [.int key, .int (-99999), .int (nI 99999)]) (st := [.int (nI 0), .ref 27]) dX4_first_10 (kX4_isIn hl) sX4_isIn mw_1086 rfl (Nat.le_of_ble_eq_true rfl) ⟨⟨Nat.le_of_ble_eq_true rfl, Nat.le_of_ble_eq_true rfl⟩, Nat.le_of_ble_eq_true rfl, Nat.le_of_ble_eq_true rfl⟩ (fun v8 h9 n10 c11 => ?_) (fun _ _ _ hx => hx.elim)
    obtain ⟨c11a, c11b, c11c⟩ := c11
    rw [c11a, c11b, c11c]
    show mT _ _ _ _ 13 [.ref 27, .int row, .int key, .int (mb (isLast)), .double 0, .double 0] [.int (mb (inR key (-99999) (nI 99999))), .int (nI 0), .ref 27] _ _ _ _
    refine mt_callV (N := mX4_isLet) (Rc := rX4_isLet) (As := [.int (nI 0), .int (mb (inR key (-99999) (nI 99999)))]) (st := []) dX4_first_13 (kX4_isLet (t := false) (f := inR key (-99999) (nI 99999)) hl C0) sX4_isLet mw_1092 mKX4 rfl C0 rfl (Nat.le_of_ble_eq_true rfl) ⟨⟨Nat.le_of_ble_eq_true rfl, Nat.le_of_ble_eq_true rfl⟩, Nat.le_of_ble_eq_true rfl, Nat.le_of_ble_eq_true rfl⟩ (fun v12 h13 n14 c15 => ?_) (fun _ _ _ hx => hx.elim)
    obtain ⟨c15a, c15b, c15c, c15d⟩ := c15
    rw [c15a, c15b]
    show mT _ _ _ _ 16 [.ref 27, .int row, .int key, .int (mb (isLast)), .double 0, .double 0] [.int (nI 0)] _ _ _ _
    refine mt_if_ne dX4_first_16 (tgt := 21) rfl (fun q16 => ?_) (fun q16 => ?_)
    · have q16 := (not_congr (mI_eq0 (by omega))).mp q16
      exact absurd q16 (by decide)
    · have q16 := (mI_eq0 (by omega)).mp q16
      refine mt_iconst dX4_first_19 (v := nI 0) rfl ?_
      refine mt_ireturn dX4_first_20 rfl rfl (Nat.le_of_ble_eq_true rfl) (Nat.le_of_ble_eq_true rfl) ?_
      exact mOkq.no (k := 1) (S' := S) (by simp only [mp_first, dAt_n (k := 4) (x := row) hq2, if_pos q16]) (by decide) rfl (by omega) c15c (by omega) (mRows.fr (n' := n) HR (by omega) (fun j j1 j2 j3 => c15d (j) (by omega)) (by omega)) (fun j hj => c15d j (by omega))
  · obtain ⟨hr3, rfl⟩ := inN_of hq2 (by first | decide | omega)
    obtain ⟨⟨ka_17, kb_17, kc_17, kd_17⟩, kf_17, ke_17, kg_17⟩ := AK_1 r3 hr3
    obtain ⟨⟨sa_17, sb_17, sc_17, sd_17⟩, sf_17, se_17, sg_17⟩ := AS_1 r3 hr3
    have kn_17 := NE_1 r3 r3 hr3 hr3
    have kl_17 := LE_1 r3 hr3
    have km_17 := rroom_le (r := r3)
    rcases hk18 : keyOk key with _ | _
    · refine mt_aload_n dX4_first_0 rfl rfl ?_
      refine mt_iload_n dX4_first_1 rfl ?_
      refine mt_callS (N := mX4_isRow) (Rc := rX4_isRow) (As := [.int (nI r3)]) (st := [.ref 27]) dX4_first_2 (kX4_isRow hl) sX4_isRow mw_1083 rfl (Nat.le_of_ble_eq_true rfl) ⟨⟨Nat.le_of_ble_eq_true rfl, Nat.le_of_ble_eq_true rfl⟩, Nat.le_of_ble_eq_true rfl, Nat.le_of_ble_eq_true rfl⟩ (fun v19 h20 n21 c22 => ?_) (fun _ _ _ hx => hx.elim)
      obtain ⟨c22a, c22b, c22c⟩ := c22
      rw [show (inN 4 (nI r3)).isSome = true from by rw [inN_some hr3 (by decide)]; rfl] at c22a
      rw [c22a, c22b, c22c]
      show mT _ _ _ _ 5 [.ref 27, .int (nI r3), .int key, .int (mb (isLast)), .double 0, .double 0] [.int (nI 1), .ref 27] _ _ _ _
      refine mt_iload_n dX4_first_5 rfl ?_
      refine mt_ldc (v := (-99999)) dX4_first_6 mw_1113 ?_
      refine mt_ldc (v := nI 99999) dX4_first_8 mw_1114 ?_
      refine mt_callS (N := mX4_isIn) (Rc := rX4_isIn) (As := [.int key, .int (-99999), .int (nI 99999)]) (st := [.int (nI 1), .ref 27]) dX4_first_10 (kX4_isIn hl) sX4_isIn mw_1086 rfl (Nat.le_of_ble_eq_true rfl) ⟨⟨Nat.le_of_ble_eq_true rfl, Nat.le_of_ble_eq_true rfl⟩, Nat.le_of_ble_eq_true rfl, Nat.le_of_ble_eq_true rfl⟩ (fun v23 h24 n25 c26 => ?_) (fun _ _ _ hx => hx.elim)
      obtain ⟨c26a, c26b, c26c⟩ := c26
      rw [show inR key (-99999) (nI 99999) = false from hk18] at c26a
      rw [c26a, c26b, c26c]
      show mT _ _ _ _ 13 [.ref 27, .int (nI r3), .int key, .int (mb (isLast)), .double 0, .double 0] [.int (nI 0), .int (nI 1), .ref 27] _ _ _ _
      refine mt_callV (N := mX4_isLet) (Rc := rX4_isLet) (As := [.int (nI 1), .int (nI 0)]) (st := []) dX4_first_13 (kX4_isLet (t := true) (f := false) hl C0) sX4_isLet mw_1092 mKX4 rfl C0 rfl (Nat.le_of_ble_eq_true rfl) ⟨⟨Nat.le_of_ble_eq_true rfl, Nat.le_of_ble_eq_true rfl⟩, Nat.le_of_ble_eq_true rfl, Nat.le_of_ble_eq_true rfl⟩ (fun v27 h28 n29 c30 => ?_) (fun _ _ _ hx => hx.elim)
      obtain ⟨c30a, c30b, c30c, c30d⟩ := c30
      rw [c30a, c30b]
      show mT _ _ _ _ 16 [.ref 27, .int (nI r3), .int key, .int (mb (isLast)), .double 0, .double 0] [.int (nI 0)] _ _ _ _
      refine mt_if_ne dX4_first_16 (tgt := 21) rfl (fun q31 => ?_) (fun q31 => ?_)
      · have q31 := (not_congr (mI_eq0 (by omega))).mp q31
        exact absurd q31 (by decide)
      · have q31 := (mI_eq0 (by omega)).mp q31
        refine mt_iconst dX4_first_19 (v := nI 0) rfl ?_
        refine mt_ireturn dX4_first_20 rfl rfl (Nat.le_of_ble_eq_true rfl) (Nat.le_of_ble_eq_true rfl) ?_
        exact mOkq.no (k := 2) (S' := S) (by simp only [mp_first, dAt_s (k := 4) hr3 (by first | decide | omega), dFit_n hk18, if_pos q31]) (by decide) rfl (by omega) c30c (by omega) (mRows.fr (n' := n) HR (by omega) (fun j j1 j2 j3 => c30d (j) (by omega)) (by omega)) (fun j hj => c30d j (by omega))
    · refine mt_aload_n dX4_first_0 rfl rfl ?_
      refine mt_iload_n dX4_first_1 rfl ?_
      refine mt_callS (N := mX4_isRow) (Rc := rX4_isRow) (As := [.int (nI r3)]) (st := [.ref 27]) dX4_first_2 (kX4_isRow hl) sX4_isRow mw_1083 rfl (Nat.le_of_ble_eq_true rfl) ⟨⟨Nat.le_of_ble_eq_true rfl, Nat.le_of_ble_eq_true rfl⟩, Nat.le_of_ble_eq_true rfl, Nat.le_of_ble_eq_true rfl⟩ (fun v32 h33 n34 c35 => ?_) (fun _ _ _ hx => hx.elim)
      obtain ⟨c35a, c35b, c35c⟩ := c35
      rw [show (inN 4 (nI r3)).isSome = true from by rw [inN_some hr3 (by decide)]; rfl] at c35a
      rw [c35a, c35b, c35c]
      show mT _ _ _ _ 5 [.ref 27, .int (nI r3), .int key, .int (mb (isLast)), .double 0, .double 0] [.int (nI 1), .ref 27] _ _ _ _
      refine mt_iload_n dX4_first_5 rfl ?_
      refine mt_ldc (v := (-99999)) dX4_first_6 mw_1113 ?_
      refine mt_ldc (v := nI 99999) dX4_first_8 mw_1114 ?_
      refine mt_callS (N := mX4_isIn) (Rc := rX4_isIn) (As := [.int key, .int (-99999), .int (nI 99999)]) (st := [.int (nI 1), .ref 27]) dX4_first_10 (kX4_isIn hl) sX4_isIn mw_1086 rfl (Nat.le_of_ble_eq_true rfl) ⟨⟨Nat.le_of_ble_eq_true rfl, Nat.le_of_ble_eq_true rfl⟩, Nat.le_of_ble_eq_true rfl, Nat.le_of_ble_eq_true rfl⟩ (fun v36 h37 n38 c39 => ?_) (fun _ _ _ hx => hx.elim)
      obtain ⟨c39a, c39b, c39c⟩ := c39
      rw [show inR key (-99999) (nI 99999) = true from hk18] at c39a
      rw [c39a, c39b, c39c]
      show mT _ _ _ _ 13 [.ref 27, .int (nI r3), .int key, .int (mb (isLast)), .double 0, .double 0] [.int (nI 1), .int (nI 1), .ref 27] _ _ _ _
      refine mt_callV (N := mX4_isLet) (Rc := rX4_isLet) (As := [.int (nI 1), .int (nI 1)]) (st := []) dX4_first_13 (kX4_isLet (t := true) (f := true) hl C0) sX4_isLet mw_1092 mKX4 rfl C0 rfl (Nat.le_of_ble_eq_true rfl) ⟨⟨Nat.le_of_ble_eq_true rfl, Nat.le_of_ble_eq_true rfl⟩, Nat.le_of_ble_eq_true rfl, Nat.le_of_ble_eq_true rfl⟩ (fun v40 h41 n42 c43 => ?_) (fun _ _ _ hx => hx.elim)
      obtain ⟨c43a, c43b, c43c, c43d⟩ := c43
      rw [c43a, c43b]
      show mT _ _ _ _ 16 [.ref 27, .int (nI r3), .int key, .int (mb (isLast)), .double 0, .double 0] [.int (nI 1)] _ _ _ _
      refine mt_if_ne dX4_first_16 (tgt := 21) rfl (fun q44 => ?_) (fun q44 => ?_)
      · have q44 := (not_congr (mI_eq0 (by omega))).mp q44
        refine mt_iconst dX4_first_21 (v := -1) rfl ?_
        refine mp_istore dX4_first_22 (ls' := [.ref 27, .int (nI r3), .int key, .int (mb (isLast)), .int (-1), .double 0]) rfl (by decide) rfl ?_
        refine mt_iconst dX4_first_24 (v := nI 0) rfl ?_
        refine mp_istore dX4_first_25 (ls' := [.ref 27, .int (nI r3), .int key, .int (mb (isLast)), .int (-1), .int (nI 0)]) rfl (by decide) rfl ?_
        refine tX4_first_27 c43c (mRows.fr (n' := n) HR (by omega) (fun j j1 j2 j3 => c43d (j) (by omega)) (by omega)) (by omega) hr3 (fun its_45 k_46 z47 => ?_) _ 0 (-1) (Nat.lt_succ_self _) rfl (by omega)
        refine mt_iload dX4_first_72 rfl ?_
        refine mt_ireturn dX4_first_74 rfl rfl (Nat.le_of_ble_eq_true rfl) (Nat.le_of_ble_eq_true rfl) ?_
        exact mOkq.of (x := .int its_45) (S' := ((S).1, S.2.1, S.2.2.1, S.2.2.2.1, S.2.2.2.2)) (by simp only [mp_first, dAt_s (k := 4) hr3 (by first | decide | omega), dFit_s hk18, if_neg q44]; exact congrArg (fun x => ((0 : Nat), Value.int (x), S)) z47.symm) rfl (by omega) c43c (by omega) (mRows.fr (n' := n) HR (by omega) (fun j j1 j2 j3 => c43d (j) (by omega)) (by omega)) (fun j hj => c43d j (by omega))
      · have q44 := (mI_eq0 (by omega)).mp q44
        exact absurd q44 (by decide)
abbrev rX4_end : Room := { frames := 2, cells := 0, slots := 0, locals := 42 }
set_option maxRecDepth 100000 in
set_option maxHeartbeats 2000000 in
theorem tX4_end_33 {l : Launch} {K : mK} {h : mH} {n : Nat} {S : cS} {kx sx : Nat → Nat} {g ac rf kn th : Int32} {r : Nat} {r9 : Int32} {b : Bool} (hl : l.stackTraces = false) (C0 : h 27 = .inr (.inr (6, [.ref 28, .ref 33, .int g, .int ac, .int rf, .int kn, .int th]))) (HR : mRows h n S kx sx) (h39 : 39 ≤ n) (hr : r < 4) (kk0 : ∀ (its : Int32) (k : Nat), (its = r9) → mT l mX4_end rX4_end K 84 [.ref 27, .int (nI r), .int (mb (b)), .int its, .ref (kx r), .int (nI ((S.1 r).length)), .int (nI k), .double 0] [] h n 0 0) : ∀ (N0 : Nat) (k : Nat) (its : Int32), ((S.1 r).length - k) < N0 → (mlp (enS (S.1 r) b) ((S.1 r).length - k) k its = r9) → (k ≤ (S.1 r).length) → mT l mX4_end rX4_end K 33 [.ref 27, .int (nI r), .int (mb (b)), .int its, .ref (kx r), .int (nI ((S.1 r).length)), .int (nI k), .double 0] [] h n 0 0 := by
  intro N0
  induction N0 with
  | zero => intro k its hm; exact absurd hm (Nat.not_lt_zero _)
  | succ N0 ih =>
    intro k its hm hr9 hi9
    obtain ⟨⟨gk_1, G28_1, GK_1⟩, ⟨gs_1, G33_1, GS_1⟩, AK_1, AS_1, NE_1, NQ_1, LE_1⟩ := id HR
    obtain ⟨⟨ka_2, kb_2, kc_2, kd_2⟩, kf_2, ke_2, kg_2⟩ := AK_1 r hr
    obtain ⟨⟨sa_2, sb_2, sc_2, sd_2⟩, sf_2, se_2, sg_2⟩ := AS_1 r hr
    have kn_2 := NE_1 r r hr hr
    have kl_2 := LE_1 r hr
    have km_2 := rroom_le (r := r)
    refine mt_iload dX4_end_33 rfl ?_
    refine mt_iload dX4_end_35 rfl ?_
    refine mt_icmp_ge dX4_end_37 (tgt := 84) rfl (fun q3 => ?_) (fun q3 => ?_)
    · have q3 := Int32.not_lt.mpr q3
      have q3 := (not_congr (nI_ltI (by omega) (by omega))).mp q3
      exact kk0 its k ((mlp_end (f := enS (S.1 r) b) (by omega)).symm.trans hr9)
    · have q3 := Int32.not_le.mp q3
      have q3 := (nI_ltI (by omega) (by omega)).mp q3
      refine mt_aload dX4_end_40 rfl rfl ?_
      refine mt_iload dX4_end_42 rfl ?_
      refine mp_iaload dX4_end_44 ke_2 rfl (by omega) (by omega) (v := xk (S.1 r) k) (kg_2 _ (by omega)) ?_
      refine mp_istore dX4_end_45 (ls' := [.ref 27, .int (nI r), .int (mb (b)), .int its, .ref (kx r), .int (nI ((S.1 r).length)), .int (nI k), .int (xk (S.1 r) k)]) rfl (by decide) rfl ?_
      refine mt_iload_n dX4_end_47 rfl ?_
      refine mt_ldc (v := (-100000)) dX4_end_48 mw_1315 ?_
      refine mt_icmp_ne dX4_end_50 (tgt := 58) rfl (fun q4 => ?_) (fun q4 => ?_)
      · refine mt_iload_n dX4_end_58 rfl ?_
        refine mt_if_eq dX4_end_59 (tgt := 71) rfl (fun q5 => ?_) (fun q5 => ?_)
        · have q5 : b = false := mb_0.mp q5
          refine mt_iload_n dX4_end_71 rfl ?_
          refine mt_iload dX4_end_72 rfl ?_
          refine mt_mmin dX4_end_74 mw_1100 mw_152 mw_41 (mw_min) (Nat.le_of_ble_eq_true rfl) ⟨Nat.le_of_ble_eq_true rfl, Nat.le_of_ble_eq_true rfl⟩ (Nat.le_of_ble_eq_true rfl) (Nat.le_of_ble_eq_true rfl) (v := if (xk (S.1 r) k) < its then (xk (S.1 r) k) else its) rfl ?_
          refine mp_istore_n dX4_end_77 (ls' := [.ref 27, .int (nI r), .int (mb (b)), .int (if (xk (S.1 r) k) < its then (xk (S.1 r) k) else its), .ref (kx r), .int (nI ((S.1 r).length)), .int (nI k), .int (xk (S.1 r) k)]) rfl (by decide) rfl ?_
          refine mp_iinc dX4_end_78 rfl (v := nI (k + 1)) mI_inc (ls' := [.ref 27, .int (nI r), .int (mb (b)), .int (if (xk (S.1 r) k) < its then (xk (S.1 r) k) else its), .ref (kx r), .int (nI ((S.1 r).length)), .int (nI (k + 1)), .int (xk (S.1 r) k)]) rfl (by decide) rfl ?_
          refine mt_goto dX4_end_81 (tgt := 33) rfl ?_
          refine mt_drop 7 (ls' := [.ref 27, .int (nI r), .int (mb (b)), .int (if (xk (S.1 r) k) < its then (xk (S.1 r) k) else its), .ref (kx r), .int (nI ((S.1 r).length)), .int (nI (k + 1)), .double 0]) rfl ?_
          exact ih (k + 1) (if (xk (S.1 r) k) < its then (xk (S.1 r) k) else its) (by omega) ((mlp_go (f := enS (S.1 r) b) (by omega) (by simp [enS, q3, q4, q5, nI_0, mI_one] <;> rfl)).symm.trans hr9) (by omega)
        · have q5 : b = true := mb_1.mp q5
          refine mt_iload_n dX4_end_62 rfl ?_
          refine mt_iload dX4_end_63 rfl ?_
          refine mt_mmax dX4_end_65 mw_1294 mw_349 mw_41 (mw_max) (Nat.le_of_ble_eq_true rfl) ⟨Nat.le_of_ble_eq_true rfl, Nat.le_of_ble_eq_true rfl⟩ (Nat.le_of_ble_eq_true rfl) (Nat.le_of_ble_eq_true rfl) (v := if its < (xk (S.1 r) k) then (xk (S.1 r) k) else its) rfl ?_
          refine mt_goto dX4_end_68 (tgt := 77) rfl ?_
          refine mp_istore_n dX4_end_77 (ls' := [.ref 27, .int (nI r), .int (mb (b)), .int (if its < (xk (S.1 r) k) then (xk (S.1 r) k) else its), .ref (kx r), .int (nI ((S.1 r).length)), .int (nI k), .int (xk (S.1 r) k)]) rfl (by decide) rfl ?_
          refine mp_iinc dX4_end_78 rfl (v := nI (k + 1)) mI_inc (ls' := [.ref 27, .int (nI r), .int (mb (b)), .int (if its < (xk (S.1 r) k) then (xk (S.1 r) k) else its), .ref (kx r), .int (nI ((S.1 r).length)), .int (nI (k + 1)), .int (xk (S.1 r) k)]) rfl (by decide) rfl ?_
          refine mt_goto dX4_end_81 (tgt := 33) rfl ?_
          refine mt_drop 7 (ls' := [.ref 27, .int (nI r), .int (mb (b)), .int (if its < (xk (S.1 r) k) then (xk (S.1 r) k) else its), .ref (kx r), .int (nI ((S.1 r).length)), .int (nI (k + 1)), .double 0]) rfl ?_
          exact ih (k + 1) (if its < (xk (S.1 r) k) then (xk (S.1 r) k) else its) (by omega) ((mlp_go (f := enS (S.1 r) b) (by omega) (by simp [enS, q3, q4, q5, nI_0, mI_one] <;> rfl)).symm.trans hr9) (by omega)
      · refine mt_iload dX4_end_53 rfl ?_
        refine mt_goto dX4_end_55 (tgt := 77) rfl ?_
        refine mp_istore_n dX4_end_77 (ls' := [.ref 27, .int (nI r), .int (mb (b)), .int (xk (S.1 r) k), .ref (kx r), .int (nI ((S.1 r).length)), .int (nI k), .int (xk (S.1 r) k)]) rfl (by decide) rfl ?_
        refine mp_iinc dX4_end_78 rfl (v := nI (k + 1)) mI_inc (ls' := [.ref 27, .int (nI r), .int (mb (b)), .int (xk (S.1 r) k), .ref (kx r), .int (nI ((S.1 r).length)), .int (nI (k + 1)), .int (xk (S.1 r) k)]) rfl (by decide) rfl ?_
        refine mt_goto dX4_end_81 (tgt := 33) rfl ?_
        refine mt_drop 7 (ls' := [.ref 27, .int (nI r), .int (mb (b)), .int (xk (S.1 r) k), .ref (kx r), .int (nI ((S.1 r).length)), .int (nI (k + 1)), .double 0]) rfl ?_
        exact ih (k + 1) (xk (S.1 r) k) (by omega) ((mlp_go (f := enS (S.1 r) b) (by omega) (by simp [enS, q3, q4, nI_0, mI_one] <;> rfl)).symm.trans hr9) (by omega)
def mp_end (S : cS) (row : Int32) (isGreatest : Bool) : Nat × Value × cS := dAt S 4 row fun r => (0, .int (mlp (enS (S.1 r) isGreatest) ((S.1 r).length - 0) 0 (-100000)), S)
set_option maxRecDepth 100000 in
set_option maxHeartbeats 2000000 in
theorem kX4_end {l : Launch} (hl : l.stackTraces = false) {h : mH} {n : Nat} {S : cS} {th : Int32} {row : Int32} {isGreatest : Bool} (C : mAt h n S th) : mC l mX4_end rX4_end [.ref 27, .int row, .int (mb (isGreatest))] h n (mOkq (mp_end S row isGreatest) (.int (nI 0)) h n) (mNX) := by
  obtain ⟨C0, h39, kx, sx, HR⟩ := id C
  obtain ⟨⟨gk_1, G28_1, GK_1⟩, ⟨gs_1, G33_1, GS_1⟩, AK_1, AS_1, NE_1, NQ_1, LE_1⟩ := id HR
  refine mm_enter hl (by decide +kernel) rfl rfl rfl (Nat.le_of_ble_eq_true rfl) ?_
  show mT _ _ _ _ 0 [.ref 27, .int row, .int (mb (isGreatest)), .double 0, .double 0, .double 0, .double 0, .double 0] [] _ _ 0 0
  rcases hq2 : inN 4 row with _ | r3
  · refine mt_aload_n dX4_end_0 rfl rfl ?_
    refine mt_iload_n dX4_end_1 rfl ?_
    refine mt_callS (N := mX4_isRow) (Rc := rX4_isRow) (As := [.int row]) (st := [.ref 27]) dX4_end_2 (kX4_isRow hl) sX4_isRow mw_1083 rfl (Nat.le_of_ble_eq_true rfl) ⟨⟨Nat.le_of_ble_eq_true rfl, Nat.le_of_ble_eq_true rfl⟩, Nat.le_of_ble_eq_true rfl, Nat.le_of_ble_eq_true rfl⟩ (fun v4 h5 n6 c7 => ?_) (fun _ _ _ hx => hx.elim)
    obtain ⟨c7a, c7b, c7c⟩ := c7
    rw [show (inN 4 row).isSome = false from by rw [hq2]; rfl] at c7a
    rw [c7a, c7b, c7c]
    show mT _ _ _ _ 5 [.ref 27, .int row, .int (mb (isGreatest)), .double 0, .double 0, .double 0, .double 0, .double 0] [.int (nI 0), .ref 27] _ _ _ _
    refine mt_iconst dX4_end_5 (v := nI 1) rfl ?_
    refine mt_callV (N := mX4_isLet) (Rc := rX4_isLet) (As := [.int (nI 0), .int (nI 1)]) (st := []) dX4_end_6 (kX4_isLet (t := false) (f := true) hl C0) sX4_isLet mw_1092 mKX4 rfl C0 rfl (Nat.le_of_ble_eq_true rfl) ⟨⟨Nat.le_of_ble_eq_true rfl, Nat.le_of_ble_eq_true rfl⟩, Nat.le_of_ble_eq_true rfl, Nat.le_of_ble_eq_true rfl⟩ (fun v8 h9 n10 c11 => ?_) (fun _ _ _ hx => hx.elim)
    obtain ⟨c11a, c11b, c11c, c11d⟩ := c11
    rw [c11a, c11b]
    show mT _ _ _ _ 9 [.ref 27, .int row, .int (mb (isGreatest)), .double 0, .double 0, .double 0, .double 0, .double 0] [.int (nI 0)] _ _ _ _
    refine mt_if_ne dX4_end_9 (tgt := 14) rfl (fun q12 => ?_) (fun q12 => ?_)
    · have q12 := (not_congr (mI_eq0 (by omega))).mp q12
      exact absurd q12 (by decide)
    · have q12 := (mI_eq0 (by omega)).mp q12
      refine mt_iconst dX4_end_12 (v := nI 0) rfl ?_
      refine mt_ireturn dX4_end_13 rfl rfl (Nat.le_of_ble_eq_true rfl) (Nat.le_of_ble_eq_true rfl) ?_
      exact mOkq.no (k := 1) (S' := S) (by simp only [mp_end, dAt_n (k := 4) (x := row) hq2, if_pos q12]) (by decide) rfl (by omega) c11c (by omega) (mRows.fr (n' := n) HR (by omega) (fun j j1 j2 j3 => c11d (j) (by omega)) (by omega)) (fun j hj => c11d j (by omega))
  · obtain ⟨hr3, rfl⟩ := inN_of hq2 (by first | decide | omega)
    obtain ⟨⟨ka_13, kb_13, kc_13, kd_13⟩, kf_13, ke_13, kg_13⟩ := AK_1 r3 hr3
    obtain ⟨⟨sa_13, sb_13, sc_13, sd_13⟩, sf_13, se_13, sg_13⟩ := AS_1 r3 hr3
    have kn_13 := NE_1 r3 r3 hr3 hr3
    have kl_13 := LE_1 r3 hr3
    have km_13 := rroom_le (r := r3)
    refine mt_aload_n dX4_end_0 rfl rfl ?_
    refine mt_iload_n dX4_end_1 rfl ?_
    refine mt_callS (N := mX4_isRow) (Rc := rX4_isRow) (As := [.int (nI r3)]) (st := [.ref 27]) dX4_end_2 (kX4_isRow hl) sX4_isRow mw_1083 rfl (Nat.le_of_ble_eq_true rfl) ⟨⟨Nat.le_of_ble_eq_true rfl, Nat.le_of_ble_eq_true rfl⟩, Nat.le_of_ble_eq_true rfl, Nat.le_of_ble_eq_true rfl⟩ (fun v14 h15 n16 c17 => ?_) (fun _ _ _ hx => hx.elim)
    obtain ⟨c17a, c17b, c17c⟩ := c17
    rw [show (inN 4 (nI r3)).isSome = true from by rw [inN_some hr3 (by decide)]; rfl] at c17a
    rw [c17a, c17b, c17c]
    show mT _ _ _ _ 5 [.ref 27, .int (nI r3), .int (mb (isGreatest)), .double 0, .double 0, .double 0, .double 0, .double 0] [.int (nI 1), .ref 27] _ _ _ _
    refine mt_iconst dX4_end_5 (v := nI 1) rfl ?_
    refine mt_callV (N := mX4_isLet) (Rc := rX4_isLet) (As := [.int (nI 1), .int (nI 1)]) (st := []) dX4_end_6 (kX4_isLet (t := true) (f := true) hl C0) sX4_isLet mw_1092 mKX4 rfl C0 rfl (Nat.le_of_ble_eq_true rfl) ⟨⟨Nat.le_of_ble_eq_true rfl, Nat.le_of_ble_eq_true rfl⟩, Nat.le_of_ble_eq_true rfl, Nat.le_of_ble_eq_true rfl⟩ (fun v18 h19 n20 c21 => ?_) (fun _ _ _ hx => hx.elim)
    obtain ⟨c21a, c21b, c21c, c21d⟩ := c21
    rw [c21a, c21b]
    show mT _ _ _ _ 9 [.ref 27, .int (nI r3), .int (mb (isGreatest)), .double 0, .double 0, .double 0, .double 0, .double 0] [.int (nI 1)] _ _ _ _
    refine mt_if_ne dX4_end_9 (tgt := 14) rfl (fun q22 => ?_) (fun q22 => ?_)
    · have q22 := (not_congr (mI_eq0 (by omega))).mp q22
      refine mt_ldc (v := (-100000)) dX4_end_14 mw_1315 ?_
      refine mp_istore_n dX4_end_16 (ls' := [.ref 27, .int (nI r3), .int (mb (isGreatest)), .int (-100000), .double 0, .double 0, .double 0, .double 0]) rfl (by decide) rfl ?_
      refine mt_aload_n dX4_end_17 rfl rfl ?_
      refine mt_getfield mKX4 (i := 0) (by decide) mw_1053 dX4_end_18 c21c rfl ?_
      refine mt_iload_n dX4_end_21 rfl ?_
      refine mp_aaload dX4_end_22 ((c21d (28) (by omega)).trans G28_1) (fun _ => rfl) rfl rfl (by omega) (by omega) (v := .ref (kx r3)) (by rw [GK_1 _ (by omega)]; rfl) ?_
      refine mp_astore dX4_end_23 (ls' := [.ref 27, .int (nI r3), .int (mb (isGreatest)), .int (-100000), .ref (kx r3), .double 0, .double 0, .double 0]) rfl rfl (by decide) rfl ?_
      refine mt_aload dX4_end_25 rfl rfl ?_
      refine mt_alen dX4_end_27 ((c21d (kx r3) (by omega)).trans ke_13) (by decide) ?_
      refine mp_istore dX4_end_28 (ls' := [.ref 27, .int (nI r3), .int (mb (isGreatest)), .int (-100000), .ref (kx r3), .int (nI ((S.1 r3).length)), .double 0, .double 0]) rfl (by decide) rfl ?_
      refine mt_iconst dX4_end_30 (v := nI 0) rfl ?_
      refine mp_istore dX4_end_31 (ls' := [.ref 27, .int (nI r3), .int (mb (isGreatest)), .int (-100000), .ref (kx r3), .int (nI ((S.1 r3).length)), .int (nI 0), .double 0]) rfl (by decide) rfl ?_
      refine tX4_end_33 hl c21c (mRows.fr (n' := n) HR (by omega) (fun j j1 j2 j3 => c21d (j) (by omega)) (by omega)) (by omega) hr3 (fun its_23 k_24 z25 => ?_) _ 0 (-100000) (Nat.lt_succ_self _) rfl (by omega)
      refine mt_iload_n dX4_end_84 rfl ?_
      refine mt_ireturn dX4_end_85 rfl rfl (Nat.le_of_ble_eq_true rfl) (Nat.le_of_ble_eq_true rfl) ?_
      exact mOkq.of (x := .int its_23) (S' := ((S).1, S.2.1, S.2.2.1, S.2.2.2.1, S.2.2.2.2)) (by simp only [mp_end, dAt_s (k := 4) hr3 (by first | decide | omega), if_neg q22]; exact congrArg (fun x => ((0 : Nat), Value.int (x), S)) z25.symm) rfl (by omega) c21c (by omega) (mRows.fr (n' := n) HR (by omega) (fun j j1 j2 j3 => c21d (j) (by omega)) (by omega)) (fun j hj => c21d j (by omega))
    · have q22 := (mI_eq0 (by omega)).mp q22
      exact absurd q22 (by decide)
abbrev rX4_unlike_ : Room := { frames := 2, cells := 0, slots := 0, locals := 42 }
set_option maxRecDepth 100000 in
set_option maxHeartbeats 2000000 in
theorem tX4_unlike__18 {l : Launch} {K : mK} {h : mH} {n : Nat} {S : cS} {kx sx : Nat → Nat} {g ac rf kn th : Int32} {r : Nat} {r9 : Int32}  (hl : l.stackTraces = false) (C0 : h 27 = .inr (.inr (6, [.ref 28, .ref 33, .int g, .int ac, .int rf, .int kn, .int th]))) (HR : mRows h n S kx sx) (h39 : 39 ≤ n) (hr : r < 4) (kk0 : ∀ (acc : Int32) (k : Nat), (acc = r9) → mT l mX4_unlike_ rX4_unlike_ K 52 [.ref 27, .int (nI r), .int acc, .int (nI k)] [] h n 0 0) : ∀ (N0 : Nat) (k : Nat) (acc : Int32), ((S.1 r).length - k) < N0 → (mlp (ulS (S.1 r)) ((S.1 r).length - k) k acc = r9) → (k ≤ (S.1 r).length) → mT l mX4_unlike_ rX4_unlike_ K 18 [.ref 27, .int (nI r), .int acc, .int (nI k)] [] h n 0 0 := by
  intro N0
  induction N0 with
  | zero => intro k acc hm; exact absurd hm (Nat.not_lt_zero _)
  | succ N0 ih =>
    intro k acc hm hr9 hi9
    obtain ⟨⟨gk_1, G28_1, GK_1⟩, ⟨gs_1, G33_1, GS_1⟩, AK_1, AS_1, NE_1, NQ_1, LE_1⟩ := id HR
    obtain ⟨⟨ka_2, kb_2, kc_2, kd_2⟩, kf_2, ke_2, kg_2⟩ := AK_1 r hr
    obtain ⟨⟨sa_2, sb_2, sc_2, sd_2⟩, sf_2, se_2, sg_2⟩ := AS_1 r hr
    have kn_2 := NE_1 r r hr hr
    have kl_2 := LE_1 r hr
    have km_2 := rroom_le (r := r)
    refine mt_iload_n dX4_unlike__18 rfl ?_
    refine mt_aload_n dX4_unlike__19 rfl rfl ?_
    refine mt_getfield mKX4 (i := 0) (by decide) mw_1053 dX4_unlike__20 C0 rfl ?_
    refine mt_iload_n dX4_unlike__23 rfl ?_
    refine mp_aaload dX4_unlike__24 G28_1 (fun _ => rfl) rfl rfl (by omega) (by omega) (v := .ref (kx r)) (by rw [GK_1 _ (by omega)]; rfl) ?_
    refine mt_alen dX4_unlike__25 ke_2 (by decide) ?_
    refine mt_icmp_ge dX4_unlike__26 (tgt := 52) rfl (fun q3 => ?_) (fun q3 => ?_)
    · have q3 := Int32.not_lt.mpr q3
      have q3 := (not_congr (nI_ltI (by omega) (by omega))).mp q3
      exact kk0 acc k ((mlp_end (f := ulS (S.1 r)) (by omega)).symm.trans hr9)
    · have q3 := Int32.not_le.mp q3
      have q3 := (nI_ltI (by omega) (by omega)).mp q3
      refine mt_iload_n dX4_unlike__29 rfl ?_
      refine mt_aload_n dX4_unlike__30 rfl rfl ?_
      refine mt_iload_n dX4_unlike__31 rfl ?_
      refine mt_iload_n dX4_unlike__32 rfl ?_
      refine mt_callV (N := mX4_isNew) (Rc := rX4_isNew) (As := [.int (nI r), .int (nI k)]) (st := [.int acc]) dX4_unlike__33 (kX4_isNew hl C0 HR (by omega) (by omega)) sX4_isNew mw_1320 mKX4 rfl C0 rfl (Nat.le_of_ble_eq_true rfl) ⟨⟨Nat.le_of_ble_eq_true rfl, Nat.le_of_ble_eq_true rfl⟩, Nat.le_of_ble_eq_true rfl, Nat.le_of_ble_eq_true rfl⟩ (fun v4 h5 n6 c7 => ?_) (fun _ _ _ hx => hx.elim)
      obtain ⟨c7a, c7b, c7c⟩ := c7
      rw [c7a, c7b, c7c]
      show mT _ _ _ _ 36 [.ref 27, .int (nI r), .int acc, .int (nI k)] [.int (mb (mq_isNew (S.1 r) k)), .int acc] _ _ _ _
      refine mt_if_eq dX4_unlike__36 (tgt := 43) rfl (fun q8 => ?_) (fun q8 => ?_)
      · have q8 : (mq_isNew (S.1 r) k) = false := mb_0.mp q8
        refine mt_iconst dX4_unlike__43 (v := nI 0) rfl ?_
        refine mp_iadd dX4_unlike__44 (v := acc + (nI 0)) rfl ?_
        refine mp_istore_n dX4_unlike__45 (ls' := [.ref 27, .int (nI r), .int (acc + (nI 0)), .int (nI k)]) rfl (by decide) rfl ?_
        refine mp_iinc dX4_unlike__46 rfl (v := nI (k + 1)) mI_inc (ls' := [.ref 27, .int (nI r), .int (acc + (nI 0)), .int (nI (k + 1))]) rfl (by decide) rfl ?_
        refine mt_goto dX4_unlike__49 (tgt := 18) rfl ?_
        exact ih (k + 1) (acc + (nI 0)) (by omega) ((mlp_go (f := ulS (S.1 r)) (by omega) (by simp [ulS, q3, q8, nI_0, mI_one] <;> rfl)).symm.trans hr9) (by omega)
      · have q8 : (mq_isNew (S.1 r) k) = true := mb_1.mp q8
        refine mt_iconst dX4_unlike__39 (v := nI 1) rfl ?_
        refine mt_goto dX4_unlike__40 (tgt := 44) rfl ?_
        refine mp_iadd dX4_unlike__44 (v := acc + (nI 1)) rfl ?_
        refine mp_istore_n dX4_unlike__45 (ls' := [.ref 27, .int (nI r), .int (acc + (nI 1)), .int (nI k)]) rfl (by decide) rfl ?_
        refine mp_iinc dX4_unlike__46 rfl (v := nI (k + 1)) mI_inc (ls' := [.ref 27, .int (nI r), .int (acc + (nI 1)), .int (nI (k + 1))]) rfl (by decide) rfl ?_
        refine mt_goto dX4_unlike__49 (tgt := 18) rfl ?_
        exact ih (k + 1) (acc + (nI 1)) (by omega) ((mlp_go (f := ulS (S.1 r)) (by omega) (by simp [ulS, q3, q8, nI_0, mI_one] <;> rfl)).symm.trans hr9) (by omega)
def mp_unlike (S : cS) (row : Int32) : Nat × Value × cS := dAt S 4 row fun r => (0, .int (mlp (ulS (S.1 r)) ((S.1 r).length - 0) 0 (nI 0)), S)
set_option maxRecDepth 100000 in
set_option maxHeartbeats 2000000 in
theorem kX4_unlike_ {l : Launch} (hl : l.stackTraces = false) {h : mH} {n : Nat} {S : cS} {th : Int32} {row : Int32} (C : mAt h n S th) : mC l mX4_unlike_ rX4_unlike_ [.ref 27, .int row] h n (mOkq (mp_unlike S row) (.int (nI 0)) h n) (mNX) := by
  obtain ⟨C0, h39, kx, sx, HR⟩ := id C
  obtain ⟨⟨gk_1, G28_1, GK_1⟩, ⟨gs_1, G33_1, GS_1⟩, AK_1, AS_1, NE_1, NQ_1, LE_1⟩ := id HR
  refine mm_enter hl (by decide +kernel) rfl rfl rfl (Nat.le_of_ble_eq_true rfl) ?_
  show mT _ _ _ _ 0 [.ref 27, .int row, .double 0, .double 0] [] _ _ 0 0
  rcases hq2 : inN 4 row with _ | r3
  · refine mt_aload_n dX4_unlike__0 rfl rfl ?_
    refine mt_iload_n dX4_unlike__1 rfl ?_
    refine mt_callS (N := mX4_isRow) (Rc := rX4_isRow) (As := [.int row]) (st := [.ref 27]) dX4_unlike__2 (kX4_isRow hl) sX4_isRow mw_1083 rfl (Nat.le_of_ble_eq_true rfl) ⟨⟨Nat.le_of_ble_eq_true rfl, Nat.le_of_ble_eq_true rfl⟩, Nat.le_of_ble_eq_true rfl, Nat.le_of_ble_eq_true rfl⟩ (fun v4 h5 n6 c7 => ?_) (fun _ _ _ hx => hx.elim)
    obtain ⟨c7a, c7b, c7c⟩ := c7
    rw [show (inN 4 row).isSome = false from by rw [hq2]; rfl] at c7a
    rw [c7a, c7b, c7c]
    show mT _ _ _ _ 5 [.ref 27, .int row, .double 0, .double 0] [.int (nI 0), .ref 27] _ _ _ _
    refine mt_iconst dX4_unlike__5 (v := nI 1) rfl ?_
    refine mt_callV (N := mX4_isLet) (Rc := rX4_isLet) (As := [.int (nI 0), .int (nI 1)]) (st := []) dX4_unlike__6 (kX4_isLet (t := false) (f := true) hl C0) sX4_isLet mw_1092 mKX4 rfl C0 rfl (Nat.le_of_ble_eq_true rfl) ⟨⟨Nat.le_of_ble_eq_true rfl, Nat.le_of_ble_eq_true rfl⟩, Nat.le_of_ble_eq_true rfl, Nat.le_of_ble_eq_true rfl⟩ (fun v8 h9 n10 c11 => ?_) (fun _ _ _ hx => hx.elim)
    obtain ⟨c11a, c11b, c11c, c11d⟩ := c11
    rw [c11a, c11b]
    show mT _ _ _ _ 9 [.ref 27, .int row, .double 0, .double 0] [.int (nI 0)] _ _ _ _
    refine mt_if_ne dX4_unlike__9 (tgt := 14) rfl (fun q12 => ?_) (fun q12 => ?_)
    · have q12 := (not_congr (mI_eq0 (by omega))).mp q12
      exact absurd q12 (by decide)
    · have q12 := (mI_eq0 (by omega)).mp q12
      refine mt_iconst dX4_unlike__12 (v := nI 0) rfl ?_
      refine mt_ireturn dX4_unlike__13 rfl rfl (Nat.le_of_ble_eq_true rfl) (Nat.le_of_ble_eq_true rfl) ?_
      exact mOkq.no (k := 1) (S' := S) (by simp only [mp_unlike, dAt_n (k := 4) (x := row) hq2, if_pos q12]) (by decide) rfl (by omega) c11c (by omega) (mRows.fr (n' := n) HR (by omega) (fun j j1 j2 j3 => c11d (j) (by omega)) (by omega)) (fun j hj => c11d j (by omega))
  · obtain ⟨hr3, rfl⟩ := inN_of hq2 (by first | decide | omega)
    obtain ⟨⟨ka_13, kb_13, kc_13, kd_13⟩, kf_13, ke_13, kg_13⟩ := AK_1 r3 hr3
    obtain ⟨⟨sa_13, sb_13, sc_13, sd_13⟩, sf_13, se_13, sg_13⟩ := AS_1 r3 hr3
    have kn_13 := NE_1 r3 r3 hr3 hr3
    have kl_13 := LE_1 r3 hr3
    have km_13 := rroom_le (r := r3)
    refine mt_aload_n dX4_unlike__0 rfl rfl ?_
    refine mt_iload_n dX4_unlike__1 rfl ?_
    refine mt_callS (N := mX4_isRow) (Rc := rX4_isRow) (As := [.int (nI r3)]) (st := [.ref 27]) dX4_unlike__2 (kX4_isRow hl) sX4_isRow mw_1083 rfl (Nat.le_of_ble_eq_true rfl) ⟨⟨Nat.le_of_ble_eq_true rfl, Nat.le_of_ble_eq_true rfl⟩, Nat.le_of_ble_eq_true rfl, Nat.le_of_ble_eq_true rfl⟩ (fun v14 h15 n16 c17 => ?_) (fun _ _ _ hx => hx.elim)
    obtain ⟨c17a, c17b, c17c⟩ := c17
    rw [show (inN 4 (nI r3)).isSome = true from by rw [inN_some hr3 (by decide)]; rfl] at c17a
    rw [c17a, c17b, c17c]
    show mT _ _ _ _ 5 [.ref 27, .int (nI r3), .double 0, .double 0] [.int (nI 1), .ref 27] _ _ _ _
    refine mt_iconst dX4_unlike__5 (v := nI 1) rfl ?_
    refine mt_callV (N := mX4_isLet) (Rc := rX4_isLet) (As := [.int (nI 1), .int (nI 1)]) (st := []) dX4_unlike__6 (kX4_isLet (t := true) (f := true) hl C0) sX4_isLet mw_1092 mKX4 rfl C0 rfl (Nat.le_of_ble_eq_true rfl) ⟨⟨Nat.le_of_ble_eq_true rfl, Nat.le_of_ble_eq_true rfl⟩, Nat.le_of_ble_eq_true rfl, Nat.le_of_ble_eq_true rfl⟩ (fun v18 h19 n20 c21 => ?_) (fun _ _ _ hx => hx.elim)
    obtain ⟨c21a, c21b, c21c, c21d⟩ := c21
    rw [c21a, c21b]
    show mT _ _ _ _ 9 [.ref 27, .int (nI r3), .double 0, .double 0] [.int (nI 1)] _ _ _ _
    refine mt_if_ne dX4_unlike__9 (tgt := 14) rfl (fun q22 => ?_) (fun q22 => ?_)
    · have q22 := (not_congr (mI_eq0 (by omega))).mp q22
      refine mt_iconst dX4_unlike__14 (v := nI 0) rfl ?_
      refine mp_istore_n dX4_unlike__15 (ls' := [.ref 27, .int (nI r3), .int (nI 0), .double 0]) rfl (by decide) rfl ?_
      refine mt_iconst dX4_unlike__16 (v := nI 0) rfl ?_
      refine mp_istore_n dX4_unlike__17 (ls' := [.ref 27, .int (nI r3), .int (nI 0), .int (nI 0)]) rfl (by decide) rfl ?_
      refine tX4_unlike__18 hl c21c (mRows.fr (n' := n) HR (by omega) (fun j j1 j2 j3 => c21d (j) (by omega)) (by omega)) (by omega) hr3 (fun acc_23 k_24 z25 => ?_) _ 0 (nI 0) (Nat.lt_succ_self _) rfl (by omega)
      refine mt_iload_n dX4_unlike__52 rfl ?_
      refine mt_ireturn dX4_unlike__53 rfl rfl (Nat.le_of_ble_eq_true rfl) (Nat.le_of_ble_eq_true rfl) ?_
      exact mOkq.of (x := .int acc_23) (S' := ((S).1, S.2.1, S.2.2.1, S.2.2.2.1, S.2.2.2.2)) (by simp only [mp_unlike, dAt_s (k := 4) hr3 (by first | decide | omega), if_neg q22]; exact congrArg (fun x => ((0 : Nat), Value.int (x), S)) z25.symm) rfl (by omega) c21c (by omega) (mRows.fr (n' := n) HR (by omega) (fun j j1 j2 j3 => c21d (j) (by omega)) (by omega)) (fun j hj => c21d j (by omega))
    · have q22 := (mI_eq0 (by omega)).mp q22
      exact absurd q22 (by decide)
abbrev rX4_most : Room := { frames := 2, cells := 0, slots := 0, locals := 49 }
set_option maxRecDepth 100000 in
set_option maxHeartbeats 2000000 in
theorem tX4_most_35 {l : Launch} {K : mK} {h : mH} {n : Nat} {S : cS} {kx sx : Nat → Nat} {g ac rf kn th : Int32} {r : Nat} {r9 : Int32 × Int32}  (hl : l.stackTraces = false) (C0 : h 27 = .inr (.inr (6, [.ref 28, .ref 33, .int g, .int ac, .int rf, .int kn, .int th]))) (HR : mRows h n S kx sx) (h39 : 39 ≤ n) (hr : r < 4) (kk0 : ∀ (its : Int32) (many : Int32) (k : Nat), ((its, many) = r9) → mT l mX4_most rX4_most K 92 [.ref 27, .int (nI r), .int its, .int many, .ref (kx r), .int (nI ((S.1 r).length)), .int (nI k), .double 0, .double 0] [] h n 0 0) : ∀ (N0 : Nat) (k : Nat) (its : Int32) (many : Int32), ((S.1 r).length - k) < N0 → (mlp (moS (S.1 r)) ((S.1 r).length - k) k (its, many) = r9) → (k ≤ (S.1 r).length) → mT l mX4_most rX4_most K 35 [.ref 27, .int (nI r), .int its, .int many, .ref (kx r), .int (nI ((S.1 r).length)), .int (nI k), .double 0, .double 0] [] h n 0 0 := by
  intro N0
  induction N0 with
  | zero => intro k its many hm; exact absurd hm (Nat.not_lt_zero _)
  | succ N0 ih =>
    intro k its many hm hr9 hi9
    obtain ⟨⟨gk_1, G28_1, GK_1⟩, ⟨gs_1, G33_1, GS_1⟩, AK_1, AS_1, NE_1, NQ_1, LE_1⟩ := id HR
    obtain ⟨⟨ka_2, kb_2, kc_2, kd_2⟩, kf_2, ke_2, kg_2⟩ := AK_1 r hr
    obtain ⟨⟨sa_2, sb_2, sc_2, sd_2⟩, sf_2, se_2, sg_2⟩ := AS_1 r hr
    have kn_2 := NE_1 r r hr hr
    have kl_2 := LE_1 r hr
    have km_2 := rroom_le (r := r)
    refine mt_iload dX4_most_35 rfl ?_
    refine mt_iload dX4_most_37 rfl ?_
    refine mt_icmp_ge dX4_most_39 (tgt := 92) rfl (fun q3 => ?_) (fun q3 => ?_)
    · have q3 := Int32.not_lt.mpr q3
      have q3 := (not_congr (nI_ltI (by omega) (by omega))).mp q3
      exact kk0 its many k ((mlp_end (f := moS (S.1 r)) (by omega)).symm.trans hr9)
    · have q3 := Int32.not_le.mp q3
      have q3 := (nI_ltI (by omega) (by omega)).mp q3
      refine mt_aload dX4_most_42 rfl rfl ?_
      refine mt_iload dX4_most_44 rfl ?_
      refine mp_iaload dX4_most_46 ke_2 rfl (by omega) (by omega) (v := xk (S.1 r) k) (kg_2 _ (by omega)) ?_
      refine mp_istore dX4_most_47 (ls' := [.ref 27, .int (nI r), .int its, .int many, .ref (kx r), .int (nI ((S.1 r).length)), .int (nI k), .int (xk (S.1 r) k), .double 0]) rfl (by decide) rfl ?_
      refine mt_aload_n dX4_most_49 rfl rfl ?_
      refine mt_iload_n dX4_most_50 rfl ?_
      refine mt_iload dX4_most_51 rfl ?_
      refine mt_iconst dX4_most_53 (v := nI 0) rfl ?_
      refine mt_callV (N := mX4_often) (Rc := rX4_often) (As := [.int (nI r), .int (xk (S.1 r) k), .int (nI 0)]) (st := []) dX4_most_54 (kX4_often hl C0 HR (by omega)) sX4_often mw_1299 mKX4 rfl C0 rfl (Nat.le_of_ble_eq_true rfl) ⟨⟨Nat.le_of_ble_eq_true rfl, Nat.le_of_ble_eq_true rfl⟩, Nat.le_of_ble_eq_true rfl, Nat.le_of_ble_eq_true rfl⟩ (fun v4 h5 n6 c7 => ?_) (fun _ _ _ hx => hx.elim)
      obtain ⟨c7a, c7b, c7c⟩ := c7
      rw [c7a, c7b, c7c]
      show mT _ _ _ _ 57 [.ref 27, .int (nI r), .int its, .int many, .ref (kx r), .int (nI ((S.1 r).length)), .int (nI k), .int (xk (S.1 r) k), .double 0] [.int (mq_often (S.1 r) (xk (S.1 r) k) (nI 0))] _ _ _ _
      refine mp_istore dX4_most_57 (ls' := [.ref 27, .int (nI r), .int its, .int many, .ref (kx r), .int (nI ((S.1 r).length)), .int (nI k), .int (xk (S.1 r) k), .int (mq_often (S.1 r) (xk (S.1 r) k) (nI 0))]) rfl (by decide) rfl ?_
      refine mt_iload dX4_most_59 rfl ?_
      refine mt_iload_n dX4_most_61 rfl ?_
      refine mt_icmp_lt dX4_most_62 (tgt := 86) rfl (fun q8 => ?_) (fun q8 => ?_)
      · refine mp_iinc dX4_most_86 rfl (v := nI (k + 1)) mI_inc (ls' := [.ref 27, .int (nI r), .int its, .int many, .ref (kx r), .int (nI ((S.1 r).length)), .int (nI (k + 1)), .int (xk (S.1 r) k), .int (mq_often (S.1 r) (xk (S.1 r) k) (nI 0))]) rfl (by decide) rfl ?_
        refine mt_goto dX4_most_89 (tgt := 35) rfl ?_
        refine mt_drop 7 (ls' := [.ref 27, .int (nI r), .int its, .int many, .ref (kx r), .int (nI ((S.1 r).length)), .int (nI (k + 1)), .double 0, .int (mq_often (S.1 r) (xk (S.1 r) k) (nI 0))]) rfl ?_
        refine mt_drop 8 (ls' := [.ref 27, .int (nI r), .int its, .int many, .ref (kx r), .int (nI ((S.1 r).length)), .int (nI (k + 1)), .double 0, .double 0]) rfl ?_
        exact ih (k + 1) its many (by omega) ((mlp_go (f := moS (S.1 r)) (by omega) (by unfold moS; simp only [if_pos q8])).symm.trans hr9) (by omega)
      · refine mt_iload dX4_most_65 rfl ?_
        refine mt_iload_n dX4_most_67 rfl ?_
        refine mt_icmp_ne dX4_most_68 (tgt := 80) rfl (fun q9 => ?_) (fun q9 => ?_)
        · refine mt_iload dX4_most_80 rfl ?_
          refine mp_istore_n dX4_most_82 (ls' := [.ref 27, .int (nI r), .int (xk (S.1 r) k), .int many, .ref (kx r), .int (nI ((S.1 r).length)), .int (nI k), .int (xk (S.1 r) k), .int (mq_often (S.1 r) (xk (S.1 r) k) (nI 0))]) rfl (by decide) rfl ?_
          refine mt_iload dX4_most_83 rfl ?_
          refine mp_istore_n dX4_most_85 (ls' := [.ref 27, .int (nI r), .int (xk (S.1 r) k), .int (mq_often (S.1 r) (xk (S.1 r) k) (nI 0)), .ref (kx r), .int (nI ((S.1 r).length)), .int (nI k), .int (xk (S.1 r) k), .int (mq_often (S.1 r) (xk (S.1 r) k) (nI 0))]) rfl (by decide) rfl ?_
          refine mp_iinc dX4_most_86 rfl (v := nI (k + 1)) mI_inc (ls' := [.ref 27, .int (nI r), .int (xk (S.1 r) k), .int (mq_often (S.1 r) (xk (S.1 r) k) (nI 0)), .ref (kx r), .int (nI ((S.1 r).length)), .int (nI (k + 1)), .int (xk (S.1 r) k), .int (mq_often (S.1 r) (xk (S.1 r) k) (nI 0))]) rfl (by decide) rfl ?_
          refine mt_goto dX4_most_89 (tgt := 35) rfl ?_
          refine mt_drop 7 (ls' := [.ref 27, .int (nI r), .int (xk (S.1 r) k), .int (mq_often (S.1 r) (xk (S.1 r) k) (nI 0)), .ref (kx r), .int (nI ((S.1 r).length)), .int (nI (k + 1)), .double 0, .int (mq_often (S.1 r) (xk (S.1 r) k) (nI 0))]) rfl ?_
          refine mt_drop 8 (ls' := [.ref 27, .int (nI r), .int (xk (S.1 r) k), .int (mq_often (S.1 r) (xk (S.1 r) k) (nI 0)), .ref (kx r), .int (nI ((S.1 r).length)), .int (nI (k + 1)), .double 0, .double 0]) rfl ?_
          exact ih (k + 1) (xk (S.1 r) k) (mq_often (S.1 r) (xk (S.1 r) k) (nI 0)) (by omega) ((mlp_go (f := moS (S.1 r)) (by omega) (by unfold moS; simp only [if_neg q8, if_neg q9])).symm.trans hr9) (by omega)
        · refine mt_iload dX4_most_71 rfl ?_
          refine mt_iload_n dX4_most_73 rfl ?_
          refine mt_icmp_lt dX4_most_74 (tgt := 80) rfl (fun q10 => ?_) (fun q10 => ?_)
          · refine mt_iload dX4_most_80 rfl ?_
            refine mp_istore_n dX4_most_82 (ls' := [.ref 27, .int (nI r), .int (xk (S.1 r) k), .int many, .ref (kx r), .int (nI ((S.1 r).length)), .int (nI k), .int (xk (S.1 r) k), .int (mq_often (S.1 r) (xk (S.1 r) k) (nI 0))]) rfl (by decide) rfl ?_
            refine mt_iload dX4_most_83 rfl ?_
            refine mp_istore_n dX4_most_85 (ls' := [.ref 27, .int (nI r), .int (xk (S.1 r) k), .int (mq_often (S.1 r) (xk (S.1 r) k) (nI 0)), .ref (kx r), .int (nI ((S.1 r).length)), .int (nI k), .int (xk (S.1 r) k), .int (mq_often (S.1 r) (xk (S.1 r) k) (nI 0))]) rfl (by decide) rfl ?_
            refine mp_iinc dX4_most_86 rfl (v := nI (k + 1)) mI_inc (ls' := [.ref 27, .int (nI r), .int (xk (S.1 r) k), .int (mq_often (S.1 r) (xk (S.1 r) k) (nI 0)), .ref (kx r), .int (nI ((S.1 r).length)), .int (nI (k + 1)), .int (xk (S.1 r) k), .int (mq_often (S.1 r) (xk (S.1 r) k) (nI 0))]) rfl (by decide) rfl ?_
            refine mt_goto dX4_most_89 (tgt := 35) rfl ?_
            refine mt_drop 7 (ls' := [.ref 27, .int (nI r), .int (xk (S.1 r) k), .int (mq_often (S.1 r) (xk (S.1 r) k) (nI 0)), .ref (kx r), .int (nI ((S.1 r).length)), .int (nI (k + 1)), .double 0, .int (mq_often (S.1 r) (xk (S.1 r) k) (nI 0))]) rfl ?_
            refine mt_drop 8 (ls' := [.ref 27, .int (nI r), .int (xk (S.1 r) k), .int (mq_often (S.1 r) (xk (S.1 r) k) (nI 0)), .ref (kx r), .int (nI ((S.1 r).length)), .int (nI (k + 1)), .double 0, .double 0]) rfl ?_
            exact ih (k + 1) (xk (S.1 r) k) (mq_often (S.1 r) (xk (S.1 r) k) (nI 0)) (by omega) ((mlp_go (f := moS (S.1 r)) (by omega) (by unfold moS; simp only [if_neg q8, if_pos q9, if_pos q10])).symm.trans hr9) (by omega)
          · refine mt_goto dX4_most_77 (tgt := 86) rfl ?_
            refine mp_iinc dX4_most_86 rfl (v := nI (k + 1)) mI_inc (ls' := [.ref 27, .int (nI r), .int its, .int many, .ref (kx r), .int (nI ((S.1 r).length)), .int (nI (k + 1)), .int (xk (S.1 r) k), .int (mq_often (S.1 r) (xk (S.1 r) k) (nI 0))]) rfl (by decide) rfl ?_
            refine mt_goto dX4_most_89 (tgt := 35) rfl ?_
            refine mt_drop 7 (ls' := [.ref 27, .int (nI r), .int its, .int many, .ref (kx r), .int (nI ((S.1 r).length)), .int (nI (k + 1)), .double 0, .int (mq_often (S.1 r) (xk (S.1 r) k) (nI 0))]) rfl ?_
            refine mt_drop 8 (ls' := [.ref 27, .int (nI r), .int its, .int many, .ref (kx r), .int (nI ((S.1 r).length)), .int (nI (k + 1)), .double 0, .double 0]) rfl ?_
            exact ih (k + 1) its many (by omega) ((mlp_go (f := moS (S.1 r)) (by omega) (by unfold moS; simp only [if_neg q8, if_pos q9, if_neg q10])).symm.trans hr9) (by omega)
def mp_most (S : cS) (row : Int32) : Nat × Value × cS := dAt S 4 row fun r => (0, .int (mlp (moS (S.1 r)) ((S.1 r).length - 0) 0 ((-100000), nI 0)).1, S)
set_option maxRecDepth 100000 in
set_option maxHeartbeats 2000000 in
theorem kX4_most {l : Launch} (hl : l.stackTraces = false) {h : mH} {n : Nat} {S : cS} {th : Int32} {row : Int32} (C : mAt h n S th) : mC l mX4_most rX4_most [.ref 27, .int row] h n (mOkq (mp_most S row) (.int (nI 0)) h n) (mNX) := by
  obtain ⟨C0, h39, kx, sx, HR⟩ := id C
  obtain ⟨⟨gk_1, G28_1, GK_1⟩, ⟨gs_1, G33_1, GS_1⟩, AK_1, AS_1, NE_1, NQ_1, LE_1⟩ := id HR
  refine mm_enter hl (by decide +kernel) rfl rfl rfl (Nat.le_of_ble_eq_true rfl) ?_
  show mT _ _ _ _ 0 [.ref 27, .int row, .double 0, .double 0, .double 0, .double 0, .double 0, .double 0, .double 0] [] _ _ 0 0
  rcases hq2 : inN 4 row with _ | r3
  · refine mt_aload_n dX4_most_0 rfl rfl ?_
    refine mt_iload_n dX4_most_1 rfl ?_
    refine mt_callS (N := mX4_isRow) (Rc := rX4_isRow) (As := [.int row]) (st := [.ref 27]) dX4_most_2 (kX4_isRow hl) sX4_isRow mw_1083 rfl (Nat.le_of_ble_eq_true rfl) ⟨⟨Nat.le_of_ble_eq_true rfl, Nat.le_of_ble_eq_true rfl⟩, Nat.le_of_ble_eq_true rfl, Nat.le_of_ble_eq_true rfl⟩ (fun v4 h5 n6 c7 => ?_) (fun _ _ _ hx => hx.elim)
    obtain ⟨c7a, c7b, c7c⟩ := c7
    rw [show (inN 4 row).isSome = false from by rw [hq2]; rfl] at c7a
    rw [c7a, c7b, c7c]
    show mT _ _ _ _ 5 [.ref 27, .int row, .double 0, .double 0, .double 0, .double 0, .double 0, .double 0, .double 0] [.int (nI 0), .ref 27] _ _ _ _
    refine mt_iconst dX4_most_5 (v := nI 1) rfl ?_
    refine mt_callV (N := mX4_isLet) (Rc := rX4_isLet) (As := [.int (nI 0), .int (nI 1)]) (st := []) dX4_most_6 (kX4_isLet (t := false) (f := true) hl C0) sX4_isLet mw_1092 mKX4 rfl C0 rfl (Nat.le_of_ble_eq_true rfl) ⟨⟨Nat.le_of_ble_eq_true rfl, Nat.le_of_ble_eq_true rfl⟩, Nat.le_of_ble_eq_true rfl, Nat.le_of_ble_eq_true rfl⟩ (fun v8 h9 n10 c11 => ?_) (fun _ _ _ hx => hx.elim)
    obtain ⟨c11a, c11b, c11c, c11d⟩ := c11
    rw [c11a, c11b]
    show mT _ _ _ _ 9 [.ref 27, .int row, .double 0, .double 0, .double 0, .double 0, .double 0, .double 0, .double 0] [.int (nI 0)] _ _ _ _
    refine mt_if_ne dX4_most_9 (tgt := 14) rfl (fun q12 => ?_) (fun q12 => ?_)
    · have q12 := (not_congr (mI_eq0 (by omega))).mp q12
      exact absurd q12 (by decide)
    · have q12 := (mI_eq0 (by omega)).mp q12
      refine mt_iconst dX4_most_12 (v := nI 0) rfl ?_
      refine mt_ireturn dX4_most_13 rfl rfl (Nat.le_of_ble_eq_true rfl) (Nat.le_of_ble_eq_true rfl) ?_
      exact mOkq.no (k := 1) (S' := S) (by simp only [mp_most, dAt_n (k := 4) (x := row) hq2, if_pos q12]) (by decide) rfl (by omega) c11c (by omega) (mRows.fr (n' := n) HR (by omega) (fun j j1 j2 j3 => c11d (j) (by omega)) (by omega)) (fun j hj => c11d j (by omega))
  · obtain ⟨hr3, rfl⟩ := inN_of hq2 (by first | decide | omega)
    obtain ⟨⟨ka_13, kb_13, kc_13, kd_13⟩, kf_13, ke_13, kg_13⟩ := AK_1 r3 hr3
    obtain ⟨⟨sa_13, sb_13, sc_13, sd_13⟩, sf_13, se_13, sg_13⟩ := AS_1 r3 hr3
    have kn_13 := NE_1 r3 r3 hr3 hr3
    have kl_13 := LE_1 r3 hr3
    have km_13 := rroom_le (r := r3)
    refine mt_aload_n dX4_most_0 rfl rfl ?_
    refine mt_iload_n dX4_most_1 rfl ?_
    refine mt_callS (N := mX4_isRow) (Rc := rX4_isRow) (As := [.int (nI r3)]) (st := [.ref 27]) dX4_most_2 (kX4_isRow hl) sX4_isRow mw_1083 rfl (Nat.le_of_ble_eq_true rfl) ⟨⟨Nat.le_of_ble_eq_true rfl, Nat.le_of_ble_eq_true rfl⟩, Nat.le_of_ble_eq_true rfl, Nat.le_of_ble_eq_true rfl⟩ (fun v14 h15 n16 c17 => ?_) (fun _ _ _ hx => hx.elim)
    obtain ⟨c17a, c17b, c17c⟩ := c17
    rw [show (inN 4 (nI r3)).isSome = true from by rw [inN_some hr3 (by decide)]; rfl] at c17a
    rw [c17a, c17b, c17c]
    show mT _ _ _ _ 5 [.ref 27, .int (nI r3), .double 0, .double 0, .double 0, .double 0, .double 0, .double 0, .double 0] [.int (nI 1), .ref 27] _ _ _ _
    refine mt_iconst dX4_most_5 (v := nI 1) rfl ?_
    refine mt_callV (N := mX4_isLet) (Rc := rX4_isLet) (As := [.int (nI 1), .int (nI 1)]) (st := []) dX4_most_6 (kX4_isLet (t := true) (f := true) hl C0) sX4_isLet mw_1092 mKX4 rfl C0 rfl (Nat.le_of_ble_eq_true rfl) ⟨⟨Nat.le_of_ble_eq_true rfl, Nat.le_of_ble_eq_true rfl⟩, Nat.le_of_ble_eq_true rfl, Nat.le_of_ble_eq_true rfl⟩ (fun v18 h19 n20 c21 => ?_) (fun _ _ _ hx => hx.elim)
    obtain ⟨c21a, c21b, c21c, c21d⟩ := c21
    rw [c21a, c21b]
    show mT _ _ _ _ 9 [.ref 27, .int (nI r3), .double 0, .double 0, .double 0, .double 0, .double 0, .double 0, .double 0] [.int (nI 1)] _ _ _ _
    refine mt_if_ne dX4_most_9 (tgt := 14) rfl (fun q22 => ?_) (fun q22 => ?_)
    · have q22 := (not_congr (mI_eq0 (by omega))).mp q22
      refine mt_ldc (v := (-100000)) dX4_most_14 mw_1315 ?_
      refine mp_istore_n dX4_most_16 (ls' := [.ref 27, .int (nI r3), .int (-100000), .double 0, .double 0, .double 0, .double 0, .double 0, .double 0]) rfl (by decide) rfl ?_
      refine mt_iconst dX4_most_17 (v := nI 0) rfl ?_
      refine mp_istore_n dX4_most_18 (ls' := [.ref 27, .int (nI r3), .int (-100000), .int (nI 0), .double 0, .double 0, .double 0, .double 0, .double 0]) rfl (by decide) rfl ?_
      refine mt_aload_n dX4_most_19 rfl rfl ?_
      refine mt_getfield mKX4 (i := 0) (by decide) mw_1053 dX4_most_20 c21c rfl ?_
      refine mt_iload_n dX4_most_23 rfl ?_
      refine mp_aaload dX4_most_24 ((c21d (28) (by omega)).trans G28_1) (fun _ => rfl) rfl rfl (by omega) (by omega) (v := .ref (kx r3)) (by rw [GK_1 _ (by omega)]; rfl) ?_
      refine mp_astore dX4_most_25 (ls' := [.ref 27, .int (nI r3), .int (-100000), .int (nI 0), .ref (kx r3), .double 0, .double 0, .double 0, .double 0]) rfl rfl (by decide) rfl ?_
      refine mt_aload dX4_most_27 rfl rfl ?_
      refine mt_alen dX4_most_29 ((c21d (kx r3) (by omega)).trans ke_13) (by decide) ?_
      refine mp_istore dX4_most_30 (ls' := [.ref 27, .int (nI r3), .int (-100000), .int (nI 0), .ref (kx r3), .int (nI ((S.1 r3).length)), .double 0, .double 0, .double 0]) rfl (by decide) rfl ?_
      refine mt_iconst dX4_most_32 (v := nI 0) rfl ?_
      refine mp_istore dX4_most_33 (ls' := [.ref 27, .int (nI r3), .int (-100000), .int (nI 0), .ref (kx r3), .int (nI ((S.1 r3).length)), .int (nI 0), .double 0, .double 0]) rfl (by decide) rfl ?_
      refine tX4_most_35 hl c21c (mRows.fr (n' := n) HR (by omega) (fun j j1 j2 j3 => c21d (j) (by omega)) (by omega)) (by omega) hr3 (fun its_23 many_24 k_25 z26 => ?_) _ 0 (-100000) (nI 0) (Nat.lt_succ_self _) rfl (by omega)
      refine mt_iload_n dX4_most_92 rfl ?_
      refine mt_ireturn dX4_most_93 rfl rfl (Nat.le_of_ble_eq_true rfl) (Nat.le_of_ble_eq_true rfl) ?_
      exact mOkq.of (x := .int its_23) (S' := ((S).1, S.2.1, S.2.2.1, S.2.2.2.1, S.2.2.2.2)) (by simp only [mp_most, dAt_s (k := 4) hr3 (by first | decide | omega), if_neg q22]; exact congrArg (fun x => ((0 : Nat), Value.int (x.1), S)) z26.symm) rfl (by omega) c21c (by omega) (mRows.fr (n' := n) HR (by omega) (fun j j1 j2 j3 => c21d (j) (by omega)) (by omega)) (fun j hj => c21d j (by omega))
    · have q22 := (mI_eq0 (by omega)).mp q22
      exact absurd q22 (by decide)
abbrev rX4_sum : Room := { frames := 2, cells := 0, slots := 0, locals := 42 }
set_option maxRecDepth 100000 in
set_option maxHeartbeats 2000000 in
theorem tX4_sum_30 {l : Launch} {R : Room} {K : mK} {cc sc : Nat} {h : mH} {n : Nat} {S : cS} {kx sx : Nat → Nat} {g ac rf kn th : Int32} {r : Nat} {r9 : Int32}  (C0 : h 27 = .inr (.inr (6, [.ref 28, .ref 33, .int g, .int ac, .int rf, .int kn, .int th]))) (HR : mRows h n S kx sx) (h39 : 39 ≤ n) (hr : r < 4) (kk0 : ∀ (acc : Int32) (k : Nat), (acc = r9) → mT l mX4_sum R K 54 [.ref 27, .int (nI r), .int acc, .ref (kx r), .int (nI ((S.1 r).length)), .int (nI k), .double 0] [] h n cc sc) : ∀ (N0 : Nat) (k : Nat) (acc : Int32), ((S.1 r).length - k) < N0 → (mlp (suS (S.1 r)) ((S.1 r).length - k) k acc = r9) → (k ≤ (S.1 r).length) → mT l mX4_sum R K 30 [.ref 27, .int (nI r), .int acc, .ref (kx r), .int (nI ((S.1 r).length)), .int (nI k), .double 0] [] h n cc sc := by
  intro N0
  induction N0 with
  | zero => intro k acc hm; exact absurd hm (Nat.not_lt_zero _)
  | succ N0 ih =>
    intro k acc hm hr9 hi9
    obtain ⟨⟨gk_1, G28_1, GK_1⟩, ⟨gs_1, G33_1, GS_1⟩, AK_1, AS_1, NE_1, NQ_1, LE_1⟩ := id HR
    obtain ⟨⟨ka_2, kb_2, kc_2, kd_2⟩, kf_2, ke_2, kg_2⟩ := AK_1 r hr
    obtain ⟨⟨sa_2, sb_2, sc_2, sd_2⟩, sf_2, se_2, sg_2⟩ := AS_1 r hr
    have kn_2 := NE_1 r r hr hr
    have kl_2 := LE_1 r hr
    have km_2 := rroom_le (r := r)
    refine mt_iload dX4_sum_30 rfl ?_
    refine mt_iload dX4_sum_32 rfl ?_
    refine mt_icmp_ge dX4_sum_34 (tgt := 54) rfl (fun q3 => ?_) (fun q3 => ?_)
    · have q3 := Int32.not_lt.mpr q3
      have q3 := (not_congr (nI_ltI (by omega) (by omega))).mp q3
      exact kk0 acc k ((mlp_end (f := suS (S.1 r)) (by omega)).symm.trans hr9)
    · have q3 := Int32.not_le.mp q3
      have q3 := (nI_ltI (by omega) (by omega)).mp q3
      refine mt_aload_n dX4_sum_37 rfl rfl ?_
      refine mt_iload dX4_sum_38 rfl ?_
      refine mp_iaload dX4_sum_40 ke_2 rfl (by omega) (by omega) (v := xk (S.1 r) k) (kg_2 _ (by omega)) ?_
      refine mp_istore dX4_sum_41 (ls' := [.ref 27, .int (nI r), .int acc, .ref (kx r), .int (nI ((S.1 r).length)), .int (nI k), .int (xk (S.1 r) k)]) rfl (by decide) rfl ?_
      refine mt_iload_n dX4_sum_43 rfl ?_
      refine mt_iload dX4_sum_44 rfl ?_
      refine mp_iadd dX4_sum_46 (v := acc + (xk (S.1 r) k)) rfl ?_
      refine mp_istore_n dX4_sum_47 (ls' := [.ref 27, .int (nI r), .int (acc + (xk (S.1 r) k)), .ref (kx r), .int (nI ((S.1 r).length)), .int (nI k), .int (xk (S.1 r) k)]) rfl (by decide) rfl ?_
      refine mp_iinc dX4_sum_48 rfl (v := nI (k + 1)) mI_inc (ls' := [.ref 27, .int (nI r), .int (acc + (xk (S.1 r) k)), .ref (kx r), .int (nI ((S.1 r).length)), .int (nI (k + 1)), .int (xk (S.1 r) k)]) rfl (by decide) rfl ?_
      refine mt_goto dX4_sum_51 (tgt := 30) rfl ?_
      refine mt_drop 6 (ls' := [.ref 27, .int (nI r), .int (acc + (xk (S.1 r) k)), .ref (kx r), .int (nI ((S.1 r).length)), .int (nI (k + 1)), .double 0]) rfl ?_
      exact ih (k + 1) (acc + (xk (S.1 r) k)) (by omega) ((mlp_go (f := suS (S.1 r)) (by omega) rfl).symm.trans hr9) (by omega)
def mp_sum (S : cS) (row : Int32) : Nat × Value × cS := dAt S 4 row fun r => (0, .int (mlp (suS (S.1 r)) ((S.1 r).length - 0) 0 (nI 0)), S)
set_option maxRecDepth 100000 in
set_option maxHeartbeats 2000000 in
theorem kX4_sum {l : Launch} (hl : l.stackTraces = false) {h : mH} {n : Nat} {S : cS} {th : Int32} {row : Int32} (C : mAt h n S th) : mC l mX4_sum rX4_sum [.ref 27, .int row] h n (mOkq (mp_sum S row) (.int (nI 0)) h n) (mNX) := by
  obtain ⟨C0, h39, kx, sx, HR⟩ := id C
  obtain ⟨⟨gk_1, G28_1, GK_1⟩, ⟨gs_1, G33_1, GS_1⟩, AK_1, AS_1, NE_1, NQ_1, LE_1⟩ := id HR
  refine mm_enter hl (by decide +kernel) rfl rfl rfl (Nat.le_of_ble_eq_true rfl) ?_
  show mT _ _ _ _ 0 [.ref 27, .int row, .double 0, .double 0, .double 0, .double 0, .double 0] [] _ _ 0 0
  rcases hq2 : inN 4 row with _ | r3
  · refine mt_aload_n dX4_sum_0 rfl rfl ?_
    refine mt_iload_n dX4_sum_1 rfl ?_
    refine mt_callS (N := mX4_isRow) (Rc := rX4_isRow) (As := [.int row]) (st := [.ref 27]) dX4_sum_2 (kX4_isRow hl) sX4_isRow mw_1083 rfl (Nat.le_of_ble_eq_true rfl) ⟨⟨Nat.le_of_ble_eq_true rfl, Nat.le_of_ble_eq_true rfl⟩, Nat.le_of_ble_eq_true rfl, Nat.le_of_ble_eq_true rfl⟩ (fun v4 h5 n6 c7 => ?_) (fun _ _ _ hx => hx.elim)
    obtain ⟨c7a, c7b, c7c⟩ := c7
    rw [show (inN 4 row).isSome = false from by rw [hq2]; rfl] at c7a
    rw [c7a, c7b, c7c]
    show mT _ _ _ _ 5 [.ref 27, .int row, .double 0, .double 0, .double 0, .double 0, .double 0] [.int (nI 0), .ref 27] _ _ _ _
    refine mt_iconst dX4_sum_5 (v := nI 1) rfl ?_
    refine mt_callV (N := mX4_isLet) (Rc := rX4_isLet) (As := [.int (nI 0), .int (nI 1)]) (st := []) dX4_sum_6 (kX4_isLet (t := false) (f := true) hl C0) sX4_isLet mw_1092 mKX4 rfl C0 rfl (Nat.le_of_ble_eq_true rfl) ⟨⟨Nat.le_of_ble_eq_true rfl, Nat.le_of_ble_eq_true rfl⟩, Nat.le_of_ble_eq_true rfl, Nat.le_of_ble_eq_true rfl⟩ (fun v8 h9 n10 c11 => ?_) (fun _ _ _ hx => hx.elim)
    obtain ⟨c11a, c11b, c11c, c11d⟩ := c11
    rw [c11a, c11b]
    show mT _ _ _ _ 9 [.ref 27, .int row, .double 0, .double 0, .double 0, .double 0, .double 0] [.int (nI 0)] _ _ _ _
    refine mt_if_ne dX4_sum_9 (tgt := 14) rfl (fun q12 => ?_) (fun q12 => ?_)
    · have q12 := (not_congr (mI_eq0 (by omega))).mp q12
      exact absurd q12 (by decide)
    · have q12 := (mI_eq0 (by omega)).mp q12
      refine mt_iconst dX4_sum_12 (v := nI 0) rfl ?_
      refine mt_ireturn dX4_sum_13 rfl rfl (Nat.le_of_ble_eq_true rfl) (Nat.le_of_ble_eq_true rfl) ?_
      exact mOkq.no (k := 1) (S' := S) (by simp only [mp_sum, dAt_n (k := 4) (x := row) hq2, if_pos q12]) (by decide) rfl (by omega) c11c (by omega) (mRows.fr (n' := n) HR (by omega) (fun j j1 j2 j3 => c11d (j) (by omega)) (by omega)) (fun j hj => c11d j (by omega))
  · obtain ⟨hr3, rfl⟩ := inN_of hq2 (by first | decide | omega)
    obtain ⟨⟨ka_13, kb_13, kc_13, kd_13⟩, kf_13, ke_13, kg_13⟩ := AK_1 r3 hr3
    obtain ⟨⟨sa_13, sb_13, sc_13, sd_13⟩, sf_13, se_13, sg_13⟩ := AS_1 r3 hr3
    have kn_13 := NE_1 r3 r3 hr3 hr3
    have kl_13 := LE_1 r3 hr3
    have km_13 := rroom_le (r := r3)
    refine mt_aload_n dX4_sum_0 rfl rfl ?_
    refine mt_iload_n dX4_sum_1 rfl ?_
    refine mt_callS (N := mX4_isRow) (Rc := rX4_isRow) (As := [.int (nI r3)]) (st := [.ref 27]) dX4_sum_2 (kX4_isRow hl) sX4_isRow mw_1083 rfl (Nat.le_of_ble_eq_true rfl) ⟨⟨Nat.le_of_ble_eq_true rfl, Nat.le_of_ble_eq_true rfl⟩, Nat.le_of_ble_eq_true rfl, Nat.le_of_ble_eq_true rfl⟩ (fun v14 h15 n16 c17 => ?_) (fun _ _ _ hx => hx.elim)
    obtain ⟨c17a, c17b, c17c⟩ := c17
    rw [show (inN 4 (nI r3)).isSome = true from by rw [inN_some hr3 (by decide)]; rfl] at c17a
    rw [c17a, c17b, c17c]
    show mT _ _ _ _ 5 [.ref 27, .int (nI r3), .double 0, .double 0, .double 0, .double 0, .double 0] [.int (nI 1), .ref 27] _ _ _ _
    refine mt_iconst dX4_sum_5 (v := nI 1) rfl ?_
    refine mt_callV (N := mX4_isLet) (Rc := rX4_isLet) (As := [.int (nI 1), .int (nI 1)]) (st := []) dX4_sum_6 (kX4_isLet (t := true) (f := true) hl C0) sX4_isLet mw_1092 mKX4 rfl C0 rfl (Nat.le_of_ble_eq_true rfl) ⟨⟨Nat.le_of_ble_eq_true rfl, Nat.le_of_ble_eq_true rfl⟩, Nat.le_of_ble_eq_true rfl, Nat.le_of_ble_eq_true rfl⟩ (fun v18 h19 n20 c21 => ?_) (fun _ _ _ hx => hx.elim)
    obtain ⟨c21a, c21b, c21c, c21d⟩ := c21
    rw [c21a, c21b]
    show mT _ _ _ _ 9 [.ref 27, .int (nI r3), .double 0, .double 0, .double 0, .double 0, .double 0] [.int (nI 1)] _ _ _ _
    refine mt_if_ne dX4_sum_9 (tgt := 14) rfl (fun q22 => ?_) (fun q22 => ?_)
    · have q22 := (not_congr (mI_eq0 (by omega))).mp q22
      refine mt_iconst dX4_sum_14 (v := nI 0) rfl ?_
      refine mp_istore_n dX4_sum_15 (ls' := [.ref 27, .int (nI r3), .int (nI 0), .double 0, .double 0, .double 0, .double 0]) rfl (by decide) rfl ?_
      refine mt_aload_n dX4_sum_16 rfl rfl ?_
      refine mt_getfield mKX4 (i := 0) (by decide) mw_1053 dX4_sum_17 c21c rfl ?_
      refine mt_iload_n dX4_sum_20 rfl ?_
      refine mp_aaload dX4_sum_21 ((c21d (28) (by omega)).trans G28_1) (fun _ => rfl) rfl rfl (by omega) (by omega) (v := .ref (kx r3)) (by rw [GK_1 _ (by omega)]; rfl) ?_
      refine mp_astore_n dX4_sum_22 (ls' := [.ref 27, .int (nI r3), .int (nI 0), .ref (kx r3), .double 0, .double 0, .double 0]) rfl rfl (by decide) rfl ?_
      refine mt_aload_n dX4_sum_23 rfl rfl ?_
      refine mt_alen dX4_sum_24 ((c21d (kx r3) (by omega)).trans ke_13) (by decide) ?_
      refine mp_istore dX4_sum_25 (ls' := [.ref 27, .int (nI r3), .int (nI 0), .ref (kx r3), .int (nI ((S.1 r3).length)), .double 0, .double 0]) rfl (by decide) rfl ?_
      refine mt_iconst dX4_sum_27 (v := nI 0) rfl ?_
      refine mp_istore dX4_sum_28 (ls' := [.ref 27, .int (nI r3), .int (nI 0), .ref (kx r3), .int (nI ((S.1 r3).length)), .int (nI 0), .double 0]) rfl (by decide) rfl ?_
      refine tX4_sum_30 c21c (mRows.fr (n' := n) HR (by omega) (fun j j1 j2 j3 => c21d (j) (by omega)) (by omega)) (by omega) hr3 (fun acc_23 k_24 z25 => ?_) _ 0 (nI 0) (Nat.lt_succ_self _) rfl (by omega)
      refine mt_iload_n dX4_sum_54 rfl ?_
      refine mt_ireturn dX4_sum_55 rfl rfl (Nat.le_of_ble_eq_true rfl) (Nat.le_of_ble_eq_true rfl) ?_
      exact mOkq.of (x := .int acc_23) (S' := ((S).1, S.2.1, S.2.2.1, S.2.2.2.1, S.2.2.2.2)) (by simp only [mp_sum, dAt_s (k := 4) hr3 (by first | decide | omega), if_neg q22]; exact congrArg (fun x => ((0 : Nat), Value.int (x), S)) z25.symm) rfl (by omega) c21c (by omega) (mRows.fr (n' := n) HR (by omega) (fun j j1 j2 j3 => c21d (j) (by omega)) (by omega)) (fun j hj => c21d j (by omega))
    · have q22 := (mI_eq0 (by omega)).mp q22
      exact absurd q22 (by decide)

/-! ===== the reference: more questions ===== -/
def mp_same (S : cS) (row : Int32) (other : Int32) : Nat × Value × cS := dAt S 4 row fun r => dAt S 4 other fun q => (0, .int (mb (decide ((S.1 r).length = (S.1 q).length) && decide (mlp (unlF (xk (S.1 r)) (xk (S.1 q))) ((S.1 r).length - 0) 0 (nI 0) = 0))), S)
abbrev rX4_same : Room := { frames := 2, cells := 0, slots := 0, locals := 42 }
set_option maxRecDepth 100000 in
set_option maxHeartbeats 2000000 in
theorem kX4_same {l : Launch} (hl : l.stackTraces = false) {h : mH} {n : Nat} {S : cS} {th : Int32} {row : Int32} {other : Int32} (C : mAt h n S th) : mC l mX4_same rX4_same [.ref 27, .int row, .int other] h n (mOkq (mp_same S row other) (.int (nI 0)) h n) (mNX) := by
  obtain ⟨C0, h39, kx, sx, HR⟩ := id C
  obtain ⟨⟨gk_1, G28_1, GK_1⟩, ⟨gs_1, G33_1, GS_1⟩, AK_1, AS_1, NE_1, NQ_1, LE_1⟩ := id HR
  refine mm_enter hl (by decide +kernel) rfl rfl rfl (Nat.le_of_ble_eq_true rfl) ?_
  show mT _ _ _ _ 0 [.ref 27, .int row, .int other] [] _ _ 0 0
  rcases hq2 : inN 4 row with _ | r3
  · refine mt_aload_n dX4_same_0 rfl rfl ?_
    refine mt_iload_n dX4_same_1 rfl ?_
    refine mt_callS (N := mX4_isRow) (Rc := rX4_isRow) (As := [.int row]) (st := [.ref 27]) dX4_same_2 (kX4_isRow hl) sX4_isRow mw_1083 rfl (Nat.le_of_ble_eq_true rfl) ⟨⟨Nat.le_of_ble_eq_true rfl, Nat.le_of_ble_eq_true rfl⟩, Nat.le_of_ble_eq_true rfl, Nat.le_of_ble_eq_true rfl⟩ (fun v4 h5 n6 c7 => ?_) (fun _ _ _ hx => hx.elim)
    obtain ⟨c7a, c7b, c7c⟩ := c7
    rw [show (inN 4 row).isSome = false from by rw [hq2]; rfl] at c7a
    rw [c7a, c7b, c7c]
    show mT _ _ _ _ 5 [.ref 27, .int row, .int other] [.int (nI 0), .ref 27] _ _ _ _
    refine mt_if_eq dX4_same_5 (tgt := 19) rfl (fun q8 => ?_) (fun q8 => ?_)
    · have q8 := (mI_eq0 (by omega)).mp q8
      refine mt_iconst dX4_same_19 (v := nI 0) rfl ?_
      refine mt_iconst dX4_same_20 (v := nI 1) rfl ?_
      refine mt_callV (N := mX4_isLet) (Rc := rX4_isLet) (As := [.int (nI 0), .int (nI 1)]) (st := []) dX4_same_21 (kX4_isLet (t := false) (f := true) hl C0) sX4_isLet mw_1092 mKX4 rfl C0 rfl (Nat.le_of_ble_eq_true rfl) ⟨⟨Nat.le_of_ble_eq_true rfl, Nat.le_of_ble_eq_true rfl⟩, Nat.le_of_ble_eq_true rfl, Nat.le_of_ble_eq_true rfl⟩ (fun v9 h10 n11 c12 => ?_) (fun _ _ _ hx => hx.elim)
      obtain ⟨c12a, c12b, c12c, c12d⟩ := c12
      rw [c12a, c12b]
      show mT _ _ _ _ 24 [.ref 27, .int row, .int other] [.int (nI 0)] _ _ _ _
      refine mt_if_eq dX4_same_24 (tgt := 66) rfl (fun q13 => ?_) (fun q13 => ?_)
      · have q13 := (mI_eq0 (by omega)).mp q13
        refine mt_iconst dX4_same_66 (v := nI 0) rfl ?_
        refine mt_ireturn dX4_same_67 rfl rfl (Nat.le_of_ble_eq_true rfl) (Nat.le_of_ble_eq_true rfl) ?_
        exact mOkq.no (k := 1) (S' := S) (by simp only [mp_same, dAt_n (k := 4) (x := row) hq2, if_pos q8, if_pos q13]) (by decide) rfl (by omega) c12c (by omega) (mRows.fr (n' := n) HR (by omega) (fun j j1 j2 j3 => c12d (j) (by omega)) (by omega)) (fun j hj => c12d j (by omega))
      · have q13 := (not_congr (mI_eq0 (by omega))).mp q13
        exact absurd q13 (by decide)
    · have q8 := (not_congr (mI_eq0 (by omega))).mp q8
      exact absurd q8 (by decide)
  · obtain ⟨hr3, rfl⟩ := inN_of hq2 (by first | decide | omega)
    obtain ⟨⟨ka_14, kb_14, kc_14, kd_14⟩, kf_14, ke_14, kg_14⟩ := AK_1 r3 hr3
    obtain ⟨⟨sa_14, sb_14, sc_14, sd_14⟩, sf_14, se_14, sg_14⟩ := AS_1 r3 hr3
    have kn_14 := NE_1 r3 r3 hr3 hr3
    have kl_14 := LE_1 r3 hr3
    have km_14 := rroom_le (r := r3)
    rcases hq15 : inN 4 other with _ | r16
    · refine mt_aload_n dX4_same_0 rfl rfl ?_
      refine mt_iload_n dX4_same_1 rfl ?_
      refine mt_callS (N := mX4_isRow) (Rc := rX4_isRow) (As := [.int (nI r3)]) (st := [.ref 27]) dX4_same_2 (kX4_isRow hl) sX4_isRow mw_1083 rfl (Nat.le_of_ble_eq_true rfl) ⟨⟨Nat.le_of_ble_eq_true rfl, Nat.le_of_ble_eq_true rfl⟩, Nat.le_of_ble_eq_true rfl, Nat.le_of_ble_eq_true rfl⟩ (fun v17 h18 n19 c20 => ?_) (fun _ _ _ hx => hx.elim)
      obtain ⟨c20a, c20b, c20c⟩ := c20
      rw [show (inN 4 (nI r3)).isSome = true from by rw [inN_some hr3 (by decide)]; rfl] at c20a
      rw [c20a, c20b, c20c]
      show mT _ _ _ _ 5 [.ref 27, .int (nI r3), .int other] [.int (nI 1), .ref 27] _ _ _ _
      refine mt_if_eq dX4_same_5 (tgt := 19) rfl (fun q21 => ?_) (fun q21 => ?_)
      · have q21 := (mI_eq0 (by omega)).mp q21
        exact absurd q21 (by decide)
      · have q21 := (not_congr (mI_eq0 (by omega))).mp q21
        refine mt_iload_n dX4_same_8 rfl ?_
        refine mt_callS (N := mX4_isRow) (Rc := rX4_isRow) (As := [.int other]) (st := [.ref 27]) dX4_same_9 (kX4_isRow hl) sX4_isRow mw_1083 rfl (Nat.le_of_ble_eq_true rfl) ⟨⟨Nat.le_of_ble_eq_true rfl, Nat.le_of_ble_eq_true rfl⟩, Nat.le_of_ble_eq_true rfl, Nat.le_of_ble_eq_true rfl⟩ (fun v22 h23 n24 c25 => ?_) (fun _ _ _ hx => hx.elim)
        obtain ⟨c25a, c25b, c25c⟩ := c25
        rw [show (inN 4 other).isSome = false from by rw [hq15]; rfl] at c25a
        rw [c25a, c25b, c25c]
        show mT _ _ _ _ 12 [.ref 27, .int (nI r3), .int other] [.int (nI 0), .ref 27] _ _ _ _
        refine mt_if_eq dX4_same_12 (tgt := 19) rfl (fun q26 => ?_) (fun q26 => ?_)
        · have q26 := (mI_eq0 (by omega)).mp q26
          refine mt_iconst dX4_same_19 (v := nI 0) rfl ?_
          refine mt_iconst dX4_same_20 (v := nI 1) rfl ?_
          refine mt_callV (N := mX4_isLet) (Rc := rX4_isLet) (As := [.int (nI 0), .int (nI 1)]) (st := []) dX4_same_21 (kX4_isLet (t := false) (f := true) hl C0) sX4_isLet mw_1092 mKX4 rfl C0 rfl (Nat.le_of_ble_eq_true rfl) ⟨⟨Nat.le_of_ble_eq_true rfl, Nat.le_of_ble_eq_true rfl⟩, Nat.le_of_ble_eq_true rfl, Nat.le_of_ble_eq_true rfl⟩ (fun v27 h28 n29 c30 => ?_) (fun _ _ _ hx => hx.elim)
          obtain ⟨c30a, c30b, c30c, c30d⟩ := c30
          rw [c30a, c30b]
          show mT _ _ _ _ 24 [.ref 27, .int (nI r3), .int other] [.int (nI 0)] _ _ _ _
          refine mt_if_eq dX4_same_24 (tgt := 66) rfl (fun q31 => ?_) (fun q31 => ?_)
          · have q31 := (mI_eq0 (by omega)).mp q31
            refine mt_iconst dX4_same_66 (v := nI 0) rfl ?_
            refine mt_ireturn dX4_same_67 rfl rfl (Nat.le_of_ble_eq_true rfl) (Nat.le_of_ble_eq_true rfl) ?_
            exact mOkq.no (k := 1) (S' := S) (by simp only [mp_same, dAt_s (k := 4) hr3 (by first | decide | omega), dAt_n (k := 4) (x := other) hq15, if_neg q21, if_pos q26, if_pos q31]) (by decide) rfl (by omega) c30c (by omega) (mRows.fr (n' := n) HR (by omega) (fun j j1 j2 j3 => c30d (j) (by omega)) (by omega)) (fun j hj => c30d j (by omega))
          · have q31 := (not_congr (mI_eq0 (by omega))).mp q31
            exact absurd q31 (by decide)
        · have q26 := (not_congr (mI_eq0 (by omega))).mp q26
          exact absurd q26 (by decide)
    · obtain ⟨hr16, rfl⟩ := inN_of hq15 (by first | decide | omega)
      obtain ⟨⟨ka_32, kb_32, kc_32, kd_32⟩, kf_32, ke_32, kg_32⟩ := AK_1 r16 hr16
      obtain ⟨⟨sa_32, sb_32, sc_32, sd_32⟩, sf_32, se_32, sg_32⟩ := AS_1 r16 hr16
      have kn_32 := NE_1 r16 r16 hr16 hr16
      have kl_32 := LE_1 r16 hr16
      have km_32 := rroom_le (r := r16)
      refine mt_aload_n dX4_same_0 rfl rfl ?_
      refine mt_iload_n dX4_same_1 rfl ?_
      refine mt_callS (N := mX4_isRow) (Rc := rX4_isRow) (As := [.int (nI r3)]) (st := [.ref 27]) dX4_same_2 (kX4_isRow hl) sX4_isRow mw_1083 rfl (Nat.le_of_ble_eq_true rfl) ⟨⟨Nat.le_of_ble_eq_true rfl, Nat.le_of_ble_eq_true rfl⟩, Nat.le_of_ble_eq_true rfl, Nat.le_of_ble_eq_true rfl⟩ (fun v33 h34 n35 c36 => ?_) (fun _ _ _ hx => hx.elim)
      obtain ⟨c36a, c36b, c36c⟩ := c36
      rw [show (inN 4 (nI r3)).isSome = true from by rw [inN_some hr3 (by decide)]; rfl] at c36a
      rw [c36a, c36b, c36c]
      show mT _ _ _ _ 5 [.ref 27, .int (nI r3), .int (nI r16)] [.int (nI 1), .ref 27] _ _ _ _
      refine mt_if_eq dX4_same_5 (tgt := 19) rfl (fun q37 => ?_) (fun q37 => ?_)
      · have q37 := (mI_eq0 (by omega)).mp q37
        exact absurd q37 (by decide)
      · have q37 := (not_congr (mI_eq0 (by omega))).mp q37
        refine mt_iload_n dX4_same_8 rfl ?_
        refine mt_callS (N := mX4_isRow) (Rc := rX4_isRow) (As := [.int (nI r16)]) (st := [.ref 27]) dX4_same_9 (kX4_isRow hl) sX4_isRow mw_1083 rfl (Nat.le_of_ble_eq_true rfl) ⟨⟨Nat.le_of_ble_eq_true rfl, Nat.le_of_ble_eq_true rfl⟩, Nat.le_of_ble_eq_true rfl, Nat.le_of_ble_eq_true rfl⟩ (fun v38 h39 n40 c41 => ?_) (fun _ _ _ hx => hx.elim)
        obtain ⟨c41a, c41b, c41c⟩ := c41
        rw [show (inN 4 (nI r16)).isSome = true from by rw [inN_some hr16 (by decide)]; rfl] at c41a
        rw [c41a, c41b, c41c]
        show mT _ _ _ _ 12 [.ref 27, .int (nI r3), .int (nI r16)] [.int (nI 1), .ref 27] _ _ _ _
        refine mt_if_eq dX4_same_12 (tgt := 19) rfl (fun q42 => ?_) (fun q42 => ?_)
        · have q42 := (mI_eq0 (by omega)).mp q42
          exact absurd q42 (by decide)
        · have q42 := (not_congr (mI_eq0 (by omega))).mp q42
          refine mt_iconst dX4_same_15 (v := nI 1) rfl ?_
          refine mt_goto dX4_same_16 (tgt := 20) rfl ?_
          refine mt_iconst dX4_same_20 (v := nI 1) rfl ?_
          refine mt_callV (N := mX4_isLet) (Rc := rX4_isLet) (As := [.int (nI 1), .int (nI 1)]) (st := []) dX4_same_21 (kX4_isLet (t := true) (f := true) hl C0) sX4_isLet mw_1092 mKX4 rfl C0 rfl (Nat.le_of_ble_eq_true rfl) ⟨⟨Nat.le_of_ble_eq_true rfl, Nat.le_of_ble_eq_true rfl⟩, Nat.le_of_ble_eq_true rfl, Nat.le_of_ble_eq_true rfl⟩ (fun v43 h44 n45 c46 => ?_) (fun _ _ _ hx => hx.elim)
          obtain ⟨c46a, c46b, c46c, c46d⟩ := c46
          rw [c46a, c46b]
          show mT _ _ _ _ 24 [.ref 27, .int (nI r3), .int (nI r16)] [.int (nI 1)] _ _ _ _
          refine mt_if_eq dX4_same_24 (tgt := 66) rfl (fun q47 => ?_) (fun q47 => ?_)
          · have q47 := (mI_eq0 (by omega)).mp q47
            exact absurd q47 (by decide)
          · have q47 := (not_congr (mI_eq0 (by omega))).mp q47
            refine mt_aload_n dX4_same_27 rfl rfl ?_
            refine mt_getfield mKX4 (i := 0) (by decide) mw_1053 dX4_same_28 c46c rfl ?_
            refine mt_iload_n dX4_same_31 rfl ?_
            refine mp_aaload dX4_same_32 ((c46d (28) (by omega)).trans G28_1) (fun _ => rfl) rfl rfl (by omega) (by omega) (v := .ref (kx r3)) (by rw [GK_1 _ (by omega)]; rfl) ?_
            refine mt_alen dX4_same_33 ((c46d (kx r3) (by omega)).trans ke_14) (by decide) ?_
            refine mt_aload_n dX4_same_34 rfl rfl ?_
            refine mt_getfield mKX4 (i := 0) (by decide) mw_1053 dX4_same_35 c46c rfl ?_
            refine mt_iload_n dX4_same_38 rfl ?_
            refine mp_aaload dX4_same_39 ((c46d (28) (by omega)).trans G28_1) (fun _ => rfl) rfl rfl (by omega) (by omega) (v := .ref (kx r16)) (by rw [GK_1 _ (by omega)]; rfl) ?_
            refine mt_alen dX4_same_40 ((c46d (kx r16) (by omega)).trans ke_32) (by decide) ?_
            refine mt_icmp_ne dX4_same_41 (tgt := 66) rfl (fun q48 => ?_) (fun q48 => ?_)
            · have q48 := (not_congr (nI_eq (by omega) (by omega))).mp q48
              refine mt_iconst dX4_same_66 (v := nI 0) rfl ?_
              refine mt_ireturn dX4_same_67 rfl rfl (Nat.le_of_ble_eq_true rfl) (Nat.le_of_ble_eq_true rfl) ?_
              exact mOkq.of (x := .int (nI 0)) (S' := ((S).1, S.2.1, S.2.2.1, S.2.2.2.1, S.2.2.2.2)) (by simp only [mp_same, dAt_s (k := 4) hr3 (by first | decide | omega), dAt_s (k := 4) hr16 (by first | decide | omega)]; exact congrArg (a₂ := false) (fun b => ((0 : Nat), Value.int (mb b), S)) (by simp only [decide_eq_false q47, decide_eq_false q48, Bool.and_true, Bool.true_and, Bool.and_false, Bool.false_and])) rfl (by omega) c46c (by omega) (mRows.fr (n' := n) HR (by omega) (fun j j1 j2 j3 => c46d (j) (by omega)) (by omega)) (fun j hj => c46d j (by omega))
            · have q48 := (nI_eq (by omega) (by omega)).mp q48
              refine mt_aload_n dX4_same_44 rfl rfl ?_
              refine mt_getfield mKX4 (i := 0) (by decide) mw_1053 dX4_same_45 c46c rfl ?_
              refine mt_iload_n dX4_same_48 rfl ?_
              refine mp_aaload dX4_same_49 ((c46d (28) (by omega)).trans G28_1) (fun _ => rfl) rfl rfl (by omega) (by omega) (v := .ref (kx r3)) (by rw [GK_1 _ (by omega)]; rfl) ?_
              refine mt_aload_n dX4_same_50 rfl rfl ?_
              refine mt_getfield mKX4 (i := 0) (by decide) mw_1053 dX4_same_51 c46c rfl ?_
              refine mt_iload_n dX4_same_54 rfl ?_
              refine mp_aaload dX4_same_55 ((c46d (28) (by omega)).trans G28_1) (fun _ => rfl) rfl rfl (by omega) (by omega) (v := .ref (kx r16)) (by rw [GK_1 _ (by omega)]; rfl) ?_
              refine mt_callS (N := mX4_unlike) (Rc := rX4_unlike) (As := [.ref (kx r3), .ref (kx r16)]) (st := []) dX4_same_56 (kX4_unlike hl ((c46d (kx r3) (by omega)).trans ke_14) ((c46d (kx r16) (by omega)).trans ke_32) (by omega) (by omega)) sX4_unlike mw_1169 rfl (Nat.le_of_ble_eq_true rfl) ⟨⟨Nat.le_of_ble_eq_true rfl, Nat.le_of_ble_eq_true rfl⟩, Nat.le_of_ble_eq_true rfl, Nat.le_of_ble_eq_true rfl⟩ (fun v49 h50 n51 c52 => ?_) (fun _ _ _ hx => hx.elim)
              obtain ⟨c52a, c52b, c52c⟩ := c52
              have c52u : mlp (unlF kf_14 kf_32) ((S.1 r3).length - 0) 0 (nI 0) = mlp (unlF (xk (S.1 r3)) (xk (S.1 r16))) ((S.1 r3).length - 0) 0 (nI 0) := mlp_congr (fun j b j1 j2 => by unfold unlF; rw [kg_14 j (by omega), kg_32 j (by omega)])
              rw [c52u] at c52a
              rw [c52a, c52b, c52c]
              show mT _ _ _ _ 59 [.ref 27, .int (nI r3), .int (nI r16)] [.int (mlp (unlF (xk (S.1 r3)) (xk (S.1 r16))) ((S.1 r3).length - 0) 0 (nI 0))] _ _ _ _
              refine mt_if_ne dX4_same_59 (tgt := 66) rfl (fun q53 => ?_) (fun q53 => ?_)
              · refine mt_iconst dX4_same_66 (v := nI 0) rfl ?_
                refine mt_ireturn dX4_same_67 rfl rfl (Nat.le_of_ble_eq_true rfl) (Nat.le_of_ble_eq_true rfl) ?_
                exact mOkq.of (x := .int (nI 0)) (S' := ((S).1, S.2.1, S.2.2.1, S.2.2.2.1, S.2.2.2.2)) (by simp only [mp_same, dAt_s (k := 4) hr3 (by first | decide | omega), dAt_s (k := 4) hr16 (by first | decide | omega)]; exact congrArg (a₂ := false) (fun b => ((0 : Nat), Value.int (mb b), S)) (by simp only [decide_eq_true q48, decide_eq_false q53, Bool.and_true, Bool.true_and, Bool.and_false, Bool.false_and])) rfl (by omega) c46c (by omega) (mRows.fr (n' := n) HR (by omega) (fun j j1 j2 j3 => c46d (j) (by omega)) (by omega)) (fun j hj => c46d j (by omega))
              · refine mt_iconst dX4_same_62 (v := nI 1) rfl ?_
                refine mt_goto dX4_same_63 (tgt := 67) rfl ?_
                refine mt_ireturn dX4_same_67 rfl rfl (Nat.le_of_ble_eq_true rfl) (Nat.le_of_ble_eq_true rfl) ?_
                exact mOkq.of (x := .int (nI 1)) (S' := ((S).1, S.2.1, S.2.2.1, S.2.2.2.1, S.2.2.2.2)) (by simp only [mp_same, dAt_s (k := 4) hr3 (by first | decide | omega), dAt_s (k := 4) hr16 (by first | decide | omega)]; exact congrArg (a₂ := true) (fun b => ((0 : Nat), Value.int (mb b), S)) (by simp only [decide_eq_true q48, decide_eq_true q53, Bool.and_true, Bool.true_and, Bool.and_false, Bool.false_and])) rfl (by omega) c46c (by omega) (mRows.fr (n' := n) HR (by omega) (fun j j1 j2 j3 => c46d (j) (by omega)) (by omega)) (fun j hj => c46d j (by omega))
abbrev rX4_bag : Room := { frames := 2, cells := 0, slots := 0, locals := 49 }
set_option maxRecDepth 100000 in
set_option maxHeartbeats 2000000 in
theorem tX4_bag_68 {l : Launch} {K : mK} {h : mH} {n : Nat} {S : cS} {kx sx : Nat → Nat} {g ac rf kn th : Int32} {r : Nat} {q : Nat} {r9 : Bool} (hl : l.stackTraces = false) (C0 : h 27 = .inr (.inr (6, [.ref 28, .ref 33, .int g, .int ac, .int rf, .int kn, .int th]))) (HR : mRows h n S kx sx) (h39 : 39 ≤ n) (hr : r < 4) (hq : q < 4) (kk0 : ∀ (is : Bool) (i : Nat), (is = r9) → mT l mX4_bag rX4_bag K 117 [.ref 27, .int (nI r), .int (nI q), .int (mb (is)), .ref (kx r), .int (nI ((S.1 r).length)), .int (nI i), .double 0] [] h n 0 0) : ∀ (N0 : Nat) (i : Nat) (is : Bool), ((S.1 r).length - i) < N0 → (mlp (bgS (S.1 r) (S.1 q)) ((S.1 r).length - i) i is = r9) → (i ≤ (S.1 r).length) → mT l mX4_bag rX4_bag K 68 [.ref 27, .int (nI r), .int (nI q), .int (mb (is)), .ref (kx r), .int (nI ((S.1 r).length)), .int (nI i), .double 0] [] h n 0 0 := by
  intro N0
  induction N0 with
  | zero => intro i is hm; exact absurd hm (Nat.not_lt_zero _)
  | succ N0 ih =>
    intro i is hm hr9 hi
    obtain ⟨⟨gk_1, G28_1, GK_1⟩, ⟨gs_1, G33_1, GS_1⟩, AK_1, AS_1, NE_1, NQ_1, LE_1⟩ := id HR
    obtain ⟨⟨ka_2, kb_2, kc_2, kd_2⟩, kf_2, ke_2, kg_2⟩ := AK_1 r hr
    obtain ⟨⟨sa_2, sb_2, sc_2, sd_2⟩, sf_2, se_2, sg_2⟩ := AS_1 r hr
    have kn_2 := NE_1 r r hr hr
    have kl_2 := LE_1 r hr
    have km_2 := rroom_le (r := r)
    refine mt_iload dX4_bag_68 rfl ?_
    refine mt_iload dX4_bag_70 rfl ?_
    refine mt_icmp_ge dX4_bag_72 (tgt := 117) rfl (fun q3 => ?_) (fun q3 => ?_)
    · have q3 := Int32.not_lt.mpr q3
      have q3 := (not_congr (nI_ltI (by omega) (by omega))).mp q3
      exact kk0 is i ((mlp_end (f := bgS (S.1 r) (S.1 q)) (by omega)).symm.trans hr9)
    · have q3 := Int32.not_le.mp q3
      have q3 := (nI_ltI (by omega) (by omega)).mp q3
      refine mt_aload dX4_bag_75 rfl rfl ?_
      refine mt_iload dX4_bag_77 rfl ?_
      refine mp_iaload dX4_bag_79 ke_2 rfl (by omega) (by omega) (v := xk (S.1 r) i) (kg_2 _ (by omega)) ?_
      refine mp_istore dX4_bag_80 (ls' := [.ref 27, .int (nI r), .int (nI q), .int (mb (is)), .ref (kx r), .int (nI ((S.1 r).length)), .int (nI i), .int (xk (S.1 r) i)]) rfl (by decide) rfl ?_
      refine mt_iload_n dX4_bag_82 rfl ?_
      refine mt_if_eq dX4_bag_83 (tgt := 109) rfl (fun q4 => ?_) (fun q4 => ?_)
      · have q4 : is = false := mb_0.mp q4
        refine mt_iconst dX4_bag_109 (v := nI 0) rfl ?_
        refine mp_istore_n dX4_bag_110 (ls' := [.ref 27, .int (nI r), .int (nI q), .int (nI 0), .ref (kx r), .int (nI ((S.1 r).length)), .int (nI i), .int (xk (S.1 r) i)]) rfl (by decide) rfl ?_
        refine mp_iinc dX4_bag_111 rfl (v := nI (i + 1)) mI_inc (ls' := [.ref 27, .int (nI r), .int (nI q), .int (nI 0), .ref (kx r), .int (nI ((S.1 r).length)), .int (nI (i + 1)), .int (xk (S.1 r) i)]) rfl (by decide) rfl ?_
        refine mt_goto dX4_bag_114 (tgt := 68) rfl ?_
        refine mt_drop 7 (ls' := [.ref 27, .int (nI r), .int (nI q), .int (nI 0), .ref (kx r), .int (nI ((S.1 r).length)), .int (nI (i + 1)), .double 0]) rfl ?_
        exact ih (i + 1) false (by omega) ((mlp_go (f := bgS (S.1 r) (S.1 q)) (by omega) (by simp only [bgS, q4] <;> rfl)).symm.trans hr9) (by omega)
      · have q4 : is = true := mb_1.mp q4
        refine mt_aload_n dX4_bag_86 rfl rfl ?_
        refine mt_iload_n dX4_bag_87 rfl ?_
        refine mt_iload dX4_bag_88 rfl ?_
        refine mt_iconst dX4_bag_90 (v := nI 0) rfl ?_
        refine mt_callV (N := mX4_often) (Rc := rX4_often) (As := [.int (nI r), .int (xk (S.1 r) i), .int (nI 0)]) (st := []) dX4_bag_91 (kX4_often hl C0 HR (by omega)) sX4_often mw_1299 mKX4 rfl C0 rfl (Nat.le_of_ble_eq_true rfl) ⟨⟨Nat.le_of_ble_eq_true rfl, Nat.le_of_ble_eq_true rfl⟩, Nat.le_of_ble_eq_true rfl, Nat.le_of_ble_eq_true rfl⟩ (fun v5 h6 n7 c8 => ?_) (fun _ _ _ hx => hx.elim)
        obtain ⟨c8a, c8b, c8c⟩ := c8
        rw [c8a, c8b, c8c]
        show mT _ _ _ _ 94 [.ref 27, .int (nI r), .int (nI q), .int (mb (is)), .ref (kx r), .int (nI ((S.1 r).length)), .int (nI i), .int (xk (S.1 r) i)] [.int (mq_often (S.1 r) (xk (S.1 r) i) (nI 0))] _ _ _ _
        refine mt_aload_n dX4_bag_94 rfl rfl ?_
        refine mt_iload_n dX4_bag_95 rfl ?_
        refine mt_iload dX4_bag_96 rfl ?_
        refine mt_iconst dX4_bag_98 (v := nI 0) rfl ?_
        refine mt_callV (N := mX4_often) (Rc := rX4_often) (As := [.int (nI q), .int (xk (S.1 r) i), .int (nI 0)]) (st := [.int (mq_often (S.1 r) (xk (S.1 r) i) (nI 0))]) dX4_bag_99 (kX4_often hl C0 HR (by omega)) sX4_often mw_1299 mKX4 rfl C0 rfl (Nat.le_of_ble_eq_true rfl) ⟨⟨Nat.le_of_ble_eq_true rfl, Nat.le_of_ble_eq_true rfl⟩, Nat.le_of_ble_eq_true rfl, Nat.le_of_ble_eq_true rfl⟩ (fun v9 h10 n11 c12 => ?_) (fun _ _ _ hx => hx.elim)
        obtain ⟨c12a, c12b, c12c⟩ := c12
        rw [c12a, c12b, c12c]
        show mT _ _ _ _ 102 [.ref 27, .int (nI r), .int (nI q), .int (mb (is)), .ref (kx r), .int (nI ((S.1 r).length)), .int (nI i), .int (xk (S.1 r) i)] [.int (mq_often (S.1 q) (xk (S.1 r) i) (nI 0)), .int (mq_often (S.1 r) (xk (S.1 r) i) (nI 0))] _ _ _ _
        refine mt_icmp_ne dX4_bag_102 (tgt := 109) rfl (fun q13 => ?_) (fun q13 => ?_)
        · refine mt_iconst dX4_bag_109 (v := nI 0) rfl ?_
          refine mp_istore_n dX4_bag_110 (ls' := [.ref 27, .int (nI r), .int (nI q), .int (nI 0), .ref (kx r), .int (nI ((S.1 r).length)), .int (nI i), .int (xk (S.1 r) i)]) rfl (by decide) rfl ?_
          refine mp_iinc dX4_bag_111 rfl (v := nI (i + 1)) mI_inc (ls' := [.ref 27, .int (nI r), .int (nI q), .int (nI 0), .ref (kx r), .int (nI ((S.1 r).length)), .int (nI (i + 1)), .int (xk (S.1 r) i)]) rfl (by decide) rfl ?_
          refine mt_goto dX4_bag_114 (tgt := 68) rfl ?_
          refine mt_drop 7 (ls' := [.ref 27, .int (nI r), .int (nI q), .int (nI 0), .ref (kx r), .int (nI ((S.1 r).length)), .int (nI (i + 1)), .double 0]) rfl ?_
          exact ih (i + 1) false (by omega) ((mlp_go (f := bgS (S.1 r) (S.1 q)) (by omega) (by simp only [bgS, q4, decide_eq_false q13] <;> rfl)).symm.trans hr9) (by omega)
        · refine mt_iconst dX4_bag_105 (v := nI 1) rfl ?_
          refine mt_goto dX4_bag_106 (tgt := 110) rfl ?_
          refine mp_istore_n dX4_bag_110 (ls' := [.ref 27, .int (nI r), .int (nI q), .int (nI 1), .ref (kx r), .int (nI ((S.1 r).length)), .int (nI i), .int (xk (S.1 r) i)]) rfl (by decide) rfl ?_
          refine mp_iinc dX4_bag_111 rfl (v := nI (i + 1)) mI_inc (ls' := [.ref 27, .int (nI r), .int (nI q), .int (nI 1), .ref (kx r), .int (nI ((S.1 r).length)), .int (nI (i + 1)), .int (xk (S.1 r) i)]) rfl (by decide) rfl ?_
          refine mt_goto dX4_bag_114 (tgt := 68) rfl ?_
          refine mt_drop 7 (ls' := [.ref 27, .int (nI r), .int (nI q), .int (nI 1), .ref (kx r), .int (nI ((S.1 r).length)), .int (nI (i + 1)), .double 0]) rfl ?_
          exact ih (i + 1) true (by omega) ((mlp_go (f := bgS (S.1 r) (S.1 q)) (by omega) (by simp only [bgS, q4, decide_eq_true q13] <;> rfl)).symm.trans hr9) (by omega)
def mp_bag (S : cS) (row : Int32) (other : Int32) : Nat × Value × cS := dAt S 4 row fun r => dAt S 4 other fun q => (0, .int (mb (mlp (bgS (S.1 r) (S.1 q)) ((S.1 r).length - 0) 0 (decide ((S.1 r).length = (S.1 q).length)))), S)
set_option maxRecDepth 100000 in
set_option maxHeartbeats 2000000 in
theorem kX4_bag {l : Launch} (hl : l.stackTraces = false) {h : mH} {n : Nat} {S : cS} {th : Int32} {row : Int32} {other : Int32} (C : mAt h n S th) : mC l mX4_bag rX4_bag [.ref 27, .int row, .int other] h n (mOkq (mp_bag S row other) (.int (nI 0)) h n) (mNX) := by
  obtain ⟨C0, h39, kx, sx, HR⟩ := id C
  obtain ⟨⟨gk_1, G28_1, GK_1⟩, ⟨gs_1, G33_1, GS_1⟩, AK_1, AS_1, NE_1, NQ_1, LE_1⟩ := id HR
  refine mm_enter hl (by decide +kernel) rfl rfl rfl (Nat.le_of_ble_eq_true rfl) ?_
  show mT _ _ _ _ 0 [.ref 27, .int row, .int other, .double 0, .double 0, .double 0, .double 0, .double 0] [] _ _ 0 0
  rcases hq2 : inN 4 row with _ | r3
  · refine mt_aload_n dX4_bag_0 rfl rfl ?_
    refine mt_iload_n dX4_bag_1 rfl ?_
    refine mt_callS (N := mX4_isRow) (Rc := rX4_isRow) (As := [.int row]) (st := [.ref 27]) dX4_bag_2 (kX4_isRow hl) sX4_isRow mw_1083 rfl (Nat.le_of_ble_eq_true rfl) ⟨⟨Nat.le_of_ble_eq_true rfl, Nat.le_of_ble_eq_true rfl⟩, Nat.le_of_ble_eq_true rfl, Nat.le_of_ble_eq_true rfl⟩ (fun v4 h5 n6 c7 => ?_) (fun _ _ _ hx => hx.elim)
    obtain ⟨c7a, c7b, c7c⟩ := c7
    rw [show (inN 4 row).isSome = false from by rw [hq2]; rfl] at c7a
    rw [c7a, c7b, c7c]
    show mT _ _ _ _ 5 [.ref 27, .int row, .int other, .double 0, .double 0, .double 0, .double 0, .double 0] [.int (nI 0), .ref 27] _ _ _ _
    refine mt_if_eq dX4_bag_5 (tgt := 19) rfl (fun q8 => ?_) (fun q8 => ?_)
    · have q8 := (mI_eq0 (by omega)).mp q8
      refine mt_iconst dX4_bag_19 (v := nI 0) rfl ?_
      refine mt_iconst dX4_bag_20 (v := nI 1) rfl ?_
      refine mt_callV (N := mX4_isLet) (Rc := rX4_isLet) (As := [.int (nI 0), .int (nI 1)]) (st := []) dX4_bag_21 (kX4_isLet (t := false) (f := true) hl C0) sX4_isLet mw_1092 mKX4 rfl C0 rfl (Nat.le_of_ble_eq_true rfl) ⟨⟨Nat.le_of_ble_eq_true rfl, Nat.le_of_ble_eq_true rfl⟩, Nat.le_of_ble_eq_true rfl, Nat.le_of_ble_eq_true rfl⟩ (fun v9 h10 n11 c12 => ?_) (fun _ _ _ hx => hx.elim)
      obtain ⟨c12a, c12b, c12c, c12d⟩ := c12
      rw [c12a, c12b]
      show mT _ _ _ _ 24 [.ref 27, .int row, .int other, .double 0, .double 0, .double 0, .double 0, .double 0] [.int (nI 0)] _ _ _ _
      refine mt_if_ne dX4_bag_24 (tgt := 29) rfl (fun q13 => ?_) (fun q13 => ?_)
      · have q13 := (not_congr (mI_eq0 (by omega))).mp q13
        exact absurd q13 (by decide)
      · have q13 := (mI_eq0 (by omega)).mp q13
        refine mt_iconst dX4_bag_27 (v := nI 0) rfl ?_
        refine mt_ireturn dX4_bag_28 rfl rfl (Nat.le_of_ble_eq_true rfl) (Nat.le_of_ble_eq_true rfl) ?_
        exact mOkq.no (k := 1) (S' := S) (by simp only [mp_bag, dAt_n (k := 4) (x := row) hq2, if_pos q8, if_pos q13]) (by decide) rfl (by omega) c12c (by omega) (mRows.fr (n' := n) HR (by omega) (fun j j1 j2 j3 => c12d (j) (by omega)) (by omega)) (fun j hj => c12d j (by omega))
    · have q8 := (not_congr (mI_eq0 (by omega))).mp q8
      exact absurd q8 (by decide)
  · obtain ⟨hr3, rfl⟩ := inN_of hq2 (by first | decide | omega)
    obtain ⟨⟨ka_14, kb_14, kc_14, kd_14⟩, kf_14, ke_14, kg_14⟩ := AK_1 r3 hr3
    obtain ⟨⟨sa_14, sb_14, sc_14, sd_14⟩, sf_14, se_14, sg_14⟩ := AS_1 r3 hr3
    have kn_14 := NE_1 r3 r3 hr3 hr3
    have kl_14 := LE_1 r3 hr3
    have km_14 := rroom_le (r := r3)
    rcases hq15 : inN 4 other with _ | r16
    · refine mt_aload_n dX4_bag_0 rfl rfl ?_
      refine mt_iload_n dX4_bag_1 rfl ?_
      refine mt_callS (N := mX4_isRow) (Rc := rX4_isRow) (As := [.int (nI r3)]) (st := [.ref 27]) dX4_bag_2 (kX4_isRow hl) sX4_isRow mw_1083 rfl (Nat.le_of_ble_eq_true rfl) ⟨⟨Nat.le_of_ble_eq_true rfl, Nat.le_of_ble_eq_true rfl⟩, Nat.le_of_ble_eq_true rfl, Nat.le_of_ble_eq_true rfl⟩ (fun v17 h18 n19 c20 => ?_) (fun _ _ _ hx => hx.elim)
      obtain ⟨c20a, c20b, c20c⟩ := c20
      rw [show (inN 4 (nI r3)).isSome = true from by rw [inN_some hr3 (by decide)]; rfl] at c20a
      rw [c20a, c20b, c20c]
      show mT _ _ _ _ 5 [.ref 27, .int (nI r3), .int other, .double 0, .double 0, .double 0, .double 0, .double 0] [.int (nI 1), .ref 27] _ _ _ _
      refine mt_if_eq dX4_bag_5 (tgt := 19) rfl (fun q21 => ?_) (fun q21 => ?_)
      · have q21 := (mI_eq0 (by omega)).mp q21
        exact absurd q21 (by decide)
      · have q21 := (not_congr (mI_eq0 (by omega))).mp q21
        refine mt_iload_n dX4_bag_8 rfl ?_
        refine mt_callS (N := mX4_isRow) (Rc := rX4_isRow) (As := [.int other]) (st := [.ref 27]) dX4_bag_9 (kX4_isRow hl) sX4_isRow mw_1083 rfl (Nat.le_of_ble_eq_true rfl) ⟨⟨Nat.le_of_ble_eq_true rfl, Nat.le_of_ble_eq_true rfl⟩, Nat.le_of_ble_eq_true rfl, Nat.le_of_ble_eq_true rfl⟩ (fun v22 h23 n24 c25 => ?_) (fun _ _ _ hx => hx.elim)
        obtain ⟨c25a, c25b, c25c⟩ := c25
        rw [show (inN 4 other).isSome = false from by rw [hq15]; rfl] at c25a
        rw [c25a, c25b, c25c]
        show mT _ _ _ _ 12 [.ref 27, .int (nI r3), .int other, .double 0, .double 0, .double 0, .double 0, .double 0] [.int (nI 0), .ref 27] _ _ _ _
        refine mt_if_eq dX4_bag_12 (tgt := 19) rfl (fun q26 => ?_) (fun q26 => ?_)
        · have q26 := (mI_eq0 (by omega)).mp q26
          refine mt_iconst dX4_bag_19 (v := nI 0) rfl ?_
          refine mt_iconst dX4_bag_20 (v := nI 1) rfl ?_
          refine mt_callV (N := mX4_isLet) (Rc := rX4_isLet) (As := [.int (nI 0), .int (nI 1)]) (st := []) dX4_bag_21 (kX4_isLet (t := false) (f := true) hl C0) sX4_isLet mw_1092 mKX4 rfl C0 rfl (Nat.le_of_ble_eq_true rfl) ⟨⟨Nat.le_of_ble_eq_true rfl, Nat.le_of_ble_eq_true rfl⟩, Nat.le_of_ble_eq_true rfl, Nat.le_of_ble_eq_true rfl⟩ (fun v27 h28 n29 c30 => ?_) (fun _ _ _ hx => hx.elim)
          obtain ⟨c30a, c30b, c30c, c30d⟩ := c30
          rw [c30a, c30b]
          show mT _ _ _ _ 24 [.ref 27, .int (nI r3), .int other, .double 0, .double 0, .double 0, .double 0, .double 0] [.int (nI 0)] _ _ _ _
          refine mt_if_ne dX4_bag_24 (tgt := 29) rfl (fun q31 => ?_) (fun q31 => ?_)
          · have q31 := (not_congr (mI_eq0 (by omega))).mp q31
            exact absurd q31 (by decide)
          · have q31 := (mI_eq0 (by omega)).mp q31
            refine mt_iconst dX4_bag_27 (v := nI 0) rfl ?_
            refine mt_ireturn dX4_bag_28 rfl rfl (Nat.le_of_ble_eq_true rfl) (Nat.le_of_ble_eq_true rfl) ?_
            exact mOkq.no (k := 1) (S' := S) (by simp only [mp_bag, dAt_s (k := 4) hr3 (by first | decide | omega), dAt_n (k := 4) (x := other) hq15, if_neg q21, if_pos q26, if_pos q31]) (by decide) rfl (by omega) c30c (by omega) (mRows.fr (n' := n) HR (by omega) (fun j j1 j2 j3 => c30d (j) (by omega)) (by omega)) (fun j hj => c30d j (by omega))
        · have q26 := (not_congr (mI_eq0 (by omega))).mp q26
          exact absurd q26 (by decide)
    · obtain ⟨hr16, rfl⟩ := inN_of hq15 (by first | decide | omega)
      obtain ⟨⟨ka_32, kb_32, kc_32, kd_32⟩, kf_32, ke_32, kg_32⟩ := AK_1 r16 hr16
      obtain ⟨⟨sa_32, sb_32, sc_32, sd_32⟩, sf_32, se_32, sg_32⟩ := AS_1 r16 hr16
      have kn_32 := NE_1 r16 r16 hr16 hr16
      have kl_32 := LE_1 r16 hr16
      have km_32 := rroom_le (r := r16)
      refine mt_aload_n dX4_bag_0 rfl rfl ?_
      refine mt_iload_n dX4_bag_1 rfl ?_
      refine mt_callS (N := mX4_isRow) (Rc := rX4_isRow) (As := [.int (nI r3)]) (st := [.ref 27]) dX4_bag_2 (kX4_isRow hl) sX4_isRow mw_1083 rfl (Nat.le_of_ble_eq_true rfl) ⟨⟨Nat.le_of_ble_eq_true rfl, Nat.le_of_ble_eq_true rfl⟩, Nat.le_of_ble_eq_true rfl, Nat.le_of_ble_eq_true rfl⟩ (fun v33 h34 n35 c36 => ?_) (fun _ _ _ hx => hx.elim)
      obtain ⟨c36a, c36b, c36c⟩ := c36
      rw [show (inN 4 (nI r3)).isSome = true from by rw [inN_some hr3 (by decide)]; rfl] at c36a
      rw [c36a, c36b, c36c]
      show mT _ _ _ _ 5 [.ref 27, .int (nI r3), .int (nI r16), .double 0, .double 0, .double 0, .double 0, .double 0] [.int (nI 1), .ref 27] _ _ _ _
      refine mt_if_eq dX4_bag_5 (tgt := 19) rfl (fun q37 => ?_) (fun q37 => ?_)
      · have q37 := (mI_eq0 (by omega)).mp q37
        exact absurd q37 (by decide)
      · have q37 := (not_congr (mI_eq0 (by omega))).mp q37
        refine mt_iload_n dX4_bag_8 rfl ?_
        refine mt_callS (N := mX4_isRow) (Rc := rX4_isRow) (As := [.int (nI r16)]) (st := [.ref 27]) dX4_bag_9 (kX4_isRow hl) sX4_isRow mw_1083 rfl (Nat.le_of_ble_eq_true rfl) ⟨⟨Nat.le_of_ble_eq_true rfl, Nat.le_of_ble_eq_true rfl⟩, Nat.le_of_ble_eq_true rfl, Nat.le_of_ble_eq_true rfl⟩ (fun v38 h39 n40 c41 => ?_) (fun _ _ _ hx => hx.elim)
        obtain ⟨c41a, c41b, c41c⟩ := c41
        rw [show (inN 4 (nI r16)).isSome = true from by rw [inN_some hr16 (by decide)]; rfl] at c41a
        rw [c41a, c41b, c41c]
        show mT _ _ _ _ 12 [.ref 27, .int (nI r3), .int (nI r16), .double 0, .double 0, .double 0, .double 0, .double 0] [.int (nI 1), .ref 27] _ _ _ _
        refine mt_if_eq dX4_bag_12 (tgt := 19) rfl (fun q42 => ?_) (fun q42 => ?_)
        · have q42 := (mI_eq0 (by omega)).mp q42
          exact absurd q42 (by decide)
        · have q42 := (not_congr (mI_eq0 (by omega))).mp q42
          refine mt_iconst dX4_bag_15 (v := nI 1) rfl ?_
          refine mt_goto dX4_bag_16 (tgt := 20) rfl ?_
          refine mt_iconst dX4_bag_20 (v := nI 1) rfl ?_
          refine mt_callV (N := mX4_isLet) (Rc := rX4_isLet) (As := [.int (nI 1), .int (nI 1)]) (st := []) dX4_bag_21 (kX4_isLet (t := true) (f := true) hl C0) sX4_isLet mw_1092 mKX4 rfl C0 rfl (Nat.le_of_ble_eq_true rfl) ⟨⟨Nat.le_of_ble_eq_true rfl, Nat.le_of_ble_eq_true rfl⟩, Nat.le_of_ble_eq_true rfl, Nat.le_of_ble_eq_true rfl⟩ (fun v43 h44 n45 c46 => ?_) (fun _ _ _ hx => hx.elim)
          obtain ⟨c46a, c46b, c46c, c46d⟩ := c46
          rw [c46a, c46b]
          show mT _ _ _ _ 24 [.ref 27, .int (nI r3), .int (nI r16), .double 0, .double 0, .double 0, .double 0, .double 0] [.int (nI 1)] _ _ _ _
          refine mt_if_ne dX4_bag_24 (tgt := 29) rfl (fun q47 => ?_) (fun q47 => ?_)
          · have q47 := (not_congr (mI_eq0 (by omega))).mp q47
            refine mt_aload_n dX4_bag_29 rfl rfl ?_
            refine mt_getfield mKX4 (i := 0) (by decide) mw_1053 dX4_bag_30 c46c rfl ?_
            refine mt_iload_n dX4_bag_33 rfl ?_
            refine mp_aaload dX4_bag_34 ((c46d (28) (by omega)).trans G28_1) (fun _ => rfl) rfl rfl (by omega) (by omega) (v := .ref (kx r3)) (by rw [GK_1 _ (by omega)]; rfl) ?_
            refine mt_alen dX4_bag_35 ((c46d (kx r3) (by omega)).trans ke_14) (by decide) ?_
            refine mt_aload_n dX4_bag_36 rfl rfl ?_
            refine mt_getfield mKX4 (i := 0) (by decide) mw_1053 dX4_bag_37 c46c rfl ?_
            refine mt_iload_n dX4_bag_40 rfl ?_
            refine mp_aaload dX4_bag_41 ((c46d (28) (by omega)).trans G28_1) (fun _ => rfl) rfl rfl (by omega) (by omega) (v := .ref (kx r16)) (by rw [GK_1 _ (by omega)]; rfl) ?_
            refine mt_alen dX4_bag_42 ((c46d (kx r16) (by omega)).trans ke_32) (by decide) ?_
            refine mt_icmp_ne dX4_bag_43 (tgt := 50) rfl (fun q48 => ?_) (fun q48 => ?_)
            · have q48 := (not_congr (nI_eq (by omega) (by omega))).mp q48
              refine mt_iconst dX4_bag_50 (v := nI 0) rfl ?_
              refine mp_istore_n dX4_bag_51 (ls' := [.ref 27, .int (nI r3), .int (nI r16), .int (nI 0), .double 0, .double 0, .double 0, .double 0]) rfl (by decide) rfl ?_
              refine mt_aload_n dX4_bag_52 rfl rfl ?_
              refine mt_getfield mKX4 (i := 0) (by decide) mw_1053 dX4_bag_53 c46c rfl ?_
              refine mt_iload_n dX4_bag_56 rfl ?_
              refine mp_aaload dX4_bag_57 ((c46d (28) (by omega)).trans G28_1) (fun _ => rfl) rfl rfl (by omega) (by omega) (v := .ref (kx r3)) (by rw [GK_1 _ (by omega)]; rfl) ?_
              refine mp_astore dX4_bag_58 (ls' := [.ref 27, .int (nI r3), .int (nI r16), .int (nI 0), .ref (kx r3), .double 0, .double 0, .double 0]) rfl rfl (by decide) rfl ?_
              refine mt_aload dX4_bag_60 rfl rfl ?_
              refine mt_alen dX4_bag_62 ((c46d (kx r3) (by omega)).trans ke_14) (by decide) ?_
              refine mp_istore dX4_bag_63 (ls' := [.ref 27, .int (nI r3), .int (nI r16), .int (nI 0), .ref (kx r3), .int (nI ((S.1 r3).length)), .double 0, .double 0]) rfl (by decide) rfl ?_
              refine mt_iconst dX4_bag_65 (v := nI 0) rfl ?_
              refine mp_istore dX4_bag_66 (ls' := [.ref 27, .int (nI r3), .int (nI r16), .int (nI 0), .ref (kx r3), .int (nI ((S.1 r3).length)), .int (nI 0), .double 0]) rfl (by decide) rfl ?_
              refine tX4_bag_68 hl c46c (mRows.fr (n' := n) HR (by omega) (fun j j1 j2 j3 => c46d (j) (by omega)) (by omega)) (by omega) hr3 hr16 (fun is_49 i_50 z51 => ?_) _ 0 false (Nat.lt_succ_self _) rfl (by omega)
              refine mt_iload_n dX4_bag_117 rfl ?_
              refine mt_ireturn dX4_bag_118 rfl narrow_mb (Nat.le_of_ble_eq_true rfl) (Nat.le_of_ble_eq_true rfl) ?_
              exact mOkq.of (x := .int (mb (is_49))) (S' := ((S).1, S.2.1, S.2.2.1, S.2.2.2.1, S.2.2.2.2)) (by simp only [mp_bag, dAt_s (k := 4) hr3 (by first | decide | omega), dAt_s (k := 4) hr16 (by first | decide | omega), decide_eq_false q48]; exact congrArg (fun x => ((0 : Nat), Value.int (mb x), S)) z51.symm) rfl (by omega) c46c (by omega) (mRows.fr (n' := n) HR (by omega) (fun j j1 j2 j3 => c46d (j) (by omega)) (by omega)) (fun j hj => c46d j (by omega))
            · have q48 := (nI_eq (by omega) (by omega)).mp q48
              refine mt_iconst dX4_bag_46 (v := nI 1) rfl ?_
              refine mt_goto dX4_bag_47 (tgt := 51) rfl ?_
              refine mp_istore_n dX4_bag_51 (ls' := [.ref 27, .int (nI r3), .int (nI r16), .int (nI 1), .double 0, .double 0, .double 0, .double 0]) rfl (by decide) rfl ?_
              refine mt_aload_n dX4_bag_52 rfl rfl ?_
              refine mt_getfield mKX4 (i := 0) (by decide) mw_1053 dX4_bag_53 c46c rfl ?_
              refine mt_iload_n dX4_bag_56 rfl ?_
              refine mp_aaload dX4_bag_57 ((c46d (28) (by omega)).trans G28_1) (fun _ => rfl) rfl rfl (by omega) (by omega) (v := .ref (kx r3)) (by rw [GK_1 _ (by omega)]; rfl) ?_
              refine mp_astore dX4_bag_58 (ls' := [.ref 27, .int (nI r3), .int (nI r16), .int (nI 1), .ref (kx r3), .double 0, .double 0, .double 0]) rfl rfl (by decide) rfl ?_
              refine mt_aload dX4_bag_60 rfl rfl ?_
              refine mt_alen dX4_bag_62 ((c46d (kx r3) (by omega)).trans ke_14) (by decide) ?_
              refine mp_istore dX4_bag_63 (ls' := [.ref 27, .int (nI r3), .int (nI r16), .int (nI 1), .ref (kx r3), .int (nI ((S.1 r3).length)), .double 0, .double 0]) rfl (by decide) rfl ?_
              refine mt_iconst dX4_bag_65 (v := nI 0) rfl ?_
              refine mp_istore dX4_bag_66 (ls' := [.ref 27, .int (nI r3), .int (nI r16), .int (nI 1), .ref (kx r3), .int (nI ((S.1 r3).length)), .int (nI 0), .double 0]) rfl (by decide) rfl ?_
              refine tX4_bag_68 hl c46c (mRows.fr (n' := n) HR (by omega) (fun j j1 j2 j3 => c46d (j) (by omega)) (by omega)) (by omega) hr3 hr16 (fun is_52 i_53 z54 => ?_) _ 0 true (Nat.lt_succ_self _) rfl (by omega)
              refine mt_iload_n dX4_bag_117 rfl ?_
              refine mt_ireturn dX4_bag_118 rfl narrow_mb (Nat.le_of_ble_eq_true rfl) (Nat.le_of_ble_eq_true rfl) ?_
              exact mOkq.of (x := .int (mb (is_52))) (S' := ((S).1, S.2.1, S.2.2.1, S.2.2.2.1, S.2.2.2.2)) (by simp only [mp_bag, dAt_s (k := 4) hr3 (by first | decide | omega), dAt_s (k := 4) hr16 (by first | decide | omega), decide_eq_true q48]; exact congrArg (fun x => ((0 : Nat), Value.int (mb x), S)) z54.symm) rfl (by omega) c46c (by omega) (mRows.fr (n' := n) HR (by omega) (fun j j1 j2 j3 => c46d (j) (by omega)) (by omega)) (fun j hj => c46d j (by omega))
          · have q47 := (mI_eq0 (by omega)).mp q47
            exact absurd q47 (by decide)
abbrev rX4_mark : Room := { frames := 2, cells := 0, slots := 0, locals := 42 }
set_option maxRecDepth 100000 in
set_option maxHeartbeats 2000000 in
theorem tX4_mark_k {l : Launch} {R : Room} {K : mK} {cc sc : Nat} {h : mH} {n : Nat} {S : cS} {kx sx : Nat → Nat} {g ac rf kn th : Int32} {r : Nat} {r9 : Int32} (C0 : h 27 = .inr (.inr (6, [.ref 28, .ref 33, .int g, .int ac, .int rf, .int kn, .int th]))) (HR : mRows h n S kx sx) (h39 : 39 ≤ n) (hr : r < 4) (kk0 : ∀ (e : Int32) (i : Nat), (e = r9) → mT l mX4_mark R K 74 [.ref 27, .int (nI r), .int (mb (false)), .int e, .ref (kx r), .int (nI ((S.1 r).length)), .int (nI i), .double 0] [] h n cc sc) : ∀ (N0 : Nat) (i : Nat) (e : Int32), ((S.1 r).length - i) < N0 → (mlp (fun i e => e * nI 31 + (if false = false then xk (S.1 r) i else xt (S.1 r) i)) ((S.1 r).length - i) i e = r9) → (i ≤ (S.1 r).length) → mT l mX4_mark R K 46 [.ref 27, .int (nI r), .int (mb (false)), .int e, .ref (kx r), .int (nI ((S.1 r).length)), .int (nI i), .double 0] [] h n cc sc := by
  intro N0
  induction N0 with
  | zero => intro i e hm; exact absurd hm (Nat.not_lt_zero _)
  | succ N0 ih =>
    intro i e hm hr9 hi
    obtain ⟨⟨gk_1, G28_1, GK_1⟩, ⟨gs_1, G33_1, GS_1⟩, AK_1, AS_1, NE_1, NQ_1, LE_1⟩ := id HR
    obtain ⟨⟨ka_2, kb_2, kc_2, kd_2⟩, kf_2, ke_2, kg_2⟩ := AK_1 r hr
    obtain ⟨⟨sa_2, sb_2, sc_2, sd_2⟩, sf_2, se_2, sg_2⟩ := AS_1 r hr
    have kn_2 := NE_1 r r hr hr
    have kl_2 := LE_1 r hr
    have km_2 := rroom_le (r := r)
    refine mt_iload dX4_mark_46 rfl ?_
    refine mt_iload dX4_mark_48 rfl ?_
    refine mt_icmp_ge dX4_mark_50 (tgt := 74) rfl (fun q3 => ?_) (fun q3 => ?_)
    · have q3 := Int32.not_lt.mpr q3
      have q3 := (not_congr (nI_ltI (by omega) (by omega))).mp q3
      exact kk0 e i ((mlp_end (f := fun i e => e * nI 31 + (if false = false then xk (S.1 r) i else xt (S.1 r) i)) (by omega)).symm.trans hr9)
    · have q3 := Int32.not_le.mp q3
      have q3 := (nI_ltI (by omega) (by omega)).mp q3
      refine mt_aload dX4_mark_53 rfl rfl ?_
      refine mt_iload dX4_mark_55 rfl ?_
      refine mp_iaload dX4_mark_57 ke_2 rfl (by omega) (by omega) (v := xk (S.1 r) i) (kg_2 _ (by omega)) ?_
      refine mp_istore dX4_mark_58 (ls' := [.ref 27, .int (nI r), .int (mb (false)), .int e, .ref (kx r), .int (nI ((S.1 r).length)), .int (nI i), .int (xk (S.1 r) i)]) rfl (by decide) rfl ?_
      refine mt_iload_n dX4_mark_60 rfl ?_
      refine mt_bipush dX4_mark_61 (v := nI 31) (by decide) ?_
      refine mp_imul dX4_mark_63 (v := e * (nI 31)) rfl ?_
      refine mt_iload dX4_mark_64 rfl ?_
      refine mp_iadd dX4_mark_66 (v := (e * (nI 31)) + (xk (S.1 r) i)) rfl ?_
      refine mp_istore_n dX4_mark_67 (ls' := [.ref 27, .int (nI r), .int (mb (false)), .int ((e * (nI 31)) + (xk (S.1 r) i)), .ref (kx r), .int (nI ((S.1 r).length)), .int (nI i), .int (xk (S.1 r) i)]) rfl (by decide) rfl ?_
      refine mp_iinc dX4_mark_68 rfl (v := nI (i + 1)) mI_inc (ls' := [.ref 27, .int (nI r), .int (mb (false)), .int ((e * (nI 31)) + (xk (S.1 r) i)), .ref (kx r), .int (nI ((S.1 r).length)), .int (nI (i + 1)), .int (xk (S.1 r) i)]) rfl (by decide) rfl ?_
      refine mt_goto dX4_mark_71 (tgt := 46) rfl ?_
      refine mt_drop 7 (ls' := [.ref 27, .int (nI r), .int (mb (false)), .int ((e * (nI 31)) + (xk (S.1 r) i)), .ref (kx r), .int (nI ((S.1 r).length)), .int (nI (i + 1)), .double 0]) rfl ?_
      exact ih (i + 1) ((e * (nI 31)) + (xk (S.1 r) i)) (by omega) ((mlp_go (f := fun i e => e * nI 31 + (if false = false then xk (S.1 r) i else xt (S.1 r) i)) (by omega) rfl).symm.trans hr9) (by omega)
set_option maxRecDepth 100000 in
set_option maxHeartbeats 2000000 in
theorem tX4_mark_s {l : Launch} {R : Room} {K : mK} {cc sc : Nat} {h : mH} {n : Nat} {S : cS} {kx sx : Nat → Nat} {g ac rf kn th : Int32} {r : Nat} {r9 : Int32} (C0 : h 27 = .inr (.inr (6, [.ref 28, .ref 33, .int g, .int ac, .int rf, .int kn, .int th]))) (HR : mRows h n S kx sx) (h39 : 39 ≤ n) (hr : r < 4) (kk0 : ∀ (e : Int32) (i : Nat), (e = r9) → mT l mX4_mark R K 74 [.ref 27, .int (nI r), .int (mb (true)), .int e, .ref (sx r), .int (nI ((S.1 r).length)), .int (nI i), .double 0] [] h n cc sc) : ∀ (N0 : Nat) (i : Nat) (e : Int32), ((S.1 r).length - i) < N0 → (mlp (fun i e => e * nI 31 + (if true = false then xk (S.1 r) i else xt (S.1 r) i)) ((S.1 r).length - i) i e = r9) → (i ≤ (S.1 r).length) → mT l mX4_mark R K 46 [.ref 27, .int (nI r), .int (mb (true)), .int e, .ref (sx r), .int (nI ((S.1 r).length)), .int (nI i), .double 0] [] h n cc sc := by
  intro N0
  induction N0 with
  | zero => intro i e hm; exact absurd hm (Nat.not_lt_zero _)
  | succ N0 ih =>
    intro i e hm hr9 hi
    obtain ⟨⟨gk_1, G28_1, GK_1⟩, ⟨gs_1, G33_1, GS_1⟩, AK_1, AS_1, NE_1, NQ_1, LE_1⟩ := id HR
    obtain ⟨⟨ka_2, kb_2, kc_2, kd_2⟩, kf_2, ke_2, kg_2⟩ := AK_1 r hr
    obtain ⟨⟨sa_2, sb_2, sc_2, sd_2⟩, sf_2, se_2, sg_2⟩ := AS_1 r hr
    have kn_2 := NE_1 r r hr hr
    have kl_2 := LE_1 r hr
    have km_2 := rroom_le (r := r)
    refine mt_iload dX4_mark_46 rfl ?_
    refine mt_iload dX4_mark_48 rfl ?_
    refine mt_icmp_ge dX4_mark_50 (tgt := 74) rfl (fun q3 => ?_) (fun q3 => ?_)
    · have q3 := Int32.not_lt.mpr q3
      have q3 := (not_congr (nI_ltI (by omega) (by omega))).mp q3
      exact kk0 e i ((mlp_end (f := fun i e => e * nI 31 + (if true = false then xk (S.1 r) i else xt (S.1 r) i)) (by omega)).symm.trans hr9)
    · have q3 := Int32.not_le.mp q3
      have q3 := (nI_ltI (by omega) (by omega)).mp q3
      refine mt_aload dX4_mark_53 rfl rfl ?_
      refine mt_iload dX4_mark_55 rfl ?_
      refine mp_iaload dX4_mark_57 se_2 rfl (by omega) (by omega) (v := xt (S.1 r) i) (sg_2 _ (by omega)) ?_
      refine mp_istore dX4_mark_58 (ls' := [.ref 27, .int (nI r), .int (mb (true)), .int e, .ref (sx r), .int (nI ((S.1 r).length)), .int (nI i), .int (xt (S.1 r) i)]) rfl (by decide) rfl ?_
      refine mt_iload_n dX4_mark_60 rfl ?_
      refine mt_bipush dX4_mark_61 (v := nI 31) (by decide) ?_
      refine mp_imul dX4_mark_63 (v := e * (nI 31)) rfl ?_
      refine mt_iload dX4_mark_64 rfl ?_
      refine mp_iadd dX4_mark_66 (v := (e * (nI 31)) + (xt (S.1 r) i)) rfl ?_
      refine mp_istore_n dX4_mark_67 (ls' := [.ref 27, .int (nI r), .int (mb (true)), .int ((e * (nI 31)) + (xt (S.1 r) i)), .ref (sx r), .int (nI ((S.1 r).length)), .int (nI i), .int (xt (S.1 r) i)]) rfl (by decide) rfl ?_
      refine mp_iinc dX4_mark_68 rfl (v := nI (i + 1)) mI_inc (ls' := [.ref 27, .int (nI r), .int (mb (true)), .int ((e * (nI 31)) + (xt (S.1 r) i)), .ref (sx r), .int (nI ((S.1 r).length)), .int (nI (i + 1)), .int (xt (S.1 r) i)]) rfl (by decide) rfl ?_
      refine mt_goto dX4_mark_71 (tgt := 46) rfl ?_
      refine mt_drop 7 (ls' := [.ref 27, .int (nI r), .int (mb (true)), .int ((e * (nI 31)) + (xt (S.1 r) i)), .ref (sx r), .int (nI ((S.1 r).length)), .int (nI (i + 1)), .double 0]) rfl ?_
      exact ih (i + 1) ((e * (nI 31)) + (xt (S.1 r) i)) (by omega) ((mlp_go (f := fun i e => e * nI 31 + (if true = false then xk (S.1 r) i else xt (S.1 r) i)) (by omega) rfl).symm.trans hr9) (by omega)
set_option maxRecDepth 100000 in
set_option maxHeartbeats 2000000 in
theorem kX4_mark {l : Launch} (hl : l.stackTraces = false) {h : mH} {n : Nat} {S : cS} {th : Int32} {row : Int32} {isStamps : Bool} (C : mAt h n S th) : mC l mX4_mark rX4_mark [.ref 27, .int row, .int (mb (isStamps))] h n (mOkq (sp_mark S row isStamps) (.int (nI 0)) h n) (mNX) := by
  obtain ⟨C0, h39, kx, sx, HR⟩ := id C
  obtain ⟨⟨gk_1, G28_1, GK_1⟩, ⟨gs_1, G33_1, GS_1⟩, AK_1, AS_1, NE_1, NQ_1, LE_1⟩ := id HR
  refine mm_enter hl (by decide +kernel) rfl rfl rfl (Nat.le_of_ble_eq_true rfl) ?_
  show mT _ _ _ _ 0 [.ref 27, .int row, .int (mb (isStamps)), .double 0, .double 0, .double 0, .double 0, .double 0] [] _ _ 0 0
  rcases hq2 : inN 4 row with _ | r3
  · refine mt_aload_n dX4_mark_0 rfl rfl ?_
    refine mt_iload_n dX4_mark_1 rfl ?_
    refine mt_callS (N := mX4_isRow) (Rc := rX4_isRow) (As := [.int row]) (st := [.ref 27]) dX4_mark_2 (kX4_isRow hl) sX4_isRow mw_1083 rfl (Nat.le_of_ble_eq_true rfl) ⟨⟨Nat.le_of_ble_eq_true rfl, Nat.le_of_ble_eq_true rfl⟩, Nat.le_of_ble_eq_true rfl, Nat.le_of_ble_eq_true rfl⟩ (fun v4 h5 n6 c7 => ?_) (fun _ _ _ hx => hx.elim)
    obtain ⟨c7a, c7b, c7c⟩ := c7
    rw [show (inN 4 row).isSome = false from by rw [hq2]; rfl] at c7a
    rw [c7a, c7b, c7c]
    show mT _ _ _ _ 5 [.ref 27, .int row, .int (mb (isStamps)), .double 0, .double 0, .double 0, .double 0, .double 0] [.int (nI 0), .ref 27] _ _ _ _
    refine mt_iconst dX4_mark_5 (v := nI 1) rfl ?_
    refine mt_callV (N := mX4_isLet) (Rc := rX4_isLet) (As := [.int (nI 0), .int (nI 1)]) (st := []) dX4_mark_6 (kX4_isLet (t := false) (f := true) hl C0) sX4_isLet mw_1092 mKX4 rfl C0 rfl (Nat.le_of_ble_eq_true rfl) ⟨⟨Nat.le_of_ble_eq_true rfl, Nat.le_of_ble_eq_true rfl⟩, Nat.le_of_ble_eq_true rfl, Nat.le_of_ble_eq_true rfl⟩ (fun v8 h9 n10 c11 => ?_) (fun _ _ _ hx => hx.elim)
    obtain ⟨c11a, c11b, c11c, c11d⟩ := c11
    rw [c11a, c11b]
    show mT _ _ _ _ 9 [.ref 27, .int row, .int (mb (isStamps)), .double 0, .double 0, .double 0, .double 0, .double 0] [.int (nI 0)] _ _ _ _
    refine mt_if_ne dX4_mark_9 (tgt := 14) rfl (fun q12 => ?_) (fun q12 => ?_)
    · have q12 := (not_congr (mI_eq0 (by omega))).mp q12
      exact absurd q12 (by decide)
    · have q12 := (mI_eq0 (by omega)).mp q12
      refine mt_iconst dX4_mark_12 (v := nI 0) rfl ?_
      refine mt_ireturn dX4_mark_13 rfl rfl (Nat.le_of_ble_eq_true rfl) (Nat.le_of_ble_eq_true rfl) ?_
      exact mOkq.no (k := 1) (S' := S) (by simp only [sp_mark, dAt_n (k := 4) (x := row) hq2, if_pos q12]) (by decide) rfl (by omega) c11c (by omega) (mRows.fr (n' := n) HR (by omega) (fun j j1 j2 j3 => c11d (j) (by omega)) (by omega)) (fun j hj => c11d j (by omega))
  · obtain ⟨hr3, rfl⟩ := inN_of hq2 (by first | decide | omega)
    obtain ⟨⟨ka_13, kb_13, kc_13, kd_13⟩, kf_13, ke_13, kg_13⟩ := AK_1 r3 hr3
    obtain ⟨⟨sa_13, sb_13, sc_13, sd_13⟩, sf_13, se_13, sg_13⟩ := AS_1 r3 hr3
    have kn_13 := NE_1 r3 r3 hr3 hr3
    have kl_13 := LE_1 r3 hr3
    have km_13 := rroom_le (r := r3)
    refine mt_aload_n dX4_mark_0 rfl rfl ?_
    refine mt_iload_n dX4_mark_1 rfl ?_
    refine mt_callS (N := mX4_isRow) (Rc := rX4_isRow) (As := [.int (nI r3)]) (st := [.ref 27]) dX4_mark_2 (kX4_isRow hl) sX4_isRow mw_1083 rfl (Nat.le_of_ble_eq_true rfl) ⟨⟨Nat.le_of_ble_eq_true rfl, Nat.le_of_ble_eq_true rfl⟩, Nat.le_of_ble_eq_true rfl, Nat.le_of_ble_eq_true rfl⟩ (fun v14 h15 n16 c17 => ?_) (fun _ _ _ hx => hx.elim)
    obtain ⟨c17a, c17b, c17c⟩ := c17
    rw [show (inN 4 (nI r3)).isSome = true from by rw [inN_some hr3 (by decide)]; rfl] at c17a
    rw [c17a, c17b, c17c]
    show mT _ _ _ _ 5 [.ref 27, .int (nI r3), .int (mb (isStamps)), .double 0, .double 0, .double 0, .double 0, .double 0] [.int (nI 1), .ref 27] _ _ _ _
    refine mt_iconst dX4_mark_5 (v := nI 1) rfl ?_
    refine mt_callV (N := mX4_isLet) (Rc := rX4_isLet) (As := [.int (nI 1), .int (nI 1)]) (st := []) dX4_mark_6 (kX4_isLet (t := true) (f := true) hl C0) sX4_isLet mw_1092 mKX4 rfl C0 rfl (Nat.le_of_ble_eq_true rfl) ⟨⟨Nat.le_of_ble_eq_true rfl, Nat.le_of_ble_eq_true rfl⟩, Nat.le_of_ble_eq_true rfl, Nat.le_of_ble_eq_true rfl⟩ (fun v18 h19 n20 c21 => ?_) (fun _ _ _ hx => hx.elim)
    obtain ⟨c21a, c21b, c21c, c21d⟩ := c21
    rw [c21a, c21b]
    show mT _ _ _ _ 9 [.ref 27, .int (nI r3), .int (mb (isStamps)), .double 0, .double 0, .double 0, .double 0, .double 0] [.int (nI 1)] _ _ _ _
    refine mt_if_ne dX4_mark_9 (tgt := 14) rfl (fun q22 => ?_) (fun q22 => ?_)
    · have q22 := (not_congr (mI_eq0 (by omega))).mp q22
      refine mt_bipush dX4_mark_14 (v := nI 17) (by decide) ?_
      refine mp_istore_n dX4_mark_16 (ls' := [.ref 27, .int (nI r3), .int (mb (isStamps)), .int (nI 17), .double 0, .double 0, .double 0, .double 0]) rfl (by decide) rfl ?_
      refine mt_iload_n dX4_mark_17 rfl ?_
      refine mt_if_eq dX4_mark_18 (tgt := 30) rfl (fun q23 => ?_) (fun q23 => ?_)
      · have q23 : isStamps = false := mb_0.mp q23
        refine mt_aload_n dX4_mark_30 rfl rfl ?_
        refine mt_getfield mKX4 (i := 0) (by decide) mw_1053 dX4_mark_31 c21c rfl ?_
        refine mt_iload_n dX4_mark_34 rfl ?_
        refine mp_aaload dX4_mark_35 ((c21d (28) (by omega)).trans G28_1) (fun _ => rfl) rfl rfl (by omega) (by omega) (v := .ref (kx r3)) (by rw [GK_1 _ (by omega)]; rfl) ?_
        refine mp_astore dX4_mark_36 (ls' := [.ref 27, .int (nI r3), .int (mb (isStamps)), .int (nI 17), .ref (kx r3), .double 0, .double 0, .double 0]) rfl rfl (by decide) rfl ?_
        refine mt_aload dX4_mark_38 rfl rfl ?_
        refine mt_alen dX4_mark_40 ((c21d (kx r3) (by omega)).trans ke_13) (by decide) ?_
        refine mp_istore dX4_mark_41 (ls' := [.ref 27, .int (nI r3), .int (mb (isStamps)), .int (nI 17), .ref (kx r3), .int (nI ((S.1 r3).length)), .double 0, .double 0]) rfl (by decide) rfl ?_
        subst q23
        refine mt_iconst dX4_mark_43 (v := nI 0) rfl ?_
        refine mp_istore dX4_mark_44 (ls' := [.ref 27, .int (nI r3), .int (mb (false)), .int (nI 17), .ref (kx r3), .int (nI ((S.1 r3).length)), .int (nI 0), .double 0]) rfl (by decide) rfl ?_
        refine tX4_mark_k c21c (mRows.fr (n' := n) HR (by omega) (fun j j1 j2 j3 => c21d (j) (by omega)) (by omega)) (by omega) hr3 (fun e_24 i_25 z26 => ?_) _ 0 (nI 17) (Nat.lt_succ_self _) rfl (by omega)
        refine mt_iload_n dX4_mark_74 rfl ?_
        refine mt_ireturn dX4_mark_75 rfl rfl (Nat.le_of_ble_eq_true rfl) (Nat.le_of_ble_eq_true rfl) ?_
        exact mOkq.of (x := .int e_24) (S' := ((S).1, S.2.1, S.2.2.1, S.2.2.2.1, S.2.2.2.2)) (by simp only [sp_mark, dAt_s (k := 4) hr3 (by first | decide | omega)]; exact congrArg (fun x => ((0 : Nat), Value.int (x), S)) z26.symm) rfl (by omega) c21c (by omega) (mRows.fr (n' := n) HR (by omega) (fun j j1 j2 j3 => c21d (j) (by omega)) (by omega)) (fun j hj => c21d j (by omega))
      · have q23 : isStamps = true := mb_1.mp q23
        refine mt_aload_n dX4_mark_21 rfl rfl ?_
        refine mt_getfield mKX4 (i := 1) (by decide) mw_1054 dX4_mark_22 c21c rfl ?_
        refine mt_iload_n dX4_mark_25 rfl ?_
        refine mp_aaload dX4_mark_26 ((c21d (33) (by omega)).trans G33_1) (fun _ => rfl) rfl rfl (by omega) (by omega) (v := .ref (sx r3)) (by rw [GS_1 _ (by omega)]; rfl) ?_
        refine mt_goto dX4_mark_27 (tgt := 36) rfl ?_
        refine mp_astore dX4_mark_36 (ls' := [.ref 27, .int (nI r3), .int (mb (isStamps)), .int (nI 17), .ref (sx r3), .double 0, .double 0, .double 0]) rfl rfl (by decide) rfl ?_
        refine mt_aload dX4_mark_38 rfl rfl ?_
        refine mt_alen dX4_mark_40 ((c21d (sx r3) (by omega)).trans se_13) (by decide) ?_
        refine mp_istore dX4_mark_41 (ls' := [.ref 27, .int (nI r3), .int (mb (isStamps)), .int (nI 17), .ref (sx r3), .int (nI ((S.1 r3).length)), .double 0, .double 0]) rfl (by decide) rfl ?_
        subst q23
        refine mt_iconst dX4_mark_43 (v := nI 0) rfl ?_
        refine mp_istore dX4_mark_44 (ls' := [.ref 27, .int (nI r3), .int (mb (true)), .int (nI 17), .ref (sx r3), .int (nI ((S.1 r3).length)), .int (nI 0), .double 0]) rfl (by decide) rfl ?_
        refine tX4_mark_s c21c (mRows.fr (n' := n) HR (by omega) (fun j j1 j2 j3 => c21d (j) (by omega)) (by omega)) (by omega) hr3 (fun e_27 i_28 z29 => ?_) _ 0 (nI 17) (Nat.lt_succ_self _) rfl (by omega)
        refine mt_iload_n dX4_mark_74 rfl ?_
        refine mt_ireturn dX4_mark_75 rfl rfl (Nat.le_of_ble_eq_true rfl) (Nat.le_of_ble_eq_true rfl) ?_
        exact mOkq.of (x := .int e_27) (S' := ((S).1, S.2.1, S.2.2.1, S.2.2.2.1, S.2.2.2.2)) (by simp only [sp_mark, dAt_s (k := 4) hr3 (by first | decide | omega)]; exact congrArg (fun x => ((0 : Nat), Value.int (x), S)) z29.symm) rfl (by omega) c21c (by omega) (mRows.fr (n' := n) HR (by omega) (fun j j1 j2 j3 => c21d (j) (by omega)) (by omega)) (fun j hj => c21d j (by omega))
    · have q22 := (mI_eq0 (by omega)).mp q22
      exact absurd q22 (by decide)
abbrev rX4_knock : Room := { frames := 0, cells := 0, slots := 0, locals := 0 }
set_option maxRecDepth 100000 in
set_option maxHeartbeats 2000000 in
theorem kX4_knock {l : Launch} (hl : l.stackTraces = false) {h : mH} {n : Nat} {S : cS} {th : Int32} (C : mAt h n S th) : mC l mX4_knock rX4_knock [.ref 27] h n (mOkq (sp_knock S ) (.int (nI 0)) h n) (mNX) := by
  obtain ⟨C0, h39, kx, sx, HR⟩ := id C
  obtain ⟨⟨gk_1, G28_1, GK_1⟩, ⟨gs_1, G33_1, GS_1⟩, AK_1, AS_1, NE_1, NQ_1, LE_1⟩ := id HR
  refine mm_enter hl (by decide +kernel) rfl rfl rfl (Nat.le_of_ble_eq_true rfl) ?_
  show mT _ _ _ _ 0 [.ref 27] [] _ _ 0 0
  refine mt_aload_n dX4_knock_0 rfl rfl ?_
  refine mt_iconst dX4_knock_1 (v := nI 0) rfl ?_
  refine mp_putfield mKX4 (i := 6) (fs' := [.ref 28, .ref 33, .int S.2.1, .int S.2.2.1, .int S.2.2.2.1, .int S.2.2.2.2, .int (nI 0)]) (by decide) mw_1059 rfl dX4_knock_2 C0 (Nat.le_of_ble_eq_true rfl) rfl rfl (fun h2 e3 f4 => ?_)
  refine mt_aload_n dX4_knock_5 rfl rfl ?_
  refine mt_dup dX4_knock_6 rfl ?_
  refine mt_getfield mKX4 (i := 5) (by decide) mw_1058 dX4_knock_7 e3 rfl ?_
  refine mt_iconst dX4_knock_10 (v := nI 1) rfl ?_
  refine mp_iadd dX4_knock_11 (v := S.2.2.2.2 + (nI 1)) rfl ?_
  refine mp_putfield mKX4 (i := 5) (fs' := [.ref 28, .ref 33, .int S.2.1, .int S.2.2.1, .int S.2.2.2.1, .int (S.2.2.2.2 + (nI 1)), .int (nI 0)]) (by decide) mw_1058 rfl dX4_knock_12 e3 (Nat.le_of_ble_eq_true rfl) rfl rfl (fun h5 e6 f7 => ?_)
  refine mt_aload_n dX4_knock_15 rfl rfl ?_
  refine mt_getfield mKX4 (i := 5) (by decide) mw_1058 dX4_knock_16 e6 rfl ?_
  refine mt_ireturn dX4_knock_19 rfl rfl (Nat.le_of_ble_eq_true rfl) (Nat.le_of_ble_eq_true rfl) ?_
  exact mOkq.of (x := .int (S.2.2.2.2 + (nI 1))) (S' := ((S).1, S.2.1, S.2.2.1, S.2.2.2.1, S.2.2.2.2 + (nI 1))) (by simp only [sp_knock] <;> first | rfl | simp_all) rfl (by omega) e6 (by omega) (mRows.fr (n' := n) HR (by omega) (fun j j1 j2 j3 => (f7 (j) (by omega)).trans (f4 (j) (by omega))) (by omega)) (fun j hj => (f7 j (by omega)).trans (f4 j (by omega)))
def mp_isSound (S : cS)  : Nat × Value × cS := (0, .int (mb true), S)
abbrev rX4_isSound : Room := { frames := 0, cells := 0, slots := 0, locals := 0 }
set_option maxRecDepth 100000 in
set_option maxHeartbeats 2000000 in
theorem kX4_isSound {l : Launch} (hl : l.stackTraces = false) {h : mH} {n : Nat} {S : cS} {th : Int32} (C : mAt h n S th) : mC l mX4_isSound rX4_isSound [.ref 27] h n (mOkq (mp_isSound S ) (.int (nI 0)) h n) (mNX) := by
  obtain ⟨C0, h39, kx, sx, HR⟩ := id C
  obtain ⟨⟨gk_1, G28_1, GK_1⟩, ⟨gs_1, G33_1, GS_1⟩, AK_1, AS_1, NE_1, NQ_1, LE_1⟩ := id HR
  refine mm_enter hl (by decide +kernel) rfl rfl rfl (Nat.le_of_ble_eq_true rfl) ?_
  show mT _ _ _ _ 0 [.ref 27] [] _ _ 0 0
  refine mt_aload_n dX4_isSound_0 rfl rfl ?_
  refine mt_iconst dX4_isSound_1 (v := nI 0) rfl ?_
  refine mp_putfield mKX4 (i := 6) (fs' := [.ref 28, .ref 33, .int S.2.1, .int S.2.2.1, .int S.2.2.2.1, .int S.2.2.2.2, .int (nI 0)]) (by decide) mw_1059 rfl dX4_isSound_2 C0 (Nat.le_of_ble_eq_true rfl) rfl rfl (fun h2 e3 f4 => ?_)
  refine mt_iconst dX4_isSound_5 (v := nI 1) rfl ?_
  refine mt_ireturn dX4_isSound_6 rfl rfl (Nat.le_of_ble_eq_true rfl) (Nat.le_of_ble_eq_true rfl) ?_
  exact mOkq.of (x := .int (nI 1)) (S' := ((S).1, S.2.1, S.2.2.1, S.2.2.2.1, S.2.2.2.2)) (by simp only [mp_isSound] <;> first | rfl | simp_all) rfl (by omega) e3 (by omega) (mRows.fr (n' := n) HR (by omega) (fun j j1 j2 j3 => f4 (j) (by omega)) (by omega)) (fun j hj => f4 j (by omega))

/-! ===== the reference: house, digest ===== -/
abbrev rX4_house : Room := { frames := 2, cells := 1, slots := 6, locals := 46 }
set_option maxRecDepth 100000 in
set_option maxHeartbeats 2000000 in
theorem tX4_house_35 {l : Launch} {K : mK} {h : mH} {n : Nat} {S : cS} {kx sx : Nat → Nat} {g ac rf kn th : Int32} {w9 : Nat} {r9 : Nat × Int32} (hl : l.stackTraces = false) (C0 : h 27 = .inr (.inr (6, [.ref 28, .ref 33, .int g, .int ac, .int rf, .int kn, .int th]))) (HR : mRows h n S kx sx) (h39 : 39 ≤ n) (kk0 : ∀ (items : Nat) (so : Int32) (i : Nat), ((items, so) = r9) → mT l mX4_house rX4_house K 76 [.ref 27, .int (nI w9), .int (nI items), .int so, .int (nI i)] [] h n 0 0) : ∀ (N0 : Nat) (i : Nat) (items : Nat) (so : Int32), (4 - i) < N0 → (mlp (mhS S) (4 - i) i (items, so) = r9) → (i ≤ 4) → mT l mX4_house rX4_house K 35 [.ref 27, .int (nI w9), .int (nI items), .int so, .int (nI i)] [] h n 0 0 := by
  intro N0
  induction N0 with
  | zero => intro i items so hm; exact absurd hm (Nat.not_lt_zero _)
  | succ N0 ih =>
    intro i items so hm hr9 hi
    obtain ⟨⟨gk_1, G28_1, GK_1⟩, ⟨gs_1, G33_1, GS_1⟩, AK_1, AS_1, NE_1, NQ_1, LE_1⟩ := id HR
    refine mt_iload dX4_house_35 rfl ?_
    refine mt_iconst dX4_house_37 (v := nI 4) rfl ?_
    refine mt_icmp_ge dX4_house_38 (tgt := 76) rfl (fun q2 => ?_) (fun q2 => ?_)
    · have q2 := Int32.not_lt.mpr q2
      have q2 := (not_congr (nI_ltI (by omega) (by omega))).mp q2
      exact kk0 items so i ((mlp_end (f := mhS S) (by omega)).symm.trans hr9)
    · have q2 := Int32.not_le.mp q2
      have q2 := (nI_ltI (by omega) (by omega)).mp q2
      obtain ⟨⟨ka_3, kb_3, kc_3, kd_3⟩, kf_3, ke_3, kg_3⟩ := AK_1 i (by omega)
      obtain ⟨⟨sa_3, sb_3, sc_3, sd_3⟩, sf_3, se_3, sg_3⟩ := AS_1 i (by omega)
      have kn_3 := NE_1 i i (by omega) (by omega)
      have kl_3 := LE_1 i (by omega)
      have km_3 := rroom_le (r := i)
      refine mt_iload_n dX4_house_41 rfl ?_
      refine mt_aload_n dX4_house_42 rfl rfl ?_
      refine mt_getfield mKX4 (i := 0) (by decide) mw_1053 dX4_house_43 C0 rfl ?_
      refine mt_iload dX4_house_46 rfl ?_
      refine mp_aaload dX4_house_48 G28_1 (fun _ => rfl) rfl rfl (by omega) (by omega) (v := .ref (kx i)) (by rw [GK_1 _ (by omega)]; rfl) ?_
      refine mt_alen dX4_house_49 ke_3 (by decide) ?_
      refine mp_iadd dX4_house_50 (v := nI (items + ((S.1 i).length))) (nI_add _ _) ?_
      refine mp_istore_n dX4_house_51 (ls' := [.ref 27, .int (nI w9), .int (nI (items + ((S.1 i).length))), .int so, .int (nI i)]) rfl (by decide) rfl ?_
      refine mt_iload_n dX4_house_52 rfl ?_
      refine mt_aload_n dX4_house_53 rfl rfl ?_
      refine mt_iload dX4_house_54 rfl ?_
      refine mt_iconst dX4_house_56 (v := nI 1) rfl ?_
      refine mt_callV (N := mX4_pairs) (Rc := rX4_pairs) (As := [.int (nI i), .int (nI 1)]) (st := [.int so]) dX4_house_57 (kX4_pairs hl C0 HR (by omega)) sX4_pairs mw_1146 mKX4 rfl C0 rfl (Nat.le_of_ble_eq_true rfl) ⟨⟨Nat.le_of_ble_eq_true rfl, Nat.le_of_ble_eq_true rfl⟩, Nat.le_of_ble_eq_true rfl, Nat.le_of_ble_eq_true rfl⟩ (fun v4 h5 n6 c7 => ?_) (fun _ _ _ hx => hx.elim)
      obtain ⟨c7a, c7b, c7c⟩ := c7
      rw [c7a, c7b, c7c]
      show mT _ _ _ _ 60 [.ref 27, .int (nI w9), .int (nI (items + ((S.1 i).length))), .int so, .int (nI i)] [.int (mq_pairs (S.1 i) (nI 1)), .int so] _ _ _ _
      refine mt_if_ne dX4_house_60 (tgt := 67) rfl (fun q8 => ?_) (fun q8 => ?_)
      · refine mt_iconst dX4_house_67 (v := nI 0) rfl ?_
        refine mp_iadd dX4_house_68 (v := so + (nI 0)) rfl ?_
        refine mp_istore_n dX4_house_69 (ls' := [.ref 27, .int (nI w9), .int (nI (items + ((S.1 i).length))), .int (so + (nI 0)), .int (nI i)]) rfl (by decide) rfl ?_
        refine mp_iinc dX4_house_70 rfl (v := nI (i + 1)) mI_inc (ls' := [.ref 27, .int (nI w9), .int (nI (items + ((S.1 i).length))), .int (so + (nI 0)), .int (nI (i + 1))]) rfl (by decide) rfl ?_
        refine mt_goto dX4_house_73 (tgt := 35) rfl ?_
        exact ih (i + 1) (items + ((S.1 i).length)) (so + (nI 0)) (by omega) ((mlp_go (f := mhS S) (by omega) (by simp only [mhS, if_neg q8])).symm.trans hr9) (by omega)
      · refine mt_iconst dX4_house_63 (v := nI 1) rfl ?_
        refine mt_goto dX4_house_64 (tgt := 68) rfl ?_
        refine mp_iadd dX4_house_68 (v := so + (nI 1)) rfl ?_
        refine mp_istore_n dX4_house_69 (ls' := [.ref 27, .int (nI w9), .int (nI (items + ((S.1 i).length))), .int (so + (nI 1)), .int (nI i)]) rfl (by decide) rfl ?_
        refine mp_iinc dX4_house_70 rfl (v := nI (i + 1)) mI_inc (ls' := [.ref 27, .int (nI w9), .int (nI (items + ((S.1 i).length))), .int (so + (nI 1)), .int (nI (i + 1))]) rfl (by decide) rfl ?_
        refine mt_goto dX4_house_73 (tgt := 35) rfl ?_
        exact ih (i + 1) (items + ((S.1 i).length)) (so + (nI 1)) (by omega) ((mlp_go (f := mhS S) (by omega) (by simp only [mhS, if_pos q8])).symm.trans hr9) (by omega)
set_option maxRecDepth 100000 in
set_option maxHeartbeats 2000000 in
theorem kX4_house {l : Launch} (hl : l.stackTraces = false) {h : mH} {n : Nat} {S : cS} {th : Int32} {what : Int32} (C : mAt h n S th) : mC l mX4_house rX4_house [.ref 27, .int what] h n (mOkq (mp_house S what) (.int (nI 0)) h n) (mNX) := by
  obtain ⟨C0, h39, kx, sx, HR⟩ := id C
  obtain ⟨⟨gk_1, G28_1, GK_1⟩, ⟨gs_1, G33_1, GS_1⟩, AK_1, AS_1, NE_1, NQ_1, LE_1⟩ := id HR
  refine mm_enter hl (by decide +kernel) rfl rfl rfl (Nat.le_of_ble_eq_true rfl) ?_
  show mT _ _ _ _ 0 [.ref 27, .int what, .double 0, .double 0, .double 0] [] _ _ 0 0
  rcases hq : inN 6 what with _ | w9
  · refine mt_aload_n dX4_house_0 rfl rfl ?_
    refine mt_iload_n dX4_house_1 rfl ?_
    refine mt_iconst dX4_house_2 (v := nI 0) rfl ?_
    refine mt_iconst dX4_house_3 (v := nI 5) rfl ?_
    refine mt_callS (N := mX4_isIn) (Rc := rX4_isIn) (As := [.int what, .int (nI 0), .int (nI 5)]) (st := [.ref 27]) dX4_house_4 (kX4_isIn hl) sX4_isIn mw_1086 rfl (Nat.le_of_ble_eq_true rfl) ⟨⟨Nat.le_of_ble_eq_true rfl, Nat.le_of_ble_eq_true rfl⟩, Nat.le_of_ble_eq_true rfl, Nat.le_of_ble_eq_true rfl⟩ (fun v2 h3 n4 c5 => ?_) (fun _ _ _ hx => hx.elim)
    obtain ⟨c5a, c5b, c5c⟩ := c5
    rw [show inR what (nI 0) (nI 5) = false from inR_f (k := 5) hq (by decide)] at c5a
    rw [c5a, c5b, c5c]
    show mT _ _ _ _ 7 [.ref 27, .int what, .double 0, .double 0, .double 0] [.int (nI 0), .ref 27] _ _ _ _
    refine mt_if_eq dX4_house_7 (tgt := 14) rfl (fun q6 => ?_) (fun q6 => ?_)
    · have q6 := (mI_eq0 (by omega)).mp q6
      refine mt_iconst dX4_house_14 (v := nI 1) rfl ?_
      refine mp_putfield mKX4 (i := 6) (fs' := [.ref 28, .ref 33, .int S.2.1, .int S.2.2.1, .int S.2.2.2.1, .int S.2.2.2.2, .int (nI 1)]) (by decide) mw_1059 rfl dX4_house_15 C0 (Nat.le_of_ble_eq_true rfl) rfl rfl (fun h7 e8 f9 => ?_)
      refine mt_aload_n dX4_house_18 rfl rfl ?_
      refine mt_getfield mKX4 (i := 6) (by decide) mw_1059 dX4_house_19 e8 rfl ?_
      refine mt_iconst dX4_house_22 (v := nI 1) rfl ?_
      refine mt_icmp_ne dX4_house_23 (tgt := 28) rfl (fun q10 => ?_) (fun q10 => ?_)
      · have q10 := (not_congr (nI_eq (by omega) (by omega))).mp q10
        exact absurd q10 (by decide)
      · have q10 := (nI_eq (by omega) (by omega)).mp q10
        refine mt_iconst dX4_house_26 (v := nI 0) rfl ?_
        refine mt_ireturn dX4_house_27 rfl rfl (Nat.le_of_ble_eq_true rfl) (Nat.le_of_ble_eq_true rfl) ?_
        exact mOkq.no (k := 1) (S' := S) (by simp only [mp_house_n hq, if_pos q6, if_pos q10]) (by decide) rfl (by omega) e8 (by omega) (mRows.fr (n' := n) HR (by omega) (fun j j1 j2 j3 => f9 (j) (by omega)) (by omega)) (fun j hj => f9 j (by omega))
    · have q6 := (not_congr (mI_eq0 (by omega))).mp q6
      exact absurd q6 (by decide)
  · obtain ⟨hw9, rfl⟩ := inN_of hq (by decide)
    refine mt_aload_n dX4_house_0 rfl rfl ?_
    refine mt_iload_n dX4_house_1 rfl ?_
    refine mt_iconst dX4_house_2 (v := nI 0) rfl ?_
    refine mt_iconst dX4_house_3 (v := nI 5) rfl ?_
    refine mt_callS (N := mX4_isIn) (Rc := rX4_isIn) (As := [.int (nI w9), .int (nI 0), .int (nI 5)]) (st := [.ref 27]) dX4_house_4 (kX4_isIn hl) sX4_isIn mw_1086 rfl (Nat.le_of_ble_eq_true rfl) ⟨⟨Nat.le_of_ble_eq_true rfl, Nat.le_of_ble_eq_true rfl⟩, Nat.le_of_ble_eq_true rfl, Nat.le_of_ble_eq_true rfl⟩ (fun v11 h12 n13 c14 => ?_) (fun _ _ _ hx => hx.elim)
    obtain ⟨c14a, c14b, c14c⟩ := c14
    rw [show inR (nI w9) (nI 0) (nI 5) = true from inR_t (k := 5) hw9 (by decide)] at c14a
    rw [c14a, c14b, c14c]
    show mT _ _ _ _ 7 [.ref 27, .int (nI w9), .double 0, .double 0, .double 0] [.int (nI 1), .ref 27] _ _ _ _
    refine mt_if_eq dX4_house_7 (tgt := 14) rfl (fun q15 => ?_) (fun q15 => ?_)
    · have q15 := (mI_eq0 (by omega)).mp q15
      exact absurd q15 (by decide)
    · have q15 := (not_congr (mI_eq0 (by omega))).mp q15
      refine mt_iconst dX4_house_10 (v := nI 0) rfl ?_
      refine mt_goto dX4_house_11 (tgt := 15) rfl ?_
      refine mp_putfield mKX4 (i := 6) (fs' := [.ref 28, .ref 33, .int S.2.1, .int S.2.2.1, .int S.2.2.2.1, .int S.2.2.2.2, .int (nI 0)]) (by decide) mw_1059 rfl dX4_house_15 C0 (Nat.le_of_ble_eq_true rfl) rfl rfl (fun h16 e17 f18 => ?_)
      refine mt_aload_n dX4_house_18 rfl rfl ?_
      refine mt_getfield mKX4 (i := 6) (by decide) mw_1059 dX4_house_19 e17 rfl ?_
      refine mt_iconst dX4_house_22 (v := nI 1) rfl ?_
      refine mt_icmp_ne dX4_house_23 (tgt := 28) rfl (fun q19 => ?_) (fun q19 => ?_)
      · have q19 := (not_congr (nI_eq (by omega) (by omega))).mp q19
        refine mt_iconst dX4_house_28 (v := nI 0) rfl ?_
        refine mp_istore_n dX4_house_29 (ls' := [.ref 27, .int (nI w9), .int (nI 0), .double 0, .double 0]) rfl (by decide) rfl ?_
        refine mt_iconst dX4_house_30 (v := nI 0) rfl ?_
        refine mp_istore_n dX4_house_31 (ls' := [.ref 27, .int (nI w9), .int (nI 0), .int (nI 0), .double 0]) rfl (by decide) rfl ?_
        refine mt_iconst dX4_house_32 (v := nI 0) rfl ?_
        refine mp_istore dX4_house_33 (ls' := [.ref 27, .int (nI w9), .int (nI 0), .int (nI 0), .int (nI 0)]) rfl (by decide) rfl ?_
        refine tX4_house_35 hl e17 (mRows.fr (n' := n) HR (by omega) (fun j j1 j2 j3 => f18 (j) (by omega)) (by omega)) (by omega) (fun items_20 so_21 i_22 z23 => ?_) _ 0 0 (nI 0) (Nat.lt_succ_self _) rfl (by omega)
        refine mt_bipush dX4_house_76 (v := nI 6) (by decide) ?_
        refine mp_newarray dX4_house_78 mw_87 rfl (by omega) (by simp only [rX4_house]; omega) (by simp only [rX4_house]; omega) (fun h24 e25 f26 => ?_)
        refine mt_dup dX4_house_80 rfl ?_
        refine mt_iconst dX4_house_81 (v := nI 0) rfl ?_
        refine mt_iload_n dX4_house_82 rfl ?_
        refine mp_iastore dX4_house_83 e25 rfl (by omega) (by omega) (fun h27 e28 f29 => ?_)
        refine mt_dup dX4_house_84 rfl ?_
        refine mt_iconst dX4_house_85 (v := nI 1) rfl ?_
        refine mt_aload_n dX4_house_86 rfl rfl ?_
        refine mt_getfield mKX4 (i := 3) (by decide) mw_1056 dX4_house_87 ((f29 (27) (by omega)).trans ((f26 (27) (by omega)).trans e17)) rfl ?_
        refine mp_iastore dX4_house_90 e28 rfl (by omega) (by omega) (fun h30 e31 f32 => ?_)
        refine mt_dup dX4_house_91 rfl ?_
        refine mt_iconst dX4_house_92 (v := nI 2) rfl ?_
        refine mt_aload_n dX4_house_93 rfl rfl ?_
        refine mt_getfield mKX4 (i := 4) (by decide) mw_1057 dX4_house_94 ((f32 (27) (by omega)).trans ((f29 (27) (by omega)).trans ((f26 (27) (by omega)).trans e17))) rfl ?_
        refine mp_iastore dX4_house_97 e31 rfl (by omega) (by omega) (fun h33 e34 f35 => ?_)
        refine mt_dup dX4_house_98 rfl ?_
        refine mt_iconst dX4_house_99 (v := nI 3) rfl ?_
        refine mt_aload_n dX4_house_100 rfl rfl ?_
        refine mt_getfield mKX4 (i := 5) (by decide) mw_1058 dX4_house_101 ((f35 (27) (by omega)).trans ((f32 (27) (by omega)).trans ((f29 (27) (by omega)).trans ((f26 (27) (by omega)).trans e17)))) rfl ?_
        refine mp_iastore dX4_house_104 e34 rfl (by omega) (by omega) (fun h36 e37 f38 => ?_)
        refine mt_dup dX4_house_105 rfl ?_
        refine mt_iconst dX4_house_106 (v := nI 4) rfl ?_
        refine mt_aload_n dX4_house_107 rfl rfl ?_
        refine mt_getfield mKX4 (i := 2) (by decide) mw_1055 dX4_house_108 ((f38 (27) (by omega)).trans ((f35 (27) (by omega)).trans ((f32 (27) (by omega)).trans ((f29 (27) (by omega)).trans ((f26 (27) (by omega)).trans e17))))) rfl ?_
        refine mp_iastore dX4_house_111 e37 rfl (by omega) (by omega) (fun h39 e40 f41 => ?_)
        refine mt_dup dX4_house_112 rfl ?_
        refine mt_iconst dX4_house_113 (v := nI 5) rfl ?_
        refine mt_iload_n dX4_house_114 rfl ?_
        refine mp_iastore dX4_house_115 e40 rfl (by omega) (by omega) (fun h42 e43 f44 => ?_)
        refine mp_astore dX4_house_116 (ls' := [.ref 27, .int (nI w9), .int (nI items_20), .int so_21, .ref n]) rfl rfl (by decide) rfl ?_
        refine mt_aload dX4_house_118 rfl rfl ?_
        obtain rfl | rfl | rfl | rfl | rfl | rfl : w9 = 0 ∨ w9 = 1 ∨ w9 = 2 ∨ w9 = 3 ∨ w9 = 4 ∨ w9 = 5 := by omega
        · refine mt_iload_n dX4_house_120 rfl ?_
          refine mp_iaload dX4_house_121 e43 rfl (by omega) (by omega) (v := (upd (upd (upd (upd (upd (upd (fun _ => (0 : Int32)) 0 (nI items_20)) 1 S.2.2.1) 2 S.2.2.2.1) 3 S.2.2.2.2) 4 S.2.1) 5 so_21) 0) rfl ?_
          refine mt_ireturn dX4_house_122 rfl rfl (by simp only [rX4_house]; omega) (by simp only [rX4_house]; omega) ?_
          exact mOkq.of (x := .int ((upd (upd (upd (upd (upd (upd (fun _ => (0 : Int32)) 0 (nI items_20)) 1 S.2.2.1) 2 S.2.2.2.1) 3 S.2.2.2.2) 4 S.2.1) 5 so_21) 0)) (S' := ((S).1, S.2.1, S.2.2.1, S.2.2.2.1, S.2.2.2.2)) (by rw [mp_house_s (w := 0) (by decide)]; simp only [mq_house]; first | (rw [← (show (items_20, so_21) = mhF S from z23)]; simp [upd]; done) | (simp [upd]; done)) rfl (by omega) ((f44 (27) (by omega)).trans ((f41 (27) (by omega)).trans ((f38 (27) (by omega)).trans ((f35 (27) (by omega)).trans ((f32 (27) (by omega)).trans ((f29 (27) (by omega)).trans ((f26 (27) (by omega)).trans e17))))))) (by omega) (mRows.fr (n' := n + 1) HR (by omega) (fun j j1 j2 j3 => (f44 (j) (by omega)).trans ((f41 (j) (by omega)).trans ((f38 (j) (by omega)).trans ((f35 (j) (by omega)).trans ((f32 (j) (by omega)).trans ((f29 (j) (by omega)).trans ((f26 (j) (by omega)).trans (f18 (j) (by omega))))))))) (by omega)) (fun j hj => (f44 j (by omega)).trans ((f41 j (by omega)).trans ((f38 j (by omega)).trans ((f35 j (by omega)).trans ((f32 j (by omega)).trans ((f29 j (by omega)).trans ((f26 j (by omega)).trans (f18 j (by omega)))))))))
        · refine mt_iload_n dX4_house_120 rfl ?_
          refine mp_iaload dX4_house_121 e43 rfl (by omega) (by omega) (v := (upd (upd (upd (upd (upd (upd (fun _ => (0 : Int32)) 0 (nI items_20)) 1 S.2.2.1) 2 S.2.2.2.1) 3 S.2.2.2.2) 4 S.2.1) 5 so_21) 1) rfl ?_
          refine mt_ireturn dX4_house_122 rfl rfl (by simp only [rX4_house]; omega) (by simp only [rX4_house]; omega) ?_
          exact mOkq.of (x := .int ((upd (upd (upd (upd (upd (upd (fun _ => (0 : Int32)) 0 (nI items_20)) 1 S.2.2.1) 2 S.2.2.2.1) 3 S.2.2.2.2) 4 S.2.1) 5 so_21) 1)) (S' := ((S).1, S.2.1, S.2.2.1, S.2.2.2.1, S.2.2.2.2)) (by rw [mp_house_s (w := 1) (by decide)]; simp only [mq_house]; first | (rw [← (show (items_20, so_21) = mhF S from z23)]; simp [upd]; done) | (simp [upd]; done)) rfl (by omega) ((f44 (27) (by omega)).trans ((f41 (27) (by omega)).trans ((f38 (27) (by omega)).trans ((f35 (27) (by omega)).trans ((f32 (27) (by omega)).trans ((f29 (27) (by omega)).trans ((f26 (27) (by omega)).trans e17))))))) (by omega) (mRows.fr (n' := n + 1) HR (by omega) (fun j j1 j2 j3 => (f44 (j) (by omega)).trans ((f41 (j) (by omega)).trans ((f38 (j) (by omega)).trans ((f35 (j) (by omega)).trans ((f32 (j) (by omega)).trans ((f29 (j) (by omega)).trans ((f26 (j) (by omega)).trans (f18 (j) (by omega))))))))) (by omega)) (fun j hj => (f44 j (by omega)).trans ((f41 j (by omega)).trans ((f38 j (by omega)).trans ((f35 j (by omega)).trans ((f32 j (by omega)).trans ((f29 j (by omega)).trans ((f26 j (by omega)).trans (f18 j (by omega)))))))))
        · refine mt_iload_n dX4_house_120 rfl ?_
          refine mp_iaload dX4_house_121 e43 rfl (by omega) (by omega) (v := (upd (upd (upd (upd (upd (upd (fun _ => (0 : Int32)) 0 (nI items_20)) 1 S.2.2.1) 2 S.2.2.2.1) 3 S.2.2.2.2) 4 S.2.1) 5 so_21) 2) rfl ?_
          refine mt_ireturn dX4_house_122 rfl rfl (by simp only [rX4_house]; omega) (by simp only [rX4_house]; omega) ?_
          exact mOkq.of (x := .int ((upd (upd (upd (upd (upd (upd (fun _ => (0 : Int32)) 0 (nI items_20)) 1 S.2.2.1) 2 S.2.2.2.1) 3 S.2.2.2.2) 4 S.2.1) 5 so_21) 2)) (S' := ((S).1, S.2.1, S.2.2.1, S.2.2.2.1, S.2.2.2.2)) (by rw [mp_house_s (w := 2) (by decide)]; simp only [mq_house]; first | (rw [← (show (items_20, so_21) = mhF S from z23)]; simp [upd]; done) | (simp [upd]; done)) rfl (by omega) ((f44 (27) (by omega)).trans ((f41 (27) (by omega)).trans ((f38 (27) (by omega)).trans ((f35 (27) (by omega)).trans ((f32 (27) (by omega)).trans ((f29 (27) (by omega)).trans ((f26 (27) (by omega)).trans e17))))))) (by omega) (mRows.fr (n' := n + 1) HR (by omega) (fun j j1 j2 j3 => (f44 (j) (by omega)).trans ((f41 (j) (by omega)).trans ((f38 (j) (by omega)).trans ((f35 (j) (by omega)).trans ((f32 (j) (by omega)).trans ((f29 (j) (by omega)).trans ((f26 (j) (by omega)).trans (f18 (j) (by omega))))))))) (by omega)) (fun j hj => (f44 j (by omega)).trans ((f41 j (by omega)).trans ((f38 j (by omega)).trans ((f35 j (by omega)).trans ((f32 j (by omega)).trans ((f29 j (by omega)).trans ((f26 j (by omega)).trans (f18 j (by omega)))))))))
        · refine mt_iload_n dX4_house_120 rfl ?_
          refine mp_iaload dX4_house_121 e43 rfl (by omega) (by omega) (v := (upd (upd (upd (upd (upd (upd (fun _ => (0 : Int32)) 0 (nI items_20)) 1 S.2.2.1) 2 S.2.2.2.1) 3 S.2.2.2.2) 4 S.2.1) 5 so_21) 3) rfl ?_
          refine mt_ireturn dX4_house_122 rfl rfl (by simp only [rX4_house]; omega) (by simp only [rX4_house]; omega) ?_
          exact mOkq.of (x := .int ((upd (upd (upd (upd (upd (upd (fun _ => (0 : Int32)) 0 (nI items_20)) 1 S.2.2.1) 2 S.2.2.2.1) 3 S.2.2.2.2) 4 S.2.1) 5 so_21) 3)) (S' := ((S).1, S.2.1, S.2.2.1, S.2.2.2.1, S.2.2.2.2)) (by rw [mp_house_s (w := 3) (by decide)]; simp only [mq_house]; first | (rw [← (show (items_20, so_21) = mhF S from z23)]; simp [upd]; done) | (simp [upd]; done)) rfl (by omega) ((f44 (27) (by omega)).trans ((f41 (27) (by omega)).trans ((f38 (27) (by omega)).trans ((f35 (27) (by omega)).trans ((f32 (27) (by omega)).trans ((f29 (27) (by omega)).trans ((f26 (27) (by omega)).trans e17))))))) (by omega) (mRows.fr (n' := n + 1) HR (by omega) (fun j j1 j2 j3 => (f44 (j) (by omega)).trans ((f41 (j) (by omega)).trans ((f38 (j) (by omega)).trans ((f35 (j) (by omega)).trans ((f32 (j) (by omega)).trans ((f29 (j) (by omega)).trans ((f26 (j) (by omega)).trans (f18 (j) (by omega))))))))) (by omega)) (fun j hj => (f44 j (by omega)).trans ((f41 j (by omega)).trans ((f38 j (by omega)).trans ((f35 j (by omega)).trans ((f32 j (by omega)).trans ((f29 j (by omega)).trans ((f26 j (by omega)).trans (f18 j (by omega)))))))))
        · refine mt_iload_n dX4_house_120 rfl ?_
          refine mp_iaload dX4_house_121 e43 rfl (by omega) (by omega) (v := (upd (upd (upd (upd (upd (upd (fun _ => (0 : Int32)) 0 (nI items_20)) 1 S.2.2.1) 2 S.2.2.2.1) 3 S.2.2.2.2) 4 S.2.1) 5 so_21) 4) rfl ?_
          refine mt_ireturn dX4_house_122 rfl rfl (by simp only [rX4_house]; omega) (by simp only [rX4_house]; omega) ?_
          exact mOkq.of (x := .int ((upd (upd (upd (upd (upd (upd (fun _ => (0 : Int32)) 0 (nI items_20)) 1 S.2.2.1) 2 S.2.2.2.1) 3 S.2.2.2.2) 4 S.2.1) 5 so_21) 4)) (S' := ((S).1, S.2.1, S.2.2.1, S.2.2.2.1, S.2.2.2.2)) (by rw [mp_house_s (w := 4) (by decide)]; simp only [mq_house]; first | (rw [← (show (items_20, so_21) = mhF S from z23)]; simp [upd]; done) | (simp [upd]; done)) rfl (by omega) ((f44 (27) (by omega)).trans ((f41 (27) (by omega)).trans ((f38 (27) (by omega)).trans ((f35 (27) (by omega)).trans ((f32 (27) (by omega)).trans ((f29 (27) (by omega)).trans ((f26 (27) (by omega)).trans e17))))))) (by omega) (mRows.fr (n' := n + 1) HR (by omega) (fun j j1 j2 j3 => (f44 (j) (by omega)).trans ((f41 (j) (by omega)).trans ((f38 (j) (by omega)).trans ((f35 (j) (by omega)).trans ((f32 (j) (by omega)).trans ((f29 (j) (by omega)).trans ((f26 (j) (by omega)).trans (f18 (j) (by omega))))))))) (by omega)) (fun j hj => (f44 j (by omega)).trans ((f41 j (by omega)).trans ((f38 j (by omega)).trans ((f35 j (by omega)).trans ((f32 j (by omega)).trans ((f29 j (by omega)).trans ((f26 j (by omega)).trans (f18 j (by omega)))))))))
        · refine mt_iload_n dX4_house_120 rfl ?_
          refine mp_iaload dX4_house_121 e43 rfl (by omega) (by omega) (v := (upd (upd (upd (upd (upd (upd (fun _ => (0 : Int32)) 0 (nI items_20)) 1 S.2.2.1) 2 S.2.2.2.1) 3 S.2.2.2.2) 4 S.2.1) 5 so_21) 5) rfl ?_
          refine mt_ireturn dX4_house_122 rfl rfl (by simp only [rX4_house]; omega) (by simp only [rX4_house]; omega) ?_
          exact mOkq.of (x := .int ((upd (upd (upd (upd (upd (upd (fun _ => (0 : Int32)) 0 (nI items_20)) 1 S.2.2.1) 2 S.2.2.2.1) 3 S.2.2.2.2) 4 S.2.1) 5 so_21) 5)) (S' := ((S).1, S.2.1, S.2.2.1, S.2.2.2.1, S.2.2.2.2)) (by rw [mp_house_s (w := 5) (by decide)]; simp only [mq_house]; first | (rw [← (show (items_20, so_21) = mhF S from z23)]; simp [upd]; done) | (simp [upd]; done)) rfl (by omega) ((f44 (27) (by omega)).trans ((f41 (27) (by omega)).trans ((f38 (27) (by omega)).trans ((f35 (27) (by omega)).trans ((f32 (27) (by omega)).trans ((f29 (27) (by omega)).trans ((f26 (27) (by omega)).trans e17))))))) (by omega) (mRows.fr (n' := n + 1) HR (by omega) (fun j j1 j2 j3 => (f44 (j) (by omega)).trans ((f41 (j) (by omega)).trans ((f38 (j) (by omega)).trans ((f35 (j) (by omega)).trans ((f32 (j) (by omega)).trans ((f29 (j) (by omega)).trans ((f26 (j) (by omega)).trans (f18 (j) (by omega))))))))) (by omega)) (fun j hj => (f44 j (by omega)).trans ((f41 j (by omega)).trans ((f38 j (by omega)).trans ((f35 j (by omega)).trans ((f32 j (by omega)).trans ((f29 j (by omega)).trans ((f26 j (by omega)).trans (f18 j (by omega)))))))))
      · have q19 := (nI_eq (by omega) (by omega)).mp q19
        exact absurd q19 (by decide)
abbrev rX4_digest : Room := { frames := 3, cells := 10, slots := 72, locals := 70 }
set_option maxRecDepth 100000 in
set_option maxHeartbeats 2000000 in
theorem tX4_digest_107 {l : Launch} {R : Room} {K : mK} {cc sc : Nat} {h : mH} {n a9 i : Nat} {S : cS} {r9 : Int64} {f9 : Nat → Int32} (e9 : h a9 = .inl (0, 9, f9)) (hf9 : ∀ k, k < 9 → f9 k = mdA S i k) (kk0 : ∀ (d : Int64) (k : Nat), (d = r9) → mT l mX4_digest R K 137 [.ref 27, .long d, .double 0, .int (nI i), .ref a9, .ref a9, .int (nI 9), .int (nI k), .double 0] [] h n cc sc) : ∀ (N0 : Nat) (k : Nat) (d : Int64), (9 - k) < N0 → (mlp (mdS S i) (9 - k) k d = r9) → (k ≤ 9) → mT l mX4_digest R K 107 [.ref 27, .long d, .double 0, .int (nI i), .ref a9, .ref a9, .int (nI 9), .int (nI k), .double 0] [] h n cc sc := by
  intro N0
  induction N0 with
  | zero => intro k d hm; exact absurd hm (Nat.not_lt_zero _)
  | succ N0 ih =>
    intro k d hm hr9 hk
    refine mt_iload dX4_digest_107 rfl ?_
    refine mt_iload dX4_digest_109 rfl ?_
    refine mt_icmp_ge dX4_digest_111 (tgt := 137) rfl (fun q1 => ?_) (fun q1 => ?_)
    · have q1 := Int32.not_lt.mpr q1
      have q1 := (not_congr (nI_ltI (by omega) (by omega))).mp q1
      exact kk0 d k ((mlp_end (f := mdS S i) (by omega)).symm.trans hr9)
    · have q1 := Int32.not_le.mp q1
      have q1 := (nI_ltI (by omega) (by omega)).mp q1
      refine mt_aload dX4_digest_114 rfl rfl ?_
      refine mt_iload dX4_digest_116 rfl ?_
      refine mp_iaload dX4_digest_118 e9 rfl (by omega) (by omega) (v := mdA S i k) (hf9 _ (by omega)) ?_
      refine mp_istore dX4_digest_119 (ls' := [.ref 27, .long d, .double 0, .int (nI i), .ref a9, .ref a9, .int (nI 9), .int (nI k), .int (mdA S i k)]) rfl (by decide) rfl ?_
      refine mt_lload_n dX4_digest_121 rfl ?_
      refine mt_ldc2 (v := 31) dX4_digest_122 mw_1369 ?_
      refine mt_lmul dX4_digest_125 ?_
      refine mt_iload dX4_digest_126 rfl ?_
      refine mt_i2l dX4_digest_128 ?_
      refine mt_ladd dX4_digest_129 ?_
      refine mp_lstore_n dX4_digest_130 (ls' := [.ref 27, .long ((d * 31) + ((mdA S i k).toInt64)), .double 0, .int (nI i), .ref a9, .ref a9, .int (nI 9), .int (nI k), .int (mdA S i k)]) rfl (by decide) rfl ?_
      refine mp_iinc dX4_digest_131 rfl (v := nI (k + 1)) mI_inc (ls' := [.ref 27, .long ((d * 31) + ((mdA S i k).toInt64)), .double 0, .int (nI i), .ref a9, .ref a9, .int (nI 9), .int (nI (k + 1)), .int (mdA S i k)]) rfl (by decide) rfl ?_
      refine mt_goto dX4_digest_134 (tgt := 107) rfl ?_
      refine mt_drop 8 (ls' := [.ref 27, .long ((d * 31) + ((mdA S i k).toInt64)), .double 0, .int (nI i), .ref a9, .ref a9, .int (nI 9), .int (nI (k + 1)), .double 0]) rfl ?_
      exact ih (k + 1) ((d * 31) + ((mdA S i k).toInt64)) (by omega) ((mlp_go (f := mdS S i) (by omega) rfl).symm.trans hr9) (by omega)
set_option maxRecDepth 100000 in
set_option maxHeartbeats 2000000 in
theorem tX4_digest_6 {l : Launch} {K : mK} {S : cS} {r9 : Int64} {h0 : mH} {n0 : Nat} (hl : l.stackTraces = false) (kk0 : ∀ (i : Nat) (d : Int64) (h : mH) (n : Nat) (th : Int32), (mAt h n S th) → (n0 ≤ n) → (∀ j, (j < n0 ∧ j ≠ 27) → h j = h0 j) → (d = r9) → mT l mX4_digest rX4_digest K 143 [.ref 27, .long d, .double 0, .int (nI i), .double 0, .double 0, .double 0, .double 0, .double 0] [] h n 4 36) : ∀ (N0 : Nat) (i : Nat) (d : Int64) (h : mH) (n : Nat) (th : Int32), (4 - i) < N0 → (mAt h n S th) → (n0 ≤ n) → (∀ j, (j < n0 ∧ j ≠ 27) → h j = h0 j) → (mlp (mdRow S) (4 - i) i d = r9) → (i ≤ 4) → mT l mX4_digest rX4_digest K 6 [.ref 27, .long d, .double 0, .int (nI i), .double 0, .double 0, .double 0, .double 0, .double 0] [] h n (1 * i) (9 * i) := by
  intro N0
  induction N0 with
  | zero => intro i d h n th hm; exact absurd hm (Nat.not_lt_zero _)
  | succ N0 ih =>
    intro i d h n th hm C hn0 hfr hr9 hi
    obtain ⟨C0, h39, kx, sx, HR⟩ := id C
    obtain ⟨⟨gk_1, G28_1, GK_1⟩, ⟨gs_1, G33_1, GS_1⟩, AK_1, AS_1, NE_1, NQ_1, LE_1⟩ := id HR
    refine mt_iload_n dX4_digest_6 rfl ?_
    refine mt_iconst dX4_digest_7 (v := nI 4) rfl ?_
    refine mt_icmp_ge dX4_digest_8 (tgt := 143) rfl (fun q2 => ?_) (fun q2 => ?_)
    · have q2 := Int32.not_lt.mpr q2
      have q2 := (not_congr (nI_ltI (by omega) (by omega))).mp q2
      refine mt_widen (cc' := 4) (sc' := 36) (by first | omega | (simp only [rX4_many, rX4_mark, rX4_wrong, rX4_ties, rX4_runs, rX4_longest, rX4_sum, rX4_unlike_, rX4_house, rX4_digest]; omega)) (by first | omega | (simp only [rX4_many, rX4_mark, rX4_wrong, rX4_ties, rX4_runs, rX4_longest, rX4_sum, rX4_unlike_, rX4_house, rX4_digest]; omega)) ?_
      exact kk0 i d h n th C hn0 hfr ((mlp_end (f := mdRow S) (by omega)).symm.trans hr9)
    · have q2 := Int32.not_le.mp q2
      have q2 := (nI_ltI (by omega) (by omega)).mp q2
      refine mt_bipush dX4_digest_11 (v := nI 9) (by decide) ?_
      refine mp_newarray dX4_digest_13 mw_87 rfl (by omega) (by simp only [rX4_digest]; omega) (by simp only [rX4_digest]; omega) (fun h3 e4 f5 => ?_)
      refine mt_dup dX4_digest_15 rfl ?_
      refine mt_iconst dX4_digest_16 (v := nI 0) rfl ?_
      refine mt_aload_n dX4_digest_17 rfl rfl ?_
      refine mt_iload_n dX4_digest_18 rfl ?_
      have hs6 := show sp_many S (nI i) = (0, .int (nI (S.1 i).length), S) from by simp only [sp_many, dAt_s (show i < 4 by omega) (by decide)]
      have hmhs6 : mAt h3 (n + 1) S th := ⟨(f5 (27) (by omega)).trans C0, by omega, _, _, mRows.fr (n' := n + 1) HR (by omega) (fun j j1 j2 j3 => f5 (j) (by omega)) (by omega)⟩
      refine mt_callV (N := mX4_many) (Rc := rX4_many) (As := [.int (nI i)]) (st := [.int (nI 0), .ref n, .ref n]) dX4_digest_19 (kX4_many hl hmhs6) sX4_many mw_1361 mKX4 rfl ((f5 (27) (by omega)).trans C0) rfl (Nat.le_of_ble_eq_true rfl) ⟨⟨Nat.le_of_ble_eq_true rfl, Nat.le_of_ble_eq_true rfl⟩, (by simp only [rX4_many, rX4_mark, rX4_wrong, rX4_ties, rX4_runs, rX4_longest, rX4_sum, rX4_unlike_, rX4_house, rX4_digest]; omega), (by simp only [rX4_many, rX4_mark, rX4_wrong, rX4_ties, rX4_runs, rX4_longest, rX4_sum, rX4_unlike_, rX4_house, rX4_digest]; omega)⟩ (fun v7 h8 n9 c10 => ?_) (fun _ _ _ hx => hx.elim)
      obtain ⟨c10a, c10b, c10c, c10d⟩ := c10.use hs6
      rw [c10a]
      show mT _ _ _ _ 22 [.ref 27, .long d, .double 0, .int (nI i), .double 0, .double 0, .double 0, .double 0, .double 0] [.int (nI ((S.1 i).length)), .int (nI 0), .ref n, .ref n] _ _ _ _
      refine mp_iastore dX4_digest_22 ((c10d (n) (by omega)).trans e4) rfl (by omega) (by omega) (fun h11 e12 f13 => ?_)
      refine mt_dup dX4_digest_23 rfl ?_
      refine mt_iconst dX4_digest_24 (v := nI 1) rfl ?_
      refine mt_aload_n dX4_digest_25 rfl rfl ?_
      refine mt_iload_n dX4_digest_26 rfl ?_
      refine mt_iconst dX4_digest_27 (v := nI 0) rfl ?_
      have hs14 := show sp_mark S (nI i) false = (0, .int (q_mark (S.1 i) false), S) from by simp only [sp_mark, dAt_s (show i < 4 by omega) (by decide)]
      have hmhs14 : mAt h11 n9 S (nI 0) := ⟨(f13 (27) (by omega)).trans c10c.1, by omega, _, _, mRows.fr (n' := n9) HR (by omega) (fun j j1 j2 j3 => (f13 (j) (by omega)).trans ((c10d (j) (by omega)).trans (f5 (j) (by omega)))) (by omega)⟩
      refine mt_callV (N := mX4_mark) (Rc := rX4_mark) (As := [.int (nI i), .int (nI 0)]) (st := [.int (nI 1), .ref n, .ref n]) dX4_digest_28 (kX4_mark (isStamps := false) hl hmhs14) sX4_mark mw_1362 mKX4 rfl ((f13 (27) (by omega)).trans c10c.1) rfl (Nat.le_of_ble_eq_true rfl) ⟨⟨Nat.le_of_ble_eq_true rfl, Nat.le_of_ble_eq_true rfl⟩, (by simp only [rX4_many, rX4_mark, rX4_wrong, rX4_ties, rX4_runs, rX4_longest, rX4_sum, rX4_unlike_, rX4_house, rX4_digest]; omega), (by simp only [rX4_many, rX4_mark, rX4_wrong, rX4_ties, rX4_runs, rX4_longest, rX4_sum, rX4_unlike_, rX4_house, rX4_digest]; omega)⟩ (fun v15 h16 n17 c18 => ?_) (fun _ _ _ hx => hx.elim)
      obtain ⟨c18a, c18b, c18c, c18d⟩ := c18.use hs14
      rw [c18a]
      show mT _ _ _ _ 31 [.ref 27, .long d, .double 0, .int (nI i), .double 0, .double 0, .double 0, .double 0, .double 0] [.int (q_mark (S.1 i) false), .int (nI 1), .ref n, .ref n] _ _ _ _
      refine mp_iastore dX4_digest_31 ((c18d (n) (by omega)).trans e12) rfl (by omega) (by omega) (fun h19 e20 f21 => ?_)
      refine mt_dup dX4_digest_32 rfl ?_
      refine mt_iconst dX4_digest_33 (v := nI 2) rfl ?_
      refine mt_aload_n dX4_digest_34 rfl rfl ?_
      refine mt_iload_n dX4_digest_35 rfl ?_
      refine mt_iconst dX4_digest_36 (v := nI 1) rfl ?_
      have hs22 := show sp_mark S (nI i) true = (0, .int (q_mark (S.1 i) true), S) from by simp only [sp_mark, dAt_s (show i < 4 by omega) (by decide)]
      have hmhs22 : mAt h19 n17 S (nI 0) := ⟨(f21 (27) (by omega)).trans c18c.1, by omega, _, _, mRows.fr (n' := n17) HR (by omega) (fun j j1 j2 j3 => (f21 (j) (by omega)).trans ((c18d (j) (by omega)).trans ((f13 (j) (by omega)).trans ((c10d (j) (by omega)).trans (f5 (j) (by omega)))))) (by omega)⟩
      refine mt_callV (N := mX4_mark) (Rc := rX4_mark) (As := [.int (nI i), .int (nI 1)]) (st := [.int (nI 2), .ref n, .ref n]) dX4_digest_37 (kX4_mark (isStamps := true) hl hmhs22) sX4_mark mw_1362 mKX4 rfl ((f21 (27) (by omega)).trans c18c.1) rfl (Nat.le_of_ble_eq_true rfl) ⟨⟨Nat.le_of_ble_eq_true rfl, Nat.le_of_ble_eq_true rfl⟩, (by simp only [rX4_many, rX4_mark, rX4_wrong, rX4_ties, rX4_runs, rX4_longest, rX4_sum, rX4_unlike_, rX4_house, rX4_digest]; omega), (by simp only [rX4_many, rX4_mark, rX4_wrong, rX4_ties, rX4_runs, rX4_longest, rX4_sum, rX4_unlike_, rX4_house, rX4_digest]; omega)⟩ (fun v23 h24 n25 c26 => ?_) (fun _ _ _ hx => hx.elim)
      obtain ⟨c26a, c26b, c26c, c26d⟩ := c26.use hs22
      rw [c26a]
      show mT _ _ _ _ 40 [.ref 27, .long d, .double 0, .int (nI i), .double 0, .double 0, .double 0, .double 0, .double 0] [.int (q_mark (S.1 i) true), .int (nI 2), .ref n, .ref n] _ _ _ _
      refine mp_iastore dX4_digest_40 ((c26d (n) (by omega)).trans e20) rfl (by omega) (by omega) (fun h27 e28 f29 => ?_)
      refine mt_dup dX4_digest_41 rfl ?_
      refine mt_iconst dX4_digest_42 (v := nI 3) rfl ?_
      refine mt_aload_n dX4_digest_43 rfl rfl ?_
      refine mt_iload_n dX4_digest_44 rfl ?_
      refine mt_iconst dX4_digest_45 (v := nI 0) rfl ?_
      have hs30 := show mp_wrong S (nI i) (nI 0) = (0, .int (mq_pairs (S.1 i) (nI 1)), S) from by simp only [mp_wrong, dAt_s (show i < 4 by omega) (by decide), dArg_s (k := 2) (j := 0) (by decide) (by decide)]
      have hmhs30 : mAt h27 n25 S (nI 0) := ⟨(f29 (27) (by omega)).trans c26c.1, by omega, _, _, mRows.fr (n' := n25) HR (by omega) (fun j j1 j2 j3 => (f29 (j) (by omega)).trans ((c26d (j) (by omega)).trans ((f21 (j) (by omega)).trans ((c18d (j) (by omega)).trans ((f13 (j) (by omega)).trans ((c10d (j) (by omega)).trans (f5 (j) (by omega)))))))) (by omega)⟩
      refine mt_callV (N := mX4_wrong) (Rc := rX4_wrong) (As := [.int (nI i), .int (nI 0)]) (st := [.int (nI 3), .ref n, .ref n]) dX4_digest_46 (kX4_wrong hl hmhs30) sX4_wrong mw_1363 mKX4 rfl ((f29 (27) (by omega)).trans c26c.1) rfl (Nat.le_of_ble_eq_true rfl) ⟨⟨Nat.le_of_ble_eq_true rfl, Nat.le_of_ble_eq_true rfl⟩, (by simp only [rX4_many, rX4_mark, rX4_wrong, rX4_ties, rX4_runs, rX4_longest, rX4_sum, rX4_unlike_, rX4_house, rX4_digest]; omega), (by simp only [rX4_many, rX4_mark, rX4_wrong, rX4_ties, rX4_runs, rX4_longest, rX4_sum, rX4_unlike_, rX4_house, rX4_digest]; omega)⟩ (fun v31 h32 n33 c34 => ?_) (fun _ _ _ hx => hx.elim)
      obtain ⟨c34a, c34b, c34c, c34d⟩ := c34.use hs30
      rw [c34a]
      show mT _ _ _ _ 49 [.ref 27, .long d, .double 0, .int (nI i), .double 0, .double 0, .double 0, .double 0, .double 0] [.int (mq_pairs (S.1 i) (nI 1)), .int (nI 3), .ref n, .ref n] _ _ _ _
      refine mp_iastore dX4_digest_49 ((c34d (n) (by omega)).trans e28) rfl (by omega) (by omega) (fun h35 e36 f37 => ?_)
      refine mt_dup dX4_digest_50 rfl ?_
      refine mt_iconst dX4_digest_51 (v := nI 4) rfl ?_
      refine mt_aload_n dX4_digest_52 rfl rfl ?_
      refine mt_iload_n dX4_digest_53 rfl ?_
      have hs38 := show mp_ties S (nI i) = (0, .int (mq_pairs (S.1 i) (nI 0)), S) from by simp only [mp_ties, dAt_s (show i < 4 by omega) (by decide)]
      have hmhs38 : mAt h35 n33 S (nI 0) := ⟨(f37 (27) (by omega)).trans c34c.1, by omega, _, _, mRows.fr (n' := n33) HR (by omega) (fun j j1 j2 j3 => (f37 (j) (by omega)).trans ((c34d (j) (by omega)).trans ((f29 (j) (by omega)).trans ((c26d (j) (by omega)).trans ((f21 (j) (by omega)).trans ((c18d (j) (by omega)).trans ((f13 (j) (by omega)).trans ((c10d (j) (by omega)).trans (f5 (j) (by omega)))))))))) (by omega)⟩
      refine mt_callV (N := mX4_ties) (Rc := rX4_ties) (As := [.int (nI i)]) (st := [.int (nI 4), .ref n, .ref n]) dX4_digest_54 (kX4_ties hl hmhs38) sX4_ties mw_1364 mKX4 rfl ((f37 (27) (by omega)).trans c34c.1) rfl (Nat.le_of_ble_eq_true rfl) ⟨⟨Nat.le_of_ble_eq_true rfl, Nat.le_of_ble_eq_true rfl⟩, (by simp only [rX4_many, rX4_mark, rX4_wrong, rX4_ties, rX4_runs, rX4_longest, rX4_sum, rX4_unlike_, rX4_house, rX4_digest]; omega), (by simp only [rX4_many, rX4_mark, rX4_wrong, rX4_ties, rX4_runs, rX4_longest, rX4_sum, rX4_unlike_, rX4_house, rX4_digest]; omega)⟩ (fun v39 h40 n41 c42 => ?_) (fun _ _ _ hx => hx.elim)
      obtain ⟨c42a, c42b, c42c, c42d⟩ := c42.use hs38
      rw [c42a]
      show mT _ _ _ _ 57 [.ref 27, .long d, .double 0, .int (nI i), .double 0, .double 0, .double 0, .double 0, .double 0] [.int (mq_pairs (S.1 i) (nI 0)), .int (nI 4), .ref n, .ref n] _ _ _ _
      refine mp_iastore dX4_digest_57 ((c42d (n) (by omega)).trans e36) rfl (by omega) (by omega) (fun h43 e44 f45 => ?_)
      refine mt_dup dX4_digest_58 rfl ?_
      refine mt_iconst dX4_digest_59 (v := nI 5) rfl ?_
      refine mt_aload_n dX4_digest_60 rfl rfl ?_
      refine mt_iload_n dX4_digest_61 rfl ?_
      have hs46 := show mp_runs S (nI i) = (0, .int (mruns (S.1 i) (S.1 i).length 0 (nI 0)), S) from by simp only [mp_runs, dAt_s (show i < 4 by omega) (by decide)]
      have hmhs46 : mAt h43 n41 S (nI 0) := ⟨(f45 (27) (by omega)).trans c42c.1, by omega, _, _, mRows.fr (n' := n41) HR (by omega) (fun j j1 j2 j3 => (f45 (j) (by omega)).trans ((c42d (j) (by omega)).trans ((f37 (j) (by omega)).trans ((c34d (j) (by omega)).trans ((f29 (j) (by omega)).trans ((c26d (j) (by omega)).trans ((f21 (j) (by omega)).trans ((c18d (j) (by omega)).trans ((f13 (j) (by omega)).trans ((c10d (j) (by omega)).trans (f5 (j) (by omega)))))))))))) (by omega)⟩
      refine mt_callV (N := mX4_runs) (Rc := rX4_runs) (As := [.int (nI i)]) (st := [.int (nI 5), .ref n, .ref n]) dX4_digest_62 (kX4_runs hl hmhs46) sX4_runs mw_1365 mKX4 rfl ((f45 (27) (by omega)).trans c42c.1) rfl (Nat.le_of_ble_eq_true rfl) ⟨⟨Nat.le_of_ble_eq_true rfl, Nat.le_of_ble_eq_true rfl⟩, (by simp only [rX4_many, rX4_mark, rX4_wrong, rX4_ties, rX4_runs, rX4_longest, rX4_sum, rX4_unlike_, rX4_house, rX4_digest]; omega), (by simp only [rX4_many, rX4_mark, rX4_wrong, rX4_ties, rX4_runs, rX4_longest, rX4_sum, rX4_unlike_, rX4_house, rX4_digest]; omega)⟩ (fun v47 h48 n49 c50 => ?_) (fun _ _ _ hx => hx.elim)
      obtain ⟨c50a, c50b, c50c, c50d⟩ := c50.use hs46
      rw [c50a]
      show mT _ _ _ _ 65 [.ref 27, .long d, .double 0, .int (nI i), .double 0, .double 0, .double 0, .double 0, .double 0] [.int (mruns (S.1 i) (S.1 i).length 0 (nI 0)), .int (nI 5), .ref n, .ref n] _ _ _ _
      refine mp_iastore dX4_digest_65 ((c50d (n) (by omega)).trans e44) rfl (by omega) (by omega) (fun h51 e52 f53 => ?_)
      refine mt_dup dX4_digest_66 rfl ?_
      refine mt_bipush dX4_digest_67 (v := nI 6) (by decide) ?_
      refine mt_aload_n dX4_digest_69 rfl rfl ?_
      refine mt_iload_n dX4_digest_70 rfl ?_
      have hs54 := show mp_longest S (nI i) = (0, .int (nI (mlp (lgS (S.1 i)) ((S.1 i).length - 0) 0 0)), S) from by simp only [mp_longest, dAt_s (show i < 4 by omega) (by decide)]
      have hmhs54 : mAt h51 n49 S (nI 0) := ⟨(f53 (27) (by omega)).trans c50c.1, by omega, _, _, mRows.fr (n' := n49) HR (by omega) (fun j j1 j2 j3 => (f53 (j) (by omega)).trans ((c50d (j) (by omega)).trans ((f45 (j) (by omega)).trans ((c42d (j) (by omega)).trans ((f37 (j) (by omega)).trans ((c34d (j) (by omega)).trans ((f29 (j) (by omega)).trans ((c26d (j) (by omega)).trans ((f21 (j) (by omega)).trans ((c18d (j) (by omega)).trans ((f13 (j) (by omega)).trans ((c10d (j) (by omega)).trans (f5 (j) (by omega)))))))))))))) (by omega)⟩
      refine mt_callV (N := mX4_longest) (Rc := rX4_longest) (As := [.int (nI i)]) (st := [.int (nI 6), .ref n, .ref n]) dX4_digest_71 (kX4_longest hl hmhs54) sX4_longest mw_1366 mKX4 rfl ((f53 (27) (by omega)).trans c50c.1) rfl (Nat.le_of_ble_eq_true rfl) ⟨⟨Nat.le_of_ble_eq_true rfl, Nat.le_of_ble_eq_true rfl⟩, (by simp only [rX4_many, rX4_mark, rX4_wrong, rX4_ties, rX4_runs, rX4_longest, rX4_sum, rX4_unlike_, rX4_house, rX4_digest]; omega), (by simp only [rX4_many, rX4_mark, rX4_wrong, rX4_ties, rX4_runs, rX4_longest, rX4_sum, rX4_unlike_, rX4_house, rX4_digest]; omega)⟩ (fun v55 h56 n57 c58 => ?_) (fun _ _ _ hx => hx.elim)
      obtain ⟨c58a, c58b, c58c, c58d⟩ := c58.use hs54
      rw [c58a]
      show mT _ _ _ _ 74 [.ref 27, .long d, .double 0, .int (nI i), .double 0, .double 0, .double 0, .double 0, .double 0] [.int (nI (mlp (lgS (S.1 i)) ((S.1 i).length - 0) 0 0)), .int (nI 6), .ref n, .ref n] _ _ _ _
      refine mp_iastore dX4_digest_74 ((c58d (n) (by omega)).trans e52) rfl (by omega) (by omega) (fun h59 e60 f61 => ?_)
      refine mt_dup dX4_digest_75 rfl ?_
      refine mt_bipush dX4_digest_76 (v := nI 7) (by decide) ?_
      refine mt_aload_n dX4_digest_78 rfl rfl ?_
      refine mt_iload_n dX4_digest_79 rfl ?_
      have hs62 := show mp_sum S (nI i) = (0, .int (mlp (suS (S.1 i)) ((S.1 i).length - 0) 0 (nI 0)), S) from by simp only [mp_sum, dAt_s (show i < 4 by omega) (by decide)]
      have hmhs62 : mAt h59 n57 S (nI 0) := ⟨(f61 (27) (by omega)).trans c58c.1, by omega, _, _, mRows.fr (n' := n57) HR (by omega) (fun j j1 j2 j3 => (f61 (j) (by omega)).trans ((c58d (j) (by omega)).trans ((f53 (j) (by omega)).trans ((c50d (j) (by omega)).trans ((f45 (j) (by omega)).trans ((c42d (j) (by omega)).trans ((f37 (j) (by omega)).trans ((c34d (j) (by omega)).trans ((f29 (j) (by omega)).trans ((c26d (j) (by omega)).trans ((f21 (j) (by omega)).trans ((c18d (j) (by omega)).trans ((f13 (j) (by omega)).trans ((c10d (j) (by omega)).trans (f5 (j) (by omega)))))))))))))))) (by omega)⟩
      refine mt_callV (N := mX4_sum) (Rc := rX4_sum) (As := [.int (nI i)]) (st := [.int (nI 7), .ref n, .ref n]) dX4_digest_80 (kX4_sum hl hmhs62) sX4_sum mw_1367 mKX4 rfl ((f61 (27) (by omega)).trans c58c.1) rfl (Nat.le_of_ble_eq_true rfl) ⟨⟨Nat.le_of_ble_eq_true rfl, Nat.le_of_ble_eq_true rfl⟩, (by simp only [rX4_many, rX4_mark, rX4_wrong, rX4_ties, rX4_runs, rX4_longest, rX4_sum, rX4_unlike_, rX4_house, rX4_digest]; omega), (by simp only [rX4_many, rX4_mark, rX4_wrong, rX4_ties, rX4_runs, rX4_longest, rX4_sum, rX4_unlike_, rX4_house, rX4_digest]; omega)⟩ (fun v63 h64 n65 c66 => ?_) (fun _ _ _ hx => hx.elim)
      obtain ⟨c66a, c66b, c66c, c66d⟩ := c66.use hs62
      rw [c66a]
      show mT _ _ _ _ 83 [.ref 27, .long d, .double 0, .int (nI i), .double 0, .double 0, .double 0, .double 0, .double 0] [.int (mlp (suS (S.1 i)) ((S.1 i).length - 0) 0 (nI 0)), .int (nI 7), .ref n, .ref n] _ _ _ _
      refine mp_iastore dX4_digest_83 ((c66d (n) (by omega)).trans e60) rfl (by omega) (by omega) (fun h67 e68 f69 => ?_)
      refine mt_dup dX4_digest_84 rfl ?_
      refine mt_bipush dX4_digest_85 (v := nI 8) (by decide) ?_
      refine mt_aload_n dX4_digest_87 rfl rfl ?_
      refine mt_iload_n dX4_digest_88 rfl ?_
      have hs70 := show mp_unlike S (nI i) = (0, .int (mlp (ulS (S.1 i)) ((S.1 i).length - 0) 0 (nI 0)), S) from by simp only [mp_unlike, dAt_s (show i < 4 by omega) (by decide)]
      have hmhs70 : mAt h67 n65 S (nI 0) := ⟨(f69 (27) (by omega)).trans c66c.1, by omega, _, _, mRows.fr (n' := n65) HR (by omega) (fun j j1 j2 j3 => (f69 (j) (by omega)).trans ((c66d (j) (by omega)).trans ((f61 (j) (by omega)).trans ((c58d (j) (by omega)).trans ((f53 (j) (by omega)).trans ((c50d (j) (by omega)).trans ((f45 (j) (by omega)).trans ((c42d (j) (by omega)).trans ((f37 (j) (by omega)).trans ((c34d (j) (by omega)).trans ((f29 (j) (by omega)).trans ((c26d (j) (by omega)).trans ((f21 (j) (by omega)).trans ((c18d (j) (by omega)).trans ((f13 (j) (by omega)).trans ((c10d (j) (by omega)).trans (f5 (j) (by omega)))))))))))))))))) (by omega)⟩
      refine mt_callV (N := mX4_unlike_) (Rc := rX4_unlike_) (As := [.int (nI i)]) (st := [.int (nI 8), .ref n, .ref n]) dX4_digest_89 (kX4_unlike_ hl hmhs70) sX4_unlike_ mw_1368 mKX4 rfl ((f69 (27) (by omega)).trans c66c.1) rfl (Nat.le_of_ble_eq_true rfl) ⟨⟨Nat.le_of_ble_eq_true rfl, Nat.le_of_ble_eq_true rfl⟩, (by simp only [rX4_many, rX4_mark, rX4_wrong, rX4_ties, rX4_runs, rX4_longest, rX4_sum, rX4_unlike_, rX4_house, rX4_digest]; omega), (by simp only [rX4_many, rX4_mark, rX4_wrong, rX4_ties, rX4_runs, rX4_longest, rX4_sum, rX4_unlike_, rX4_house, rX4_digest]; omega)⟩ (fun v71 h72 n73 c74 => ?_) (fun _ _ _ hx => hx.elim)
      obtain ⟨c74a, c74b, c74c, c74d⟩ := c74.use hs70
      rw [c74a]
      show mT _ _ _ _ 92 [.ref 27, .long d, .double 0, .int (nI i), .double 0, .double 0, .double 0, .double 0, .double 0] [.int (mlp (ulS (S.1 i)) ((S.1 i).length - 0) 0 (nI 0)), .int (nI 8), .ref n, .ref n] _ _ _ _
      refine mp_iastore dX4_digest_92 ((c74d (n) (by omega)).trans e68) rfl (by omega) (by omega) (fun h75 e76 f77 => ?_)
      refine mp_astore dX4_digest_93 (ls' := [.ref 27, .long d, .double 0, .int (nI i), .ref n, .double 0, .double 0, .double 0, .double 0]) rfl rfl (by decide) rfl ?_
      refine mt_aload dX4_digest_95 rfl rfl ?_
      refine mp_astore dX4_digest_97 (ls' := [.ref 27, .long d, .double 0, .int (nI i), .ref n, .ref n, .double 0, .double 0, .double 0]) rfl rfl (by decide) rfl ?_
      refine mt_aload dX4_digest_99 rfl rfl ?_
      refine mt_alen dX4_digest_101 e76 (by decide) ?_
      refine mp_istore dX4_digest_102 (ls' := [.ref 27, .long d, .double 0, .int (nI i), .ref n, .ref n, .int (nI 9), .double 0, .double 0]) rfl (by decide) rfl ?_
      have hf9 : ∀ k, k < 9 → (upd (upd (upd (upd (upd (upd (upd (upd (upd (fun _ => (0 : Int32)) 0 (nI ((S.1 i).length))) 1 (q_mark (S.1 i) false)) 2 (q_mark (S.1 i) true)) 3 (mq_pairs (S.1 i) (nI 1))) 4 (mq_pairs (S.1 i) (nI 0))) 5 (mruns (S.1 i) (S.1 i).length 0 (nI 0))) 6 (nI (mlp (lgS (S.1 i)) ((S.1 i).length - 0) 0 0))) 7 (mlp (suS (S.1 i)) ((S.1 i).length - 0) 0 (nI 0))) 8 (mlp (ulS (S.1 i)) ((S.1 i).length - 0) 0 (nI 0))) k = mdA S i k := by
        intro k hk
        obtain rfl | rfl | rfl | rfl | rfl | rfl | rfl | rfl | rfl : k = 0 ∨ k = 1 ∨ k = 2 ∨ k = 3 ∨ k = 4 ∨ k = 5 ∨ k = 6 ∨ k = 7 ∨ k = 8 := by omega
        all_goals rfl
      refine mt_iconst dX4_digest_104 (v := nI 0) rfl ?_
      refine mp_istore dX4_digest_105 (ls' := [.ref 27, .long d, .double 0, .int (nI i), .ref n, .ref n, .int (nI 9), .int (nI 0), .double 0]) rfl (by decide) rfl ?_
      refine tX4_digest_107 e76 hf9 (fun d_78 k_79 z80 => ?_) _ 0 d (Nat.lt_succ_self _) rfl (by omega)
      refine mp_iinc dX4_digest_137 rfl (v := nI (i + 1)) mI_inc (ls' := [.ref 27, .long d_78, .double 0, .int (nI (i + 1)), .ref n, .ref n, .int (nI 9), .int (nI k_79), .double 0]) rfl (by decide) rfl ?_
      refine mt_goto dX4_digest_140 (tgt := 6) rfl ?_
      refine mt_drop 4 (ls' := [.ref 27, .long d_78, .double 0, .int (nI (i + 1)), .double 0, .ref n, .int (nI 9), .int (nI k_79), .double 0]) rfl ?_
      refine mt_drop 5 (ls' := [.ref 27, .long d_78, .double 0, .int (nI (i + 1)), .double 0, .double 0, .int (nI 9), .int (nI k_79), .double 0]) rfl ?_
      refine mt_drop 6 (ls' := [.ref 27, .long d_78, .double 0, .int (nI (i + 1)), .double 0, .double 0, .double 0, .int (nI k_79), .double 0]) rfl ?_
      refine mt_drop 7 (ls' := [.ref 27, .long d_78, .double 0, .int (nI (i + 1)), .double 0, .double 0, .double 0, .double 0, .double 0]) rfl ?_
      refine mt_widen (cc' := 1 * (i + 1)) (sc' := 9 * (i + 1)) (by first | omega | (simp only [rX4_many, rX4_mark, rX4_wrong, rX4_ties, rX4_runs, rX4_longest, rX4_sum, rX4_unlike_, rX4_house, rX4_digest]; omega)) (by first | omega | (simp only [rX4_many, rX4_mark, rX4_wrong, rX4_ties, rX4_runs, rX4_longest, rX4_sum, rX4_unlike_, rX4_house, rX4_digest]; omega)) ?_
      exact ih (i + 1) d_78 h75 n73 (nI 0) (by omega) (⟨(f77 (27) (by omega)).trans c74c.1, by omega, _, _, mRows.fr (n' := n73) HR (by omega) (fun j j1 j2 j3 => (f77 (j) (by omega)).trans ((c74d (j) (by omega)).trans ((f69 (j) (by omega)).trans ((c66d (j) (by omega)).trans ((f61 (j) (by omega)).trans ((c58d (j) (by omega)).trans ((f53 (j) (by omega)).trans ((c50d (j) (by omega)).trans ((f45 (j) (by omega)).trans ((c42d (j) (by omega)).trans ((f37 (j) (by omega)).trans ((c34d (j) (by omega)).trans ((f29 (j) (by omega)).trans ((c26d (j) (by omega)).trans ((f21 (j) (by omega)).trans ((c18d (j) (by omega)).trans ((f13 (j) (by omega)).trans ((c10d (j) (by omega)).trans (f5 (j) (by omega)))))))))))))))))))) (by omega)⟩) (by omega) (fun j hj => ((f77 j (by omega)).trans ((c74d j (by omega)).trans ((f69 j (by omega)).trans ((c66d j (by omega)).trans ((f61 j (by omega)).trans ((c58d j (by omega)).trans ((f53 j (by omega)).trans ((c50d j (by omega)).trans ((f45 j (by omega)).trans ((c42d j (by omega)).trans ((f37 j (by omega)).trans ((c34d j (by omega)).trans ((f29 j (by omega)).trans ((c26d j (by omega)).trans ((f21 j (by omega)).trans ((c18d j (by omega)).trans ((f13 j (by omega)).trans ((c10d j (by omega)).trans (f5 j (by omega)))))))))))))))))))).trans (hfr j hj)) ((mlp_go (f := mdRow S) (by omega) z80.symm).symm.trans hr9) (by omega)
set_option maxRecDepth 100000 in
set_option maxHeartbeats 2000000 in
theorem tX4_digest_145 {l : Launch} {K : mK} {S : cS} {r9 : Int64} {h0 : mH} {n0 : Nat} (hl : l.stackTraces = false) (kk0 : ∀ (i : Nat) (d : Int64) (h : mH) (n : Nat) (th : Int32), (mAt h n S th) → (n0 ≤ n) → (∀ j, (j < n0 ∧ j ≠ 27) → h j = h0 j) → (d = r9) → mT l mX4_digest rX4_digest K 170 [.ref 27, .long d, .double 0, .int (nI i), .double 0, .double 0, .double 0, .double 0, .double 0] [] h n 10 72) : ∀ (N0 : Nat) (i : Nat) (d : Int64) (h : mH) (n : Nat) (th : Int32), (6 - i) < N0 → (mAt h n S th) → (n0 ≤ n) → (∀ j, (j < n0 ∧ j ≠ 27) → h j = h0 j) → (mlp (mdHouse S) (6 - i) i d = r9) → (i ≤ 6) → mT l mX4_digest rX4_digest K 145 [.ref 27, .long d, .double 0, .int (nI i), .double 0, .double 0, .double 0, .double 0, .double 0] [] h n (4 + i) (36 + 6 * i) := by
  intro N0
  induction N0 with
  | zero => intro i d h n th hm; exact absurd hm (Nat.not_lt_zero _)
  | succ N0 ih =>
    intro i d h n th hm C hn0 hfr hr9 hi
    obtain ⟨C0, h39, kx, sx, HR⟩ := id C
    obtain ⟨⟨gk_1, G28_1, GK_1⟩, ⟨gs_1, G33_1, GS_1⟩, AK_1, AS_1, NE_1, NQ_1, LE_1⟩ := id HR
    refine mt_iload_n dX4_digest_145 rfl ?_
    refine mt_bipush dX4_digest_146 (v := nI 6) (by decide) ?_
    refine mt_icmp_ge dX4_digest_148 (tgt := 170) rfl (fun q2 => ?_) (fun q2 => ?_)
    · have q2 := Int32.not_lt.mpr q2
      have q2 := (not_congr (nI_ltI (by omega) (by omega))).mp q2
      refine mt_widen (cc' := 10) (sc' := 72) (by first | omega | (simp only [rX4_many, rX4_mark, rX4_wrong, rX4_ties, rX4_runs, rX4_longest, rX4_sum, rX4_unlike_, rX4_house, rX4_digest]; omega)) (by first | omega | (simp only [rX4_many, rX4_mark, rX4_wrong, rX4_ties, rX4_runs, rX4_longest, rX4_sum, rX4_unlike_, rX4_house, rX4_digest]; omega)) ?_
      exact kk0 i d h n th C hn0 hfr ((mlp_end (f := mdHouse S) (by omega)).symm.trans hr9)
    · have q2 := Int32.not_le.mp q2
      have q2 := (nI_ltI (by omega) (by omega)).mp q2
      refine mt_lload_n dX4_digest_151 rfl ?_
      refine mt_ldc2 (v := 31) dX4_digest_152 mw_1369 ?_
      refine mt_lmul dX4_digest_155 ?_
      refine mt_aload_n dX4_digest_156 rfl rfl ?_
      refine mt_iload_n dX4_digest_157 rfl ?_
      have hs3 := mp_house_s (S := S) (show i < 6 by omega)
      have hmhs3 : mAt h n S th := ⟨C0, by omega, _, _, HR⟩
      refine mt_callV (N := mX4_house) (Rc := rX4_house) (As := [.int (nI i)]) (st := [.long (d * 31)]) dX4_digest_158 (kX4_house hl hmhs3) sX4_house mw_1370 mKX4 rfl C0 rfl (Nat.le_of_ble_eq_true rfl) ⟨⟨Nat.le_of_ble_eq_true rfl, Nat.le_of_ble_eq_true rfl⟩, (by simp only [rX4_many, rX4_mark, rX4_wrong, rX4_ties, rX4_runs, rX4_longest, rX4_sum, rX4_unlike_, rX4_house, rX4_digest]; omega), (by simp only [rX4_many, rX4_mark, rX4_wrong, rX4_ties, rX4_runs, rX4_longest, rX4_sum, rX4_unlike_, rX4_house, rX4_digest]; omega)⟩ (fun v4 h5 n6 c7 => ?_) (fun _ _ _ hx => hx.elim)
      obtain ⟨c7a, c7b, c7c, c7d⟩ := c7.use hs3
      rw [c7a]
      show mT _ _ _ _ 161 [.ref 27, .long d, .double 0, .int (nI i), .double 0, .double 0, .double 0, .double 0, .double 0] [.int (mq_house S i), .long (d * 31)] _ _ _ _
      refine mt_i2l dX4_digest_161 ?_
      refine mt_ladd dX4_digest_162 ?_
      refine mp_lstore_n dX4_digest_163 (ls' := [.ref 27, .long ((d * 31) + ((mq_house S i).toInt64)), .double 0, .int (nI i), .double 0, .double 0, .double 0, .double 0, .double 0]) rfl (by decide) rfl ?_
      refine mp_iinc dX4_digest_164 rfl (v := nI (i + 1)) mI_inc (ls' := [.ref 27, .long ((d * 31) + ((mq_house S i).toInt64)), .double 0, .int (nI (i + 1)), .double 0, .double 0, .double 0, .double 0, .double 0]) rfl (by decide) rfl ?_
      refine mt_goto dX4_digest_167 (tgt := 145) rfl ?_
      refine mt_widen (cc' := 4 + (i + 1)) (sc' := 36 + 6 * (i + 1)) (by first | omega | (simp only [rX4_many, rX4_mark, rX4_wrong, rX4_ties, rX4_runs, rX4_longest, rX4_sum, rX4_unlike_, rX4_house, rX4_digest]; omega)) (by first | omega | (simp only [rX4_many, rX4_mark, rX4_wrong, rX4_ties, rX4_runs, rX4_longest, rX4_sum, rX4_unlike_, rX4_house, rX4_digest]; omega)) ?_
      exact ih (i + 1) ((d * 31) + ((mq_house S i).toInt64)) h5 n6 (nI 0) (by omega) (⟨c7c.1, by omega, _, _, mRows.fr (n' := n6) HR (by omega) (fun j j1 j2 j3 => c7d (j) (by omega)) (by omega)⟩) (by omega) (fun j hj => (c7d j (by omega)).trans (hfr j hj)) ((mlp_go (f := mdHouse S) (by omega) rfl).symm.trans hr9) (by omega)
set_option maxRecDepth 100000 in
set_option maxHeartbeats 2000000 in
theorem kX4_digest {l : Launch} (hl : l.stackTraces = false) {h : mH} {n : Nat} {S : cS} {th : Int32} (C : mAt h n S th) : mC l mX4_digest rX4_digest [.ref 27] h n (mOkq ((0 : Nat), Value.long (mq_digest S), S) (.long 0) h n) (mNX) := by
  obtain ⟨C0, h39, kx, sx, HR⟩ := id C
  obtain ⟨⟨gk_1, G28_1, GK_1⟩, ⟨gs_1, G33_1, GS_1⟩, AK_1, AS_1, NE_1, NQ_1, LE_1⟩ := id HR
  refine mm_enter hl (by decide +kernel) rfl rfl rfl (Nat.le_of_ble_eq_true rfl) ?_
  show mT _ _ _ _ 0 [.ref 27, .double 0, .double 0, .double 0, .double 0, .double 0, .double 0, .double 0, .double 0] [] _ _ 0 0
  refine mt_ldc2 (v := 8007) dX4_digest_0 mw_1360 ?_
  refine mp_lstore_n dX4_digest_3 (ls' := [.ref 27, .long 8007, .double 0, .double 0, .double 0, .double 0, .double 0, .double 0, .double 0]) rfl (by decide) rfl ?_
  refine mt_iconst dX4_digest_4 (v := nI 0) rfl ?_
  refine mp_istore_n dX4_digest_5 (ls' := [.ref 27, .long 8007, .double 0, .int (nI 0), .double 0, .double 0, .double 0, .double 0, .double 0]) rfl (by decide) rfl ?_
  refine tX4_digest_6 hl (fun i_2 d_3 h_4 n_5 th_6 z7 z8 z9 z10 => ?_) _ 0 8007 h n th (Nat.lt_succ_self _) (⟨C0, by omega, _, _, HR⟩) (Nat.le_refl _) (fun _ _ => rfl) rfl (by omega)
  obtain ⟨C0z11, h39z11, kxz11, sxz11, HRz11⟩ := id z7
  obtain ⟨⟨gk_12, G28_12, GK_12⟩, ⟨gs_12, G33_12, GS_12⟩, AK_12, AS_12, NE_12, NQ_12, LE_12⟩ := id HRz11
  refine mt_iconst dX4_digest_143 (v := nI 0) rfl ?_
  refine mp_istore_n dX4_digest_144 (ls' := [.ref 27, .long d_3, .double 0, .int (nI 0), .double 0, .double 0, .double 0, .double 0, .double 0]) rfl (by decide) rfl ?_
  refine tX4_digest_145 hl (fun i_13 d_14 h_15 n_16 th_17 z18 z19 z20 z21 => ?_) _ 0 d_3 h_4 n_5 th_6 (Nat.lt_succ_self _) (⟨C0z11, by omega, _, _, HRz11⟩) (Nat.le_refl _) (fun _ _ => rfl) rfl (by omega)
  obtain ⟨C0z22, h39z22, kxz22, sxz22, HRz22⟩ := id z18
  obtain ⟨⟨gk_23, G28_23, GK_23⟩, ⟨gs_23, G33_23, GS_23⟩, AK_23, AS_23, NE_23, NQ_23, LE_23⟩ := id HRz22
  refine mt_aload_n dX4_digest_170 rfl rfl ?_
  refine mt_iconst dX4_digest_171 (v := nI 0) rfl ?_
  refine mp_putfield mKX4 (i := 6) (fs' := [.ref 28, .ref 33, .int S.2.1, .int S.2.2.1, .int S.2.2.2.1, .int S.2.2.2.2, .int (nI 0)]) (by decide) mw_1059 rfl dX4_digest_172 C0z22 (Nat.le_of_ble_eq_true rfl) rfl rfl (fun h24 e25 f26 => ?_)
  refine mt_lload_n dX4_digest_175 rfl ?_
  refine mt_ldc2 (v := 31) dX4_digest_176 mw_1369 ?_
  refine mt_lmul dX4_digest_179 ?_
  refine mt_lconst dX4_digest_180 (v := 1) rfl ?_
  refine mt_ladd dX4_digest_181 ?_
  refine mt_lreturn dX4_digest_182 rfl (by simp only [rX4_many, rX4_mark, rX4_wrong, rX4_ties, rX4_runs, rX4_longest, rX4_sum, rX4_unlike_, rX4_house, rX4_digest]; omega) (by simp only [rX4_many, rX4_mark, rX4_wrong, rX4_ties, rX4_runs, rX4_longest, rX4_sum, rX4_unlike_, rX4_house, rX4_digest]; omega) ?_
  exact mOkq.of (x := .long (mq_digest S)) (S' := S) rfl (by rw [z21, z10]; rfl) (by omega) e25 (by omega) (mRows.fr (n' := n_16) HRz22 (by omega) (fun j j1 j2 j3 => f26 (j) (by omega)) (by omega)) (fun j hj => (f26 (j) (by omega)).trans ((z20 j (by omega)).trans (z9 j (by omega))))
