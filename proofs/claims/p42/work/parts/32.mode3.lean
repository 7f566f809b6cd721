/-! ===== the reference: merge, fill ===== -/
abbrev rX4_merge : Room := { frames := 2, cells := 6, slots := 2880, locals := 47 }
def mp_merge (S : cS) (row : Int32) (other : Int32) : Nat × Value × cS := dAt S 4 row fun r => dAt S 4 other fun q => if 0 < mq_pairs (S.1 r) (nI 1) then (0, .int (-9), cRef S) else if 0 < mq_pairs (S.1 q) (nI 1) then (0, .int (-9), cRef S) else if rroom r < (S.1 r).length + (S.1 q).length then (0, .int (-9), cRef S) else (0, .int (nI (chF (jnL (S.1 r) (xk (S.1 q)) (comF r q (S.1 q).length (S.1 q) S.2.1) (S.1 q).length) (scat (jnL (S.1 r) (xk (S.1 q)) (comF r q (S.1 q).length (S.1 q) S.2.1) (S.1 q).length)) (jnL (S.1 r) (xk (S.1 q)) (comF r q (S.1 q).length (S.1 q) S.2.1) (S.1 q).length).length).length), cAct (cGiv (cSet S r (chF (jnL (S.1 r) (xk (S.1 q)) (comF r q (S.1 q).length (S.1 q) S.2.1) (S.1 q).length) (scat (jnL (S.1 r) (xk (S.1 q)) (comF r q (S.1 q).length (S.1 q) S.2.1) (S.1 q).length)) (jnL (S.1 r) (xk (S.1 q)) (comF r q (S.1 q).length (S.1 q) S.2.1) (S.1 q).length).length)) (comG r q (S.1 q).length S.2.1)))
set_option maxRecDepth 100000 in
set_option maxHeartbeats 2000000 in
theorem kX4_merge {l : Launch} (hl : l.stackTraces = false) {h : mH} {n : Nat} {S : cS} {th : Int32} {row : Int32} {other : Int32} (C : mAt h n S th) : mC l mX4_merge rX4_merge [.ref 27, .int row, .int other] h n (mOk (mp_merge S row other) (.int (nI 0)) h n) (mNX) := by
  obtain ⟨C0, h39, kx, sx, HR⟩ := id C
  obtain ⟨⟨gk_1, G28_1, GK_1⟩, ⟨gs_1, G33_1, GS_1⟩, AK_1, AS_1, NE_1, NQ_1, LE_1⟩ := id HR
  refine mm_enter hl (by decide +kernel) rfl rfl rfl (Nat.le_of_ble_eq_true rfl) ?_
  show mT _ _ _ _ 0 [.ref 27, .int row, .int other] [] _ _ 0 0
  rcases hq2 : inN 4 row with _ | r3
  · refine mt_aload_n dX4_merge_0 rfl rfl ?_
    refine mt_iload_n dX4_merge_1 rfl ?_
    refine mt_callS (N := mX4_isRow) (Rc := rX4_isRow) (As := [.int row]) (st := [.ref 27]) dX4_merge_2 (kX4_isRow hl) sX4_isRow mw_1083 rfl (Nat.le_of_ble_eq_true rfl) ⟨⟨Nat.le_of_ble_eq_true rfl, Nat.le_of_ble_eq_true rfl⟩, (by first | exact Nat.le_of_ble_eq_true rfl | (simp only [rX4_isRow, rX4_isLet, rX4_pairs, rX4_room, rX4_refuse, rX4_coming, rX4_both, rX4_sorted, rX4_choose, rX4_did, rX4_merge]; omega)), (by first | exact Nat.le_of_ble_eq_true rfl | (simp only [rX4_isRow, rX4_isLet, rX4_pairs, rX4_room, rX4_refuse, rX4_coming, rX4_both, rX4_sorted, rX4_choose, rX4_did, rX4_merge]; omega))⟩ (fun v4 h5 n6 c7 => ?_) (fun _ _ _ hx => hx.elim)
    obtain ⟨c7a, c7b, c7c⟩ := c7
    rw [show (inN 4 row).isSome = false from by rw [hq2]; rfl] at c7a
    rw [c7a, c7b, c7c]
    show mT _ _ _ _ 5 [.ref 27, .int row, .int other] [.int (nI 0), .ref 27] _ _ _ _
    refine mt_if_eq dX4_merge_5 (tgt := 19) rfl (fun q8 => ?_) (fun q8 => ?_)
    · have q8 := (mI_eq0 (by omega)).mp q8
      refine mt_iconst dX4_merge_19 (v := nI 0) rfl ?_
      refine mt_iconst dX4_merge_20 (v := nI 1) rfl ?_
      refine mt_callV (N := mX4_isLet) (Rc := rX4_isLet) (As := [.int (nI 0), .int (nI 1)]) (st := []) dX4_merge_21 (kX4_isLet (t := false) (f := true) hl C0) sX4_isLet mw_1092 mKX4 rfl C0 rfl (Nat.le_of_ble_eq_true rfl) ⟨⟨Nat.le_of_ble_eq_true rfl, Nat.le_of_ble_eq_true rfl⟩, (by first | exact Nat.le_of_ble_eq_true rfl | (simp only [rX4_isRow, rX4_isLet, rX4_pairs, rX4_room, rX4_refuse, rX4_coming, rX4_both, rX4_sorted, rX4_choose, rX4_did, rX4_merge]; omega)), (by first | exact Nat.le_of_ble_eq_true rfl | (simp only [rX4_isRow, rX4_isLet, rX4_pairs, rX4_room, rX4_refuse, rX4_coming, rX4_both, rX4_sorted, rX4_choose, rX4_did, rX4_merge]; omega))⟩ (fun v9 h10 n11 c12 => ?_) (fun _ _ _ hx => hx.elim)
      obtain ⟨c12a, c12b, c12c, c12d⟩ := c12
      rw [c12a, c12b]
      show mT _ _ _ _ 24 [.ref 27, .int row, .int other] [.int (nI 0)] _ _ _ _
      refine mt_if_ne dX4_merge_24 (tgt := 29) rfl (fun q13 => ?_) (fun q13 => ?_)
      · have q13 := (not_congr (mI_eq0 (by omega))).mp q13
        exact absurd q13 (by decide)
      · have q13 := (mI_eq0 (by omega)).mp q13
        refine mt_iconst dX4_merge_27 (v := nI 0) rfl ?_
        refine mt_ireturn dX4_merge_28 rfl rfl (by first | exact Nat.le_of_ble_eq_true rfl | (simp only [rX4_isRow, rX4_isLet, rX4_pairs, rX4_room, rX4_refuse, rX4_coming, rX4_both, rX4_sorted, rX4_choose, rX4_did, rX4_merge]; omega)) (by first | exact Nat.le_of_ble_eq_true rfl | (simp only [rX4_isRow, rX4_isLet, rX4_pairs, rX4_room, rX4_refuse, rX4_coming, rX4_both, rX4_sorted, rX4_choose, rX4_did, rX4_merge]; omega)) ?_
        exact mOk.no (k := 1) (S' := S) (by simp only [mp_merge, dAt_n (k := 4) (x := row) hq2, if_pos q8, if_pos q13]) (by decide) rfl (by omega) c12c (by omega) (mRows.fr (n' := n) HR (by omega) (fun j j1 j2 j3 => c12d (j) (by omega)) (by omega)) (fun j hj => c12d j (by omega))
    · have q8 := (not_congr (mI_eq0 (by omega))).mp q8
      exact absurd q8 (by decide)
  · obtain ⟨hr3, rfl⟩ := inN_of hq2 (by first | decide | omega)
    obtain ⟨⟨ka_14, kb_14, kc_14, kd_14⟩, kf_14, ke_14, kg_14⟩ := AK_1 r3 hr3
    obtain ⟨⟨sa_14, sb_14, sc_14, sd_14⟩, sf_14, se_14, sg_14⟩ := AS_1 r3 hr3
    have kn_14 := NE_1 r3 r3 hr3 hr3
    have kl_14 := LE_1 r3 hr3
    have km_14 := rroom_le (r := r3)
    rcases hq15 : inN 4 other with _ | r16
    · refine mt_aload_n dX4_merge_0 rfl rfl ?_
      refine mt_iload_n dX4_merge_1 rfl ?_
      refine mt_callS (N := mX4_isRow) (Rc := rX4_isRow) (As := [.int (nI r3)]) (st := [.ref 27]) dX4_merge_2 (kX4_isRow hl) sX4_isRow mw_1083 rfl (Nat.le_of_ble_eq_true rfl) ⟨⟨Nat.le_of_ble_eq_true rfl, Nat.le_of_ble_eq_true rfl⟩, (by first | exact Nat.le_of_ble_eq_true rfl | (simp only [rX4_isRow, rX4_isLet, rX4_pairs, rX4_room, rX4_refuse, rX4_coming, rX4_both, rX4_sorted, rX4_choose, rX4_did, rX4_merge]; omega)), (by first | exact Nat.le_of_ble_eq_true rfl | (simp only [rX4_isRow, rX4_isLet, rX4_pairs, rX4_room, rX4_refuse, rX4_coming, rX4_both, rX4_sorted, rX4_choose, rX4_did, rX4_merge]; omega))⟩ (fun v17 h18 n19 c20 => ?_) (fun _ _ _ hx => hx.elim)
      obtain ⟨c20a, c20b, c20c⟩ := c20
      rw [show (inN 4 (nI r3)).isSome = true from by rw [inN_some hr3 (by decide)]; rfl] at c20a
      rw [c20a, c20b, c20c]
      show mT _ _ _ _ 5 [.ref 27, .int (nI r3), .int other] [.int (nI 1), .ref 27] _ _ _ _
      refine mt_if_eq dX4_merge_5 (tgt := 19) rfl (fun q21 => ?_) (fun q21 => ?_)
      · have q21 := (mI_eq0 (by omega)).mp q21
        exact absurd q21 (by decide)
      · have q21 := (not_congr (mI_eq0 (by omega))).mp q21
        refine mt_iload_n dX4_merge_8 rfl ?_
        refine mt_callS (N := mX4_isRow) (Rc := rX4_isRow) (As := [.int other]) (st := [.ref 27]) dX4_merge_9 (kX4_isRow hl) sX4_isRow mw_1083 rfl (Nat.le_of_ble_eq_true rfl) ⟨⟨Nat.le_of_ble_eq_true rfl, Nat.le_of_ble_eq_true rfl⟩, (by first | exact Nat.le_of_ble_eq_true rfl | (simp only [rX4_isRow, rX4_isLet, rX4_pairs, rX4_room, rX4_refuse, rX4_coming, rX4_both, rX4_sorted, rX4_choose, rX4_did, rX4_merge]; omega)), (by first | exact Nat.le_of_ble_eq_true rfl | (simp only [rX4_isRow, rX4_isLet, rX4_pairs, rX4_room, rX4_refuse, rX4_coming, rX4_both, rX4_sorted, rX4_choose, rX4_did, rX4_merge]; omega))⟩ (fun v22 h23 n24 c25 => ?_) (fun _ _ _ hx => hx.elim)
        obtain ⟨c25a, c25b, c25c⟩ := c25
        rw [show (inN 4 other).isSome = false from by rw [hq15]; rfl] at c25a
        rw [c25a, c25b, c25c]
        show mT _ _ _ _ 12 [.ref 27, .int (nI r3), .int other] [.int (nI 0), .ref 27] _ _ _ _
        refine mt_if_eq dX4_merge_12 (tgt := 19) rfl (fun q26 => ?_) (fun q26 => ?_)
        · have q26 := (mI_eq0 (by omega)).mp q26
          refine mt_iconst dX4_merge_19 (v := nI 0) rfl ?_
          refine mt_iconst dX4_merge_20 (v := nI 1) rfl ?_
          refine mt_callV (N := mX4_isLet) (Rc := rX4_isLet) (As := [.int (nI 0), .int (nI 1)]) (st := []) dX4_merge_21 (kX4_isLet (t := false) (f := true) hl C0) sX4_isLet mw_1092 mKX4 rfl C0 rfl (Nat.le_of_ble_eq_true rfl) ⟨⟨Nat.le_of_ble_eq_true rfl, Nat.le_of_ble_eq_true rfl⟩, (by first | exact Nat.le_of_ble_eq_true rfl | (simp only [rX4_isRow, rX4_isLet, rX4_pairs, rX4_room, rX4_refuse, rX4_coming, rX4_both, rX4_sorted, rX4_choose, rX4_did, rX4_merge]; omega)), (by first | exact Nat.le_of_ble_eq_true rfl | (simp only [rX4_isRow, rX4_isLet, rX4_pairs, rX4_room, rX4_refuse, rX4_coming, rX4_both, rX4_sorted, rX4_choose, rX4_did, rX4_merge]; omega))⟩ (fun v27 h28 n29 c30 => ?_) (fun _ _ _ hx => hx.elim)
          obtain ⟨c30a, c30b, c30c, c30d⟩ := c30
          rw [c30a, c30b]
          show mT _ _ _ _ 24 [.ref 27, .int (nI r3), .int other] [.int (nI 0)] _ _ _ _
          refine mt_if_ne dX4_merge_24 (tgt := 29) rfl (fun q31 => ?_) (fun q31 => ?_)
          · have q31 := (not_congr (mI_eq0 (by omega))).mp q31
            exact absurd q31 (by decide)
          · have q31 := (mI_eq0 (by omega)).mp q31
            refine mt_iconst dX4_merge_27 (v := nI 0) rfl ?_
            refine mt_ireturn dX4_merge_28 rfl rfl (by first | exact Nat.le_of_ble_eq_true rfl | (simp only [rX4_isRow, rX4_isLet, rX4_pairs, rX4_room, rX4_refuse, rX4_coming, rX4_both, rX4_sorted, rX4_choose, rX4_did, rX4_merge]; omega)) (by first | exact Nat.le_of_ble_eq_true rfl | (simp only [rX4_isRow, rX4_isLet, rX4_pairs, rX4_room, rX4_refuse, rX4_coming, rX4_both, rX4_sorted, rX4_choose, rX4_did, rX4_merge]; omega)) ?_
            exact mOk.no (k := 1) (S' := S) (by simp only [mp_merge, dAt_s (k := 4) hr3 (by first | decide | omega), dAt_n (k := 4) (x := other) hq15, if_neg q21, if_pos q26, if_pos q31]) (by decide) rfl (by omega) c30c (by omega) (mRows.fr (n' := n) HR (by omega) (fun j j1 j2 j3 => c30d (j) (by omega)) (by omega)) (fun j hj => c30d j (by omega))
        · have q26 := (not_congr (mI_eq0 (by omega))).mp q26
          exact absurd q26 (by decide)
    · obtain ⟨hr16, rfl⟩ := inN_of hq15 (by first | decide | omega)
      obtain ⟨⟨ka_32, kb_32, kc_32, kd_32⟩, kf_32, ke_32, kg_32⟩ := AK_1 r16 hr16
      obtain ⟨⟨sa_32, sb_32, sc_32, sd_32⟩, sf_32, se_32, sg_32⟩ := AS_1 r16 hr16
      have kn_32 := NE_1 r16 r16 hr16 hr16
      have kl_32 := LE_1 r16 hr16
      have km_32 := rroom_le (r := r16)
      refine mt_aload_n dX4_merge_0 rfl rfl ?_
      refine mt_iload_n dX4_merge_1 rfl ?_
      refine mt_callS (N := mX4_isRow) (Rc := rX4_isRow) (As := [.int (nI r3)]) (st := [.ref 27]) dX4_merge_2 (kX4_isRow hl) sX4_isRow mw_1083 rfl (Nat.le_of_ble_eq_true rfl) ⟨⟨Nat.le_of_ble_eq_true rfl, Nat.le_of_ble_eq_true rfl⟩, (by first | exact Nat.le_of_ble_eq_true rfl | (simp only [rX4_isRow, rX4_isLet, rX4_pairs, rX4_room, rX4_refuse, rX4_coming, rX4_both, rX4_sorted, rX4_choose, rX4_did, rX4_merge]; omega)), (by first | exact Nat.le_of_ble_eq_true rfl | (simp only [rX4_isRow, rX4_isLet, rX4_pairs, rX4_room, rX4_refuse, rX4_coming, rX4_both, rX4_sorted, rX4_choose, rX4_did, rX4_merge]; omega))⟩ (fun v33 h34 n35 c36 => ?_) (fun _ _ _ hx => hx.elim)
      obtain ⟨c36a, c36b, c36c⟩ := c36
      rw [show (inN 4 (nI r3)).isSome = true from by rw [inN_some hr3 (by decide)]; rfl] at c36a
      rw [c36a, c36b, c36c]
      show mT _ _ _ _ 5 [.ref 27, .int (nI r3), .int (nI r16)] [.int (nI 1), .ref 27] _ _ _ _
      refine mt_if_eq dX4_merge_5 (tgt := 19) rfl (fun q37 => ?_) (fun q37 => ?_)
      · have q37 := (mI_eq0 (by omega)).mp q37
        exact absurd q37 (by decide)
      · have q37 := (not_congr (mI_eq0 (by omega))).mp q37
        refine mt_iload_n dX4_merge_8 rfl ?_
        refine mt_callS (N := mX4_isRow) (Rc := rX4_isRow) (As := [.int (nI r16)]) (st := [.ref 27]) dX4_merge_9 (kX4_isRow hl) sX4_isRow mw_1083 rfl (Nat.le_of_ble_eq_true rfl) ⟨⟨Nat.le_of_ble_eq_true rfl, Nat.le_of_ble_eq_true rfl⟩, (by first | exact Nat.le_of_ble_eq_true rfl | (simp only [rX4_isRow, rX4_isLet, rX4_pairs, rX4_room, rX4_refuse, rX4_coming, rX4_both, rX4_sorted, rX4_choose, rX4_did, rX4_merge]; omega)), (by first | exact Nat.le_of_ble_eq_true rfl | (simp only [rX4_isRow, rX4_isLet, rX4_pairs, rX4_room, rX4_refuse, rX4_coming, rX4_both, rX4_sorted, rX4_choose, rX4_did, rX4_merge]; omega))⟩ (fun v38 h39 n40 c41 => ?_) (fun _ _ _ hx => hx.elim)
        obtain ⟨c41a, c41b, c41c⟩ := c41
        rw [show (inN 4 (nI r16)).isSome = true from by rw [inN_some hr16 (by decide)]; rfl] at c41a
        rw [c41a, c41b, c41c]
        show mT _ _ _ _ 12 [.ref 27, .int (nI r3), .int (nI r16)] [.int (nI 1), .ref 27] _ _ _ _
        refine mt_if_eq dX4_merge_12 (tgt := 19) rfl (fun q42 => ?_) (fun q42 => ?_)
        · have q42 := (mI_eq0 (by omega)).mp q42
          exact absurd q42 (by decide)
        · have q42 := (not_congr (mI_eq0 (by omega))).mp q42
          refine mt_iconst dX4_merge_15 (v := nI 1) rfl ?_
          refine mt_goto dX4_merge_16 (tgt := 20) rfl ?_
          refine mt_iconst dX4_merge_20 (v := nI 1) rfl ?_
          refine mt_callV (N := mX4_isLet) (Rc := rX4_isLet) (As := [.int (nI 1), .int (nI 1)]) (st := []) dX4_merge_21 (kX4_isLet (t := true) (f := true) hl C0) sX4_isLet mw_1092 mKX4 rfl C0 rfl (Nat.le_of_ble_eq_true rfl) ⟨⟨Nat.le_of_ble_eq_true rfl, Nat.le_of_ble_eq_true rfl⟩, (by first | exact Nat.le_of_ble_eq_true rfl | (simp only [rX4_isRow, rX4_isLet, rX4_pairs, rX4_room, rX4_refuse, rX4_coming, rX4_both, rX4_sorted, rX4_choose, rX4_did, rX4_merge]; omega)), (by first | exact Nat.le_of_ble_eq_true rfl | (simp only [rX4_isRow, rX4_isLet, rX4_pairs, rX4_room, rX4_refuse, rX4_coming, rX4_both, rX4_sorted, rX4_choose, rX4_did, rX4_merge]; omega))⟩ (fun v43 h44 n45 c46 => ?_) (fun _ _ _ hx => hx.elim)
          obtain ⟨c46a, c46b, c46c, c46d⟩ := c46
          rw [c46a, c46b]
          show mT _ _ _ _ 24 [.ref 27, .int (nI r3), .int (nI r16)] [.int (nI 1)] _ _ _ _
          refine mt_if_ne dX4_merge_24 (tgt := 29) rfl (fun q47 => ?_) (fun q47 => ?_)
          · have q47 := (not_congr (mI_eq0 (by omega))).mp q47
            refine mt_aload_n dX4_merge_29 rfl rfl ?_
            refine mt_iload_n dX4_merge_30 rfl ?_
            refine mt_iconst dX4_merge_31 (v := nI 1) rfl ?_
            refine mt_callV (N := mX4_pairs) (Rc := rX4_pairs) (As := [.int (nI r3), .int (nI 1)]) (st := []) dX4_merge_32 (kX4_pairs hl c46c (mRows.fr (n' := n) HR (by omega) (fun j j1 j2 j3 => c46d (j) (by omega)) (by omega)) (by omega)) sX4_pairs mw_1146 mKX4 rfl c46c rfl (Nat.le_of_ble_eq_true rfl) ⟨⟨Nat.le_of_ble_eq_true rfl, Nat.le_of_ble_eq_true rfl⟩, (by first | exact Nat.le_of_ble_eq_true rfl | (simp only [rX4_isRow, rX4_isLet, rX4_pairs, rX4_room, rX4_refuse, rX4_coming, rX4_both, rX4_sorted, rX4_choose, rX4_did, rX4_merge]; omega)), (by first | exact Nat.le_of_ble_eq_true rfl | (simp only [rX4_isRow, rX4_isLet, rX4_pairs, rX4_room, rX4_refuse, rX4_coming, rX4_both, rX4_sorted, rX4_choose, rX4_did, rX4_merge]; omega))⟩ (fun v48 h49 n50 c51 => ?_) (fun _ _ _ hx => hx.elim)
            obtain ⟨c51a, c51b, c51c⟩ := c51
            rw [c51a, c51b, c51c]
            show mT _ _ _ _ 35 [.ref 27, .int (nI r3), .int (nI r16)] [.int (mq_pairs (S.1 r3) (nI 1))] _ _ _ _
            refine mt_if_gt dX4_merge_35 (tgt := 69) rfl (fun q52 => ?_) (fun q52 => ?_)
            · refine mt_aload_n dX4_merge_69 rfl rfl ?_
              refine mt_callV (N := mX4_refuse) (Rc := rX4_refuse) (As := []) (st := []) dX4_merge_70 (kX4_refuse hl c46c) sX4_refuse mw_1115 mKX4 rfl c46c rfl (Nat.le_of_ble_eq_true rfl) ⟨⟨Nat.le_of_ble_eq_true rfl, Nat.le_of_ble_eq_true rfl⟩, (by first | exact Nat.le_of_ble_eq_true rfl | (simp only [rX4_isRow, rX4_isLet, rX4_pairs, rX4_room, rX4_refuse, rX4_coming, rX4_both, rX4_sorted, rX4_choose, rX4_did, rX4_merge]; omega)), (by first | exact Nat.le_of_ble_eq_true rfl | (simp only [rX4_isRow, rX4_isLet, rX4_pairs, rX4_room, rX4_refuse, rX4_coming, rX4_both, rX4_sorted, rX4_choose, rX4_did, rX4_merge]; omega))⟩ (fun v53 h54 n55 c56 => ?_) (fun _ _ _ hx => hx.elim)
              obtain ⟨c56a, c56b, c56c, c56d⟩ := c56
              rw [c56a, c56b]
              show mT _ _ _ _ 73 [.ref 27, .int (nI r3), .int (nI r16)] [.int (-9)] _ _ _ _
              refine mt_ireturn dX4_merge_73 rfl rfl (by first | exact Nat.le_of_ble_eq_true rfl | (simp only [rX4_isRow, rX4_isLet, rX4_pairs, rX4_room, rX4_refuse, rX4_coming, rX4_both, rX4_sorted, rX4_choose, rX4_did, rX4_merge]; omega)) (by first | exact Nat.le_of_ble_eq_true rfl | (simp only [rX4_isRow, rX4_isLet, rX4_pairs, rX4_room, rX4_refuse, rX4_coming, rX4_both, rX4_sorted, rX4_choose, rX4_did, rX4_merge]; omega)) ?_
              exact mOk.of (x := .int (-9)) (S' := ((S).1, S.2.1, S.2.2.1, S.2.2.2.1 + nI 1, S.2.2.2.2)) (by simp only [mp_merge, dAt_s (k := 4) hr3 (by first | decide | omega), dAt_s (k := 4) hr16 (by first | decide | omega), if_neg q37, if_neg q42, if_neg q47, if_pos q52, cSet_s, cSet_cSet] <;> first | rfl | simp_all) rfl (by omega) c56c (by omega) (mRows.fr (n' := n) HR (by omega) (fun j j1 j2 j3 => (c56d (j) (by omega)).trans (c46d (j) (by omega))) (by omega)) (fun j hj => (c56d j (by omega)).trans (c46d j (by omega)))
            · refine mt_aload_n dX4_merge_38 rfl rfl ?_
              refine mt_iload_n dX4_merge_39 rfl ?_
              refine mt_iconst dX4_merge_40 (v := nI 1) rfl ?_
              refine mt_callV (N := mX4_pairs) (Rc := rX4_pairs) (As := [.int (nI r16), .int (nI 1)]) (st := []) dX4_merge_41 (kX4_pairs hl c46c (mRows.fr (n' := n) HR (by omega) (fun j j1 j2 j3 => c46d (j) (by omega)) (by omega)) (by omega)) sX4_pairs mw_1146 mKX4 rfl c46c rfl (Nat.le_of_ble_eq_true rfl) ⟨⟨Nat.le_of_ble_eq_true rfl, Nat.le_of_ble_eq_true rfl⟩, (by first | exact Nat.le_of_ble_eq_true rfl | (simp only [rX4_isRow, rX4_isLet, rX4_pairs, rX4_room, rX4_refuse, rX4_coming, rX4_both, rX4_sorted, rX4_choose, rX4_did, rX4_merge]; omega)), (by first | exact Nat.le_of_ble_eq_true rfl | (simp only [rX4_isRow, rX4_isLet, rX4_pairs, rX4_room, rX4_refuse, rX4_coming, rX4_both, rX4_sorted, rX4_choose, rX4_did, rX4_merge]; omega))⟩ (fun v57 h58 n59 c60 => ?_) (fun _ _ _ hx => hx.elim)
              obtain ⟨c60a, c60b, c60c⟩ := c60
              rw [c60a, c60b, c60c]
              show mT _ _ _ _ 44 [.ref 27, .int (nI r3), .int (nI r16)] [.int (mq_pairs (S.1 r16) (nI 1))] _ _ _ _
              refine mt_if_gt dX4_merge_44 (tgt := 69) rfl (fun q61 => ?_) (fun q61 => ?_)
              · refine mt_aload_n dX4_merge_69 rfl rfl ?_
                refine mt_callV (N := mX4_refuse) (Rc := rX4_refuse) (As := []) (st := []) dX4_merge_70 (kX4_refuse hl c46c) sX4_refuse mw_1115 mKX4 rfl c46c rfl (Nat.le_of_ble_eq_true rfl) ⟨⟨Nat.le_of_ble_eq_true rfl, Nat.le_of_ble_eq_true rfl⟩, (by first | exact Nat.le_of_ble_eq_true rfl | (simp only [rX4_isRow, rX4_isLet, rX4_pairs, rX4_room, rX4_refuse, rX4_coming, rX4_both, rX4_sorted, rX4_choose, rX4_did, rX4_merge]; omega)), (by first | exact Nat.le_of_ble_eq_true rfl | (simp only [rX4_isRow, rX4_isLet, rX4_pairs, rX4_room, rX4_refuse, rX4_coming, rX4_both, rX4_sorted, rX4_choose, rX4_did, rX4_merge]; omega))⟩ (fun v62 h63 n64 c65 => ?_) (fun _ _ _ hx => hx.elim)
                obtain ⟨c65a, c65b, c65c, c65d⟩ := c65
                rw [c65a, c65b]
                show mT _ _ _ _ 73 [.ref 27, .int (nI r3), .int (nI r16)] [.int (-9)] _ _ _ _
                refine mt_ireturn dX4_merge_73 rfl rfl (by first | exact Nat.le_of_ble_eq_true rfl | (simp only [rX4_isRow, rX4_isLet, rX4_pairs, rX4_room, rX4_refuse, rX4_coming, rX4_both, rX4_sorted, rX4_choose, rX4_did, rX4_merge]; omega)) (by first | exact Nat.le_of_ble_eq_true rfl | (simp only [rX4_isRow, rX4_isLet, rX4_pairs, rX4_room, rX4_refuse, rX4_coming, rX4_both, rX4_sorted, rX4_choose, rX4_did, rX4_merge]; omega)) ?_
                exact mOk.of (x := .int (-9)) (S' := ((S).1, S.2.1, S.2.2.1, S.2.2.2.1 + nI 1, S.2.2.2.2)) (by simp only [mp_merge, dAt_s (k := 4) hr3 (by first | decide | omega), dAt_s (k := 4) hr16 (by first | decide | omega), if_neg q37, if_neg q42, if_neg q47, if_neg q52, if_pos q61, cSet_s, cSet_cSet] <;> first | rfl | simp_all) rfl (by omega) c65c (by omega) (mRows.fr (n' := n) HR (by omega) (fun j j1 j2 j3 => (c65d (j) (by omega)).trans (c46d (j) (by omega))) (by omega)) (fun j hj => (c65d j (by omega)).trans (c46d j (by omega)))
              · refine mt_aload_n dX4_merge_47 rfl rfl ?_
                refine mt_getfield mKX4 (i := 0) (by decide) mw_1053 dX4_merge_48 c46c rfl ?_
                refine mt_iload_n dX4_merge_51 rfl ?_
                refine mp_aaload dX4_merge_52 ((c46d (28) (by omega)).trans G28_1) (fun _ => rfl) rfl rfl (by omega) (by omega) (v := .ref (kx r3)) (by rw [GK_1 _ (by omega)]; rfl) ?_
                refine mt_alen dX4_merge_53 ((c46d (kx r3) (by omega)).trans ke_14) (by decide) ?_
                refine mt_aload_n dX4_merge_54 rfl rfl ?_
                refine mt_getfield mKX4 (i := 0) (by decide) mw_1053 dX4_merge_55 c46c rfl ?_
                refine mt_iload_n dX4_merge_58 rfl ?_
                refine mp_aaload dX4_merge_59 ((c46d (28) (by omega)).trans G28_1) (fun _ => rfl) rfl rfl (by omega) (by omega) (v := .ref (kx r16)) (by rw [GK_1 _ (by omega)]; rfl) ?_
                refine mt_alen dX4_merge_60 ((c46d (kx r16) (by omega)).trans ke_32) (by decide) ?_
                refine mp_iadd dX4_merge_61 (v := nI (((S.1 r3).length) + ((S.1 r16).length))) (nI_add _ _) ?_
                refine mt_iload_n dX4_merge_62 rfl ?_
                refine mt_callS (N := mX4_room) (Rc := rX4_room) (As := [.int (nI r3)]) (st := [.int (nI (((S.1 r3).length) + ((S.1 r16).length)))]) dX4_merge_63 (kX4_room hl (by omega)) sX4_room mw_1089 rfl (Nat.le_of_ble_eq_true rfl) ⟨⟨Nat.le_of_ble_eq_true rfl, Nat.le_of_ble_eq_true rfl⟩, (by first | exact Nat.le_of_ble_eq_true rfl | (simp only [rX4_isRow, rX4_isLet, rX4_pairs, rX4_room, rX4_refuse, rX4_coming, rX4_both, rX4_sorted, rX4_choose, rX4_did, rX4_merge]; omega)), (by first | exact Nat.le_of_ble_eq_true rfl | (simp only [rX4_isRow, rX4_isLet, rX4_pairs, rX4_room, rX4_refuse, rX4_coming, rX4_both, rX4_sorted, rX4_choose, rX4_did, rX4_merge]; omega))⟩ (fun v66 h67 n68 c69 => ?_) (fun _ _ _ hx => hx.elim)
                obtain ⟨c69a, c69b, c69c⟩ := c69
                rw [c69a, c69b, c69c]
                show mT _ _ _ _ 66 [.ref 27, .int (nI r3), .int (nI r16)] [.int (nI (rroom r3)), .int (nI (((S.1 r3).length) + ((S.1 r16).length)))] _ _ _ _
                refine mt_icmp_le dX4_merge_66 (tgt := 74) rfl (fun q70 => ?_) (fun q70 => ?_)
                · have q70 := Int32.not_lt.mpr q70
                  have q70 := (not_congr (nI_ltI (by omega) (by omega))).mp q70
                  refine mt_aload_n dX4_merge_74 rfl rfl ?_
                  refine mt_getfield mKX4 (i := 1) (by decide) mw_1054 dX4_merge_75 c46c rfl ?_
                  refine mt_iload_n dX4_merge_78 rfl ?_
                  refine mt_aload_n dX4_merge_79 rfl rfl ?_
                  refine mt_getfield mKX4 (i := 1) (by decide) mw_1054 dX4_merge_80 c46c rfl ?_
                  refine mt_iload_n dX4_merge_83 rfl ?_
                  refine mp_aaload dX4_merge_84 ((c46d (33) (by omega)).trans G33_1) (fun _ => rfl) rfl rfl (by omega) (by omega) (v := .ref (sx r3)) (by rw [GS_1 _ (by omega)]; rfl) ?_
                  refine mt_aload_n dX4_merge_85 rfl rfl ?_
                  refine mt_iload_n dX4_merge_86 rfl ?_
                  refine mt_iload_n dX4_merge_87 rfl ?_
                  refine mt_callV (N := mX4_coming) (Rc := rX4_coming) (As := [.int (nI r16), .int (nI r3)]) (st := [.ref (sx r3), .int (nI r3), .ref 33]) dX4_merge_88 (kX4_coming hl c46c (mRows.fr (n' := n) HR (by omega) (fun j j1 j2 j3 => c46d (j) (by omega)) (by omega)) (by omega) (by omega) (by omega)) sX4_coming mw_1199 mKX4 rfl c46c rfl (Nat.le_of_ble_eq_true rfl) ⟨⟨Nat.le_of_ble_eq_true rfl, Nat.le_of_ble_eq_true rfl⟩, (by first | exact Nat.le_of_ble_eq_true rfl | (simp only [rX4_isRow, rX4_isLet, rX4_pairs, rX4_room, rX4_refuse, rX4_coming, rX4_both, rX4_sorted, rX4_choose, rX4_did, rX4_merge]; omega)), (by first | exact Nat.le_of_ble_eq_true rfl | (simp only [rX4_isRow, rX4_isLet, rX4_pairs, rX4_room, rX4_refuse, rX4_coming, rX4_both, rX4_sorted, rX4_choose, rX4_did, rX4_merge]; omega))⟩ (fun v71 h72 n73 c74 => ?_) (fun _ _ _ hx => hx.elim)
                  obtain ⟨c74a, c74b, ⟨c74g, c74c, c74d⟩, c74f, c74e⟩ := c74
                  rw [c74a, c74b]
                  have c74k : ∀ j, j ≠ n ∧ j ≠ 27 → h72 j = h44 j := fun j hj => c74e j hj.1 hj.2
                  show mT _ _ _ _ 91 [.ref 27, .int (nI r3), .int (nI r16)] [.ref n, .ref (sx r3), .int (nI r3), .ref 33] _ _ _ _
                  refine mt_callS (N := mX4_both) (Rc := rX4_both) (As := [.ref (sx r3), .ref n]) (st := [.int (nI r3), .ref 33]) dX4_merge_91 (kX4_both hl ((c74k (sx r3) (by omega)).trans ((c46d (sx r3) (by omega)).trans se_14)) c74c (by omega) (by omega) (by omega)) sX4_both mw_1119 rfl (Nat.le_of_ble_eq_true rfl) ⟨⟨Nat.le_of_ble_eq_true rfl, Nat.le_of_ble_eq_true rfl⟩, (by first | exact Nat.le_of_ble_eq_true rfl | (simp only [rX4_isRow, rX4_isLet, rX4_pairs, rX4_room, rX4_refuse, rX4_coming, rX4_both, rX4_sorted, rX4_choose, rX4_did, rX4_merge]; omega)), (by first | exact Nat.le_of_ble_eq_true rfl | (simp only [rX4_isRow, rX4_isLet, rX4_pairs, rX4_room, rX4_refuse, rX4_coming, rX4_both, rX4_sorted, rX4_choose, rX4_did, rX4_merge]; omega))⟩ (fun v75 h76 n77 c78 => ?_) (fun _ _ _ hx => hx.elim)
                  obtain ⟨c78a, c78b, ⟨c78g, c78c, c78d⟩, c78e⟩ := c78
                  rw [c78a, c78b]
                  show mT _ _ _ _ 94 [.ref 27, .int (nI r3), .int (nI r16)] [.ref (n + 1), .int (nI r3), .ref 33] _ _ _ _
                  refine mp_aastoreA dX4_merge_94 ((c78e (33) (by omega)).trans ((c74k (33) (by omega)).trans ((c46d (33) (by omega)).trans G33_1))) c78c rfl (by omega) (by omega) (fun h79 e80 f81 => ?_)
                  refine mt_aload_n dX4_merge_95 rfl rfl ?_
                  refine mt_getfield mKX4 (i := 0) (by decide) mw_1053 dX4_merge_96 ((f81 (27) (by omega)).trans ((c78e (27) (by omega)).trans c74f)) rfl ?_
                  refine mt_iload_n dX4_merge_99 rfl ?_
                  refine mt_aload_n dX4_merge_100 rfl rfl ?_
                  refine mt_getfield mKX4 (i := 0) (by decide) mw_1053 dX4_merge_101 ((f81 (27) (by omega)).trans ((c78e (27) (by omega)).trans c74f)) rfl ?_
                  refine mt_iload_n dX4_merge_104 rfl ?_
                  refine mp_aaload dX4_merge_105 ((f81 (28) (by omega)).trans ((c78e (28) (by omega)).trans ((c74k (28) (by omega)).trans ((c46d (28) (by omega)).trans G28_1)))) (fun _ => rfl) rfl rfl (by omega) (by omega) (v := .ref (kx r3)) (by rw [GK_1 _ (by omega)]; rfl) ?_
                  refine mt_aload_n dX4_merge_106 rfl rfl ?_
                  refine mt_getfield mKX4 (i := 0) (by decide) mw_1053 dX4_merge_107 ((f81 (27) (by omega)).trans ((c78e (27) (by omega)).trans c74f)) rfl ?_
                  refine mt_iload_n dX4_merge_110 rfl ?_
                  refine mp_aaload dX4_merge_111 ((f81 (28) (by omega)).trans ((c78e (28) (by omega)).trans ((c74k (28) (by omega)).trans ((c46d (28) (by omega)).trans G28_1)))) (fun _ => rfl) rfl rfl (by omega) (by omega) (v := .ref (kx r16)) (by rw [GK_1 _ (by omega)]; rfl) ?_
                  refine mt_callS (N := mX4_both) (Rc := rX4_both) (As := [.ref (kx r3), .ref (kx r16)]) (st := [.int (nI r3), .ref 28]) dX4_merge_112 (kX4_both hl ((f81 (kx r3) (by omega)).trans ((c78e (kx r3) (by omega)).trans ((c74k (kx r3) (by omega)).trans ((c46d (kx r3) (by omega)).trans ke_14)))) ((f81 (kx r16) (by omega)).trans ((c78e (kx r16) (by omega)).trans ((c74k (kx r16) (by omega)).trans ((c46d (kx r16) (by omega)).trans ke_32)))) (by omega) (by omega) (by omega)) sX4_both mw_1119 rfl (Nat.le_of_ble_eq_true rfl) ⟨⟨Nat.le_of_ble_eq_true rfl, Nat.le_of_ble_eq_true rfl⟩, (by first | exact Nat.le_of_ble_eq_true rfl | (simp only [rX4_isRow, rX4_isLet, rX4_pairs, rX4_room, rX4_refuse, rX4_coming, rX4_both, rX4_sorted, rX4_choose, rX4_did, rX4_merge]; omega)), (by first | exact Nat.le_of_ble_eq_true rfl | (simp only [rX4_isRow, rX4_isLet, rX4_pairs, rX4_room, rX4_refuse, rX4_coming, rX4_both, rX4_sorted, rX4_choose, rX4_did, rX4_merge]; omega))⟩ (fun v82 h83 n84 c85 => ?_) (fun _ _ _ hx => hx.elim)
                  obtain ⟨c85a, c85b, ⟨c85g, c85c, c85d⟩, c85e⟩ := c85
                  rw [c85a, c85b]
                  show mT _ _ _ _ 115 [.ref 27, .int (nI r3), .int (nI r16)] [.ref (n + 2), .int (nI r3), .ref 28] _ _ _ _
                  refine mp_aastoreA dX4_merge_115 ((c85e (28) (by omega)).trans ((f81 (28) (by omega)).trans ((c78e (28) (by omega)).trans ((c74k (28) (by omega)).trans ((c46d (28) (by omega)).trans G28_1))))) c85c rfl (by omega) (by omega) (fun h86 e87 f88 => ?_)
                  obtain ⟨Sz89, eSz89⟩ : ∃ s9 : cS, s9 = cSet S r3 (jnL (S.1 r3) (xk (S.1 r16)) (comF r3 r16 (S.1 r16).length (S.1 r16) S.2.1) (S.1 r16).length) := ⟨_, rfl⟩
                  obtain ⟨kxz89, sxz89, HRz89⟩ : ∃ k9 s9, mRows h86 (n + 3) Sz89 k9 s9 := by rw [eSz89]; exact mRows.upz (ys := jnL (S.1 r3) (xk (S.1 r16)) (comF r3 r16 (S.1 r16).length (S.1 r16) S.2.1) (S.1 r16).length) HR jnL_len (by omega) (by omega) (by omega) ⟨by omega, by omega⟩ ⟨by omega, by omega⟩ (by omega) e87 (fun q hq hne => (if_neg hne).trans (GK_1 q hq)) ((f88 (33) (by omega)).trans ((c85e (33) (by omega)).trans e80)) (fun q hq hne => (if_neg hne).trans (GS_1 q hq)) ((f88 (n + 2) (by omega)).trans c85c) ((f88 (n + 1) (by omega)).trans ((c85e (n + 1) (by omega)).trans ((f81 (n + 1) (by omega)).trans c78c))) (jn_k c85d kg_14 kg_32) (jn_t c78d sg_14 c74d) (by omega) (fun j j1 j2 j3 j4 => (f88 (j) (by omega)).trans ((c85e (j) (by omega)).trans ((f81 (j) (by omega)).trans ((c78e (j) (by omega)).trans ((c74k (j) (by omega)).trans (c46d (j) (by omega)))))))
                  have eLz89 : (Sz89.1 r3).length = (S.1 r3).length + (S.1 r16).length := by rw [eSz89, cSet_s]; exact jnL_len
                  obtain ⟨⟨gk_90, G28_90, GK_90⟩, ⟨gs_90, G33_90, GS_90⟩, AK_90, AS_90, NE_90, NQ_90, LE_90⟩ := id HRz89
                  obtain ⟨⟨ka_91, kb_91, kc_91, kd_91⟩, kf_91, ke_91, kg_91⟩ := AK_90 r3 (by omega)
                  obtain ⟨⟨sa_91, sb_91, sc_91, sd_91⟩, sf_91, se_91, sg_91⟩ := AS_90 r3 (by omega)
                  have kn_91 := NE_90 r3 r3 (by omega) (by omega)
                  have kl_91 := LE_90 r3 (by omega)
                  have km_91 := rroom_le (r := r3)
                  have le9 : (Sz89.1 r3).length ≤ rroom r3 := by rw [eLz89]; omega
                  refine mt_aload_n dX4_merge_116 rfl rfl ?_
                  refine mt_iload_n dX4_merge_117 rfl ?_
                  refine mt_aload_n dX4_merge_118 rfl rfl ?_
                  refine mt_iload_n dX4_merge_119 rfl ?_
                  refine mt_callV (N := mX4_sorted) (Rc := rX4_sorted) (As := [.int (nI r3)]) (st := [.int (nI r3), .ref 27]) dX4_merge_120 (kX4_sorted hl ((f88 (27) (by omega)).trans ((c85e (27) (by omega)).trans ((f81 (27) (by omega)).trans ((c78e (27) (by omega)).trans c74f)))) HRz89 (by omega) (by omega)) sX4_sorted mw_1187 mKX4 rfl ((f88 (27) (by omega)).trans ((c85e (27) (by omega)).trans ((f81 (27) (by omega)).trans ((c78e (27) (by omega)).trans c74f)))) rfl (Nat.le_of_ble_eq_true rfl) ⟨⟨Nat.le_of_ble_eq_true rfl, Nat.le_of_ble_eq_true rfl⟩, (by first | exact Nat.le_of_ble_eq_true rfl | (simp only [rX4_isRow, rX4_isLet, rX4_pairs, rX4_room, rX4_refuse, rX4_coming, rX4_both, rX4_sorted, rX4_choose, rX4_did, rX4_merge]; omega)), (by first | exact Nat.le_of_ble_eq_true rfl | (simp only [rX4_isRow, rX4_isLet, rX4_pairs, rX4_room, rX4_refuse, rX4_coming, rX4_both, rX4_sorted, rX4_choose, rX4_did, rX4_merge]; omega))⟩ (fun v92 h93 n94 c95 => ?_) (fun _ _ _ hx => hx.elim)
                  obtain ⟨c95a, c95b, ⟨c95g, c95c, c95d⟩, c95e⟩ := c95
                  rw [c95a, c95b]
                  show mT _ _ _ _ 123 [.ref 27, .int (nI r3), .int (nI r16)] [.ref (n + 3), .int (nI r3), .ref 27] _ _ _ _
                  refine mt_callV (N := mX4_choose) (Rc := rX4_choose) (As := [.int (nI r3), .ref (n + 3)]) (st := []) dX4_merge_123 (kX4_choose (pl := scat (Sz89.1 r3)) hl ((c95e (27) (by omega)).trans ((f88 (27) (by omega)).trans ((c85e (27) (by omega)).trans ((f81 (27) (by omega)).trans ((c78e (27) (by omega)).trans c74f))))) (mRows.fr (n' := n + 4) HRz89 (by omega) (fun j j1 j2 j3 => c95e (j) (by omega)) (by omega)) (by omega) (by omega) c95c (fun i hi => ⟨c95d i hi, scat_lt (by omega) i⟩) (by omega) (by omega)) sX4_choose mw_1134 mKX4 rfl ((c95e (27) (by omega)).trans ((f88 (27) (by omega)).trans ((c85e (27) (by omega)).trans ((f81 (27) (by omega)).trans ((c78e (27) (by omega)).trans c74f))))) rfl (Nat.le_of_ble_eq_true rfl) ⟨⟨Nat.le_of_ble_eq_true rfl, Nat.le_of_ble_eq_true rfl⟩, (by first | exact Nat.le_of_ble_eq_true rfl | (simp only [rX4_isRow, rX4_isLet, rX4_pairs, rX4_room, rX4_refuse, rX4_coming, rX4_both, rX4_sorted, rX4_choose, rX4_did, rX4_merge]; omega)), (by first | exact Nat.le_of_ble_eq_true rfl | (simp only [rX4_isRow, rX4_isLet, rX4_pairs, rX4_room, rX4_refuse, rX4_coming, rX4_both, rX4_sorted, rX4_choose, rX4_did, rX4_merge]; omega))⟩ (fun v96 h97 n98 c99 => ?_) (fun _ _ _ hx => hx.elim)
                  obtain ⟨c99a, c99b, c99c, c99d, c99e⟩ := c99
                  rw [c99a, c99b]
                  have c99k : ∀ j, j < n + 4 ∧ j ≠ 28 ∧ j ≠ 33 → h97 j = h93 j := fun j hj => c99e j hj.1 hj.2.1 hj.2.2
                  obtain ⟨Sz100, eSz100⟩ : ∃ s9 : cS, s9 = cSet Sz89 r3 (chF (Sz89.1 r3) (scat (Sz89.1 r3)) ((Sz89.1 r3).length)) := ⟨_, rfl⟩
                  obtain ⟨kxz100, sxz100, HRz100⟩ : ∃ k9 s9, mRows h97 (n + 6) Sz100 k9 s9 := by rw [eSz100]; exact ⟨_, _, c99c⟩
                  have eLz100 : (Sz100.1 r3).length = (Sz89.1 r3).length := by rw [eSz100, cSet_s]; exact chF_l
                  obtain ⟨⟨gk_101, G28_101, GK_101⟩, ⟨gs_101, G33_101, GS_101⟩, AK_101, AS_101, NE_101, NQ_101, LE_101⟩ := id HRz100
                  obtain ⟨⟨ka_102, kb_102, kc_102, kd_102⟩, kf_102, ke_102, kg_102⟩ := AK_101 r3 (by omega)
                  obtain ⟨⟨sa_102, sb_102, sc_102, sd_102⟩, sf_102, se_102, sg_102⟩ := AS_101 r3 (by omega)
                  have kn_102 := NE_101 r3 r3 (by omega) (by omega)
                  have kl_102 := LE_101 r3 (by omega)
                  have km_102 := rroom_le (r := r3)
                  show mT _ _ _ _ 126 [.ref 27, .int (nI r3), .int (nI r16)] [] _ _ _ _
                  refine mt_aload_n dX4_merge_126 rfl rfl ?_
                  refine mt_aload_n dX4_merge_127 rfl rfl ?_
                  refine mt_getfield mKX4 (i := 0) (by decide) mw_1053 dX4_merge_128 c99d rfl ?_
                  refine mt_iload_n dX4_merge_131 rfl ?_
                  refine mp_aaload dX4_merge_132 G28_101 (fun _ => rfl) rfl rfl (by omega) (by omega) (v := .ref (kxz100 r3)) (by rw [GK_101 _ (by omega)]; rfl) ?_
                  refine mt_alen dX4_merge_133 ke_102 (by decide) ?_
                  refine mt_callV (N := mX4_did) (Rc := rX4_did) (As := [.int (nI ((Sz100.1 r3).length))]) (st := []) dX4_merge_134 (kX4_did hl c99d) sX4_did mw_1105 mKX4 rfl c99d rfl (Nat.le_of_ble_eq_true rfl) ⟨⟨Nat.le_of_ble_eq_true rfl, Nat.le_of_ble_eq_true rfl⟩, (by first | exact Nat.le_of_ble_eq_true rfl | (simp only [rX4_isRow, rX4_isLet, rX4_pairs, rX4_room, rX4_refuse, rX4_coming, rX4_both, rX4_sorted, rX4_choose, rX4_did, rX4_merge]; omega)), (by first | exact Nat.le_of_ble_eq_true rfl | (simp only [rX4_isRow, rX4_isLet, rX4_pairs, rX4_room, rX4_refuse, rX4_coming, rX4_both, rX4_sorted, rX4_choose, rX4_did, rX4_merge]; omega))⟩ (fun v103 h104 n105 c106 => ?_) (fun _ _ _ hx => hx.elim)
                  obtain ⟨c106a, c106b, c106c, c106d⟩ := c106
                  rw [c106a, c106b]
                  show mT _ _ _ _ 137 [.ref 27, .int (nI r3), .int (nI r16)] [.int (nI ((Sz100.1 r3).length))] _ _ _ _
                  refine mt_ireturn dX4_merge_137 rfl rfl (by first | exact Nat.le_of_ble_eq_true rfl | (simp only [rX4_isRow, rX4_isLet, rX4_pairs, rX4_room, rX4_refuse, rX4_coming, rX4_both, rX4_sorted, rX4_choose, rX4_did, rX4_merge]; omega)) (by first | exact Nat.le_of_ble_eq_true rfl | (simp only [rX4_isRow, rX4_isLet, rX4_pairs, rX4_room, rX4_refuse, rX4_coming, rX4_both, rX4_sorted, rX4_choose, rX4_did, rX4_merge]; omega)) ?_
                  exact mOk.of (x := .int (nI ((Sz100.1 r3).length))) (S' := ((Sz100).1, comG r3 r16 (S.1 r16).length S.2.1, S.2.2.1 + nI 1, S.2.2.2.1, S.2.2.2.2)) (by rw [eSz100, eSz89]; simp only [mp_merge, dAt_s (k := 4) hr3 (by first | decide | omega), dAt_s (k := 4) hr16 (by first | decide | omega), if_neg q37, if_neg q42, if_neg q47, if_neg q52, if_neg q61, if_neg q70, cSet_s, cSet_cSet] <;> first | rfl | simp_all) rfl (by omega) c106c (by omega) (mRows.fr (n' := n + 6) HRz100 (by omega) (fun j j1 j2 j3 => c106d (j) (by omega)) (by omega)) (fun j hj => (c106d j (by omega)).trans ((c99k j (by omega)).trans ((c95e j (by omega)).trans ((f88 j (by omega)).trans ((c85e j (by omega)).trans ((f81 j (by omega)).trans ((c78e j (by omega)).trans ((c74k j (by omega)).trans (c46d j (by omega))))))))))
                · have q70 := Int32.not_le.mp q70
                  have q70 := (nI_ltI (by omega) (by omega)).mp q70
                  refine mt_aload_n dX4_merge_69 rfl rfl ?_
                  refine mt_callV (N := mX4_refuse) (Rc := rX4_refuse) (As := []) (st := []) dX4_merge_70 (kX4_refuse hl c46c) sX4_refuse mw_1115 mKX4 rfl c46c rfl (Nat.le_of_ble_eq_true rfl) ⟨⟨Nat.le_of_ble_eq_true rfl, Nat.le_of_ble_eq_true rfl⟩, (by first | exact Nat.le_of_ble_eq_true rfl | (simp only [rX4_isRow, rX4_isLet, rX4_pairs, rX4_room, rX4_refuse, rX4_coming, rX4_both, rX4_sorted, rX4_choose, rX4_did, rX4_merge]; omega)), (by first | exact Nat.le_of_ble_eq_true rfl | (simp only [rX4_isRow, rX4_isLet, rX4_pairs, rX4_room, rX4_refuse, rX4_coming, rX4_both, rX4_sorted, rX4_choose, rX4_did, rX4_merge]; omega))⟩ (fun v107 h108 n109 c110 => ?_) (fun _ _ _ hx => hx.elim)
                  obtain ⟨c110a, c110b, c110c, c110d⟩ := c110
                  rw [c110a, c110b]
                  show mT _ _ _ _ 73 [.ref 27, .int (nI r3), .int (nI r16)] [.int (-9)] _ _ _ _
                  refine mt_ireturn dX4_merge_73 rfl rfl (by first | exact Nat.le_of_ble_eq_true rfl | (simp only [rX4_isRow, rX4_isLet, rX4_pairs, rX4_room, rX4_refuse, rX4_coming, rX4_both, rX4_sorted, rX4_choose, rX4_did, rX4_merge]; omega)) (by first | exact Nat.le_of_ble_eq_true rfl | (simp only [rX4_isRow, rX4_isLet, rX4_pairs, rX4_room, rX4_refuse, rX4_coming, rX4_both, rX4_sorted, rX4_choose, rX4_did, rX4_merge]; omega)) ?_
                  exact mOk.of (x := .int (-9)) (S' := ((S).1, S.2.1, S.2.2.1, S.2.2.2.1 + nI 1, S.2.2.2.2)) (by simp only [mp_merge, dAt_s (k := 4) hr3 (by first | decide | omega), dAt_s (k := 4) hr16 (by first | decide | omega), if_neg q37, if_neg q42, if_neg q47, if_neg q52, if_neg q61, if_pos q70, cSet_s, cSet_cSet] <;> first | rfl | simp_all) rfl (by omega) c110c (by omega) (mRows.fr (n' := n) HR (by omega) (fun j j1 j2 j3 => (c110d (j) (by omega)).trans (c46d (j) (by omega))) (by omega)) (fun j hj => (c110d j (by omega)).trans (c46d j (by omega)))
          · have q47 := (mI_eq0 (by omega)).mp q47
            exact absurd q47 (by decide)
abbrev rX4_fill : Room := { frames := 2, cells := 332, slots := 3347, locals := 47 }
set_option maxRecDepth 100000 in
set_option maxHeartbeats 2000000 in
theorem tX4_fill_111 {l : Launch} {K : mK} {h0 : mH} {n0 r m p b ol : Nat} {a : Int32} {gk0 : Nat → Option Nat} {g ac rf kn th : Int32} (hl : l.stackTraces = false) (hp : p < 8) (hm : m ≤ 320) (hb : 0 < b) (hb2 : b < 100) (hr : r < 4) (h39 : 39 ≤ n0) (kk0 : ∀ (k : Nat) (h : mH) (n : Nat) (sd : Int32) (g9 : Nat → Int32), (h n0 = .inl (0, m, g9)) → (∀ i, i < m → g9 i = flF p m a b i) → (∀ j, j < n0 → h j = h0 j) → (n0 < n) → (h 27 = .inr (.inr (6, [.ref 28, .ref 33, .int g, .int ac, .int rf, .int kn, .int th]))) → (h 28 = .inr (.inl (3, 4, va_up gk0 r (some n0)))) → mT l mX4_fill rX4_fill K 173 [.ref 27, .int (nI r), .int (nI m), .int (nI p), .int a, .int (nI b), .int (nI ol), .int sd, .int (nI k)] [] h n 321 (m + 2240)) : ∀ (N0 : Nat) (k : Nat) (h : mH) (n : Nat) (sd : Int32) (g9 : Nat → Int32), (m - k) < N0 → (h 27 = .inr (.inr (6, [.ref 28, .ref 33, .int g, .int ac, .int rf, .int kn, .int th]))) → (h 28 = .inr (.inl (3, 4, va_up gk0 r (some n0)))) → (h n0 = .inl (0, m, g9)) → (∀ i, i < k → g9 i = flF p m a b i) → (sd = drs (drx a b) k) → (∀ j, j < n0 → h j = h0 j) → (n0 < n) → (k ≤ m) → mT l mX4_fill rX4_fill K 111 [.ref 27, .int (nI r), .int (nI m), .int (nI p), .int a, .int (nI b), .int (nI ol), .int sd, .int (nI k)] [] h n (1 + 1 * k) (m + 7 * k) := by
  intro N0
  induction N0 with
  | zero => intro k h n sd g9 hm; exact absurd hm (Nat.not_lt_zero _)
  | succ N0 ih =>
    intro k h n sd g9 hm C0 e28 eN hg hsd hfr hn hk
    refine mt_iload dX4_fill_111 rfl ?_
    refine mt_iload_n dX4_fill_113 rfl ?_
    refine mt_icmp_ge dX4_fill_114 (tgt := 173) rfl (fun q1 => ?_) (fun q1 => ?_)
    · have q1 := Int32.not_lt.mpr q1
      have q1 := (not_congr (nI_ltI (by omega) (by omega))).mp q1
      refine mt_widen (cc' := 321) (sc' := m + 2240) (by first | omega | (simp only [rX4_isRow, rX4_room, rX4_isIn, rX4_isLet, rX4_patterned, rX4_made, rX4_did, rX4_fill]; omega)) (by first | omega | (simp only [rX4_isRow, rX4_room, rX4_isIn, rX4_isLet, rX4_patterned, rX4_made, rX4_did, rX4_fill]; omega)) ?_
      exact kk0 k h n sd g9 eN (fun i hi => hg i (by omega)) hfr hn C0 e28
    · have q1 := Int32.not_le.mp q1
      have q1 := (nI_ltI (by omega) (by omega)).mp q1
      refine mt_iload dX4_fill_117 rfl ?_
      refine mt_sipush dX4_fill_119 (v := nI 25173) (by decide) ?_
      refine mp_imul dX4_fill_122 (v := sd * (nI 25173)) rfl ?_
      refine mt_sipush dX4_fill_123 (v := nI 13849) (by decide) ?_
      refine mp_iadd dX4_fill_126 (v := (sd * (nI 25173)) + (nI 13849)) rfl ?_
      refine mt_ldc (v := nI 65536) dX4_fill_127 mw_1096 ?_
      refine mp_irem dX4_fill_129 ((mI_ne0 (by first | decide | omega) (by first | decide | omega))) (v := ((sd * (nI 25173)) + (nI 13849)) - ((sd * (nI 25173)) + (nI 13849)) / (nI 65536) * (nI 65536)) rfl ?_
      refine mp_istore dX4_fill_130 (ls' := [.ref 27, .int (nI r), .int (nI m), .int (nI p), .int a, .int (nI b), .int (nI ol), .int (((sd * (nI 25173)) + (nI 13849)) - ((sd * (nI 25173)) + (nI 13849)) / (nI 65536) * (nI 65536)), .int (nI k)]) rfl (by decide) rfl ?_
      refine mt_aload_n dX4_fill_132 rfl rfl ?_
      refine mt_getfield mKX4 (i := 0) (by decide) mw_1053 dX4_fill_133 C0 rfl ?_
      refine mt_iload_n dX4_fill_136 rfl ?_
      refine mp_aaload dX4_fill_137 e28 (fun _ => rfl) rfl rfl (by omega) (by omega) (v := .ref n0) va_rf_up ?_
      refine mt_iload dX4_fill_138 rfl ?_
      refine mt_iload_n dX4_fill_140 rfl ?_
      refine mt_bipush dX4_fill_141 (v := nI 7) (by decide) ?_
      refine mt_icmp_ne dX4_fill_143 (tgt := 155) rfl (fun q2 => ?_) (fun q2 => ?_)
      · have q2 := (not_congr (nI_eq (by omega) (by omega))).mp q2
        refine mt_iload dX4_fill_155 rfl ?_
        refine mt_iload_n dX4_fill_157 rfl ?_
        refine mt_iload_n dX4_fill_158 rfl ?_
        refine mt_iload dX4_fill_159 rfl ?_
        refine mt_iload dX4_fill_161 rfl ?_
        refine mt_callS (N := mX4_patterned) (Rc := rX4_patterned) (As := [.int (nI k), .int (nI m), .int (nI p), .int a, .int (nI b)]) (st := [.int (nI k), .ref n0]) dX4_fill_163 (kX4_patterned hl (by omega) (by omega) (by omega) (by omega) (by omega)) sX4_patterned mw_1097 rfl (Nat.le_of_ble_eq_true rfl) ⟨⟨Nat.le_of_ble_eq_true rfl, Nat.le_of_ble_eq_true rfl⟩, (by first | exact Nat.le_of_ble_eq_true rfl | (simp only [rX4_isRow, rX4_room, rX4_isIn, rX4_isLet, rX4_patterned, rX4_made, rX4_did, rX4_fill]; omega)), (by first | exact Nat.le_of_ble_eq_true rfl | (simp only [rX4_isRow, rX4_room, rX4_isIn, rX4_isLet, rX4_patterned, rX4_made, rX4_did, rX4_fill]; omega))⟩ (fun v3 h4 n5 c6 => ?_) (fun _ _ _ hx => hx.elim)
        obtain ⟨c6a, c6b, c6c⟩ := c6
        rw [c6a, c6b]
        show mT _ _ _ _ 166 [.ref 27, .int (nI r), .int (nI m), .int (nI p), .int a, .int (nI b), .int (nI ol), .int (((sd * (nI 25173)) + (nI 13849)) - ((sd * (nI 25173)) + (nI 13849)) / (nI 65536) * (nI 65536)), .int (nI k)] [.int (mpat p k m a b), .int (nI k), .ref n0] _ _ _ _
        refine mp_iastore dX4_fill_166 ((c6c (n0) (by omega)).trans eN) rfl (by omega) (by omega) (fun h7 e8 f9 => ?_)
        refine mp_iinc dX4_fill_167 rfl (v := nI (k + 1)) mI_inc (ls' := [.ref 27, .int (nI r), .int (nI m), .int (nI p), .int a, .int (nI b), .int (nI ol), .int (((sd * (nI 25173)) + (nI 13849)) - ((sd * (nI 25173)) + (nI 13849)) / (nI 65536) * (nI 65536)), .int (nI (k + 1))]) rfl (by decide) rfl ?_
        refine mt_goto dX4_fill_170 (tgt := 111) rfl ?_
        refine mt_widen (cc' := 1 + 1 * (k + 1)) (sc' := m + 7 * (k + 1)) (by first | omega | (simp only [rX4_isRow, rX4_room, rX4_isIn, rX4_isLet, rX4_patterned, rX4_made, rX4_did, rX4_fill]; omega)) (by first | omega | (simp only [rX4_isRow, rX4_room, rX4_isIn, rX4_isLet, rX4_patterned, rX4_made, rX4_did, rX4_fill]; omega)) ?_
        exact ih (k + 1) h7 (n + 1) (((sd * (nI 25173)) + (nI 13849)) - ((sd * (nI 25173)) + (nI 13849)) / (nI 65536) * (nI 65536)) (upd g9 k (mpat p k m a b)) (by omega) ((f9 (27) (by omega)).trans ((c6c (27) (by omega)).trans C0)) ((f9 (28) (by omega)).trans ((c6c (28) (by omega)).trans e28)) e8 (arr_step (F := fun i => flF p m a b i) hg (if_neg q2).symm) (congrArg drw hsd) (fun j hj => ((f9 j (by omega)).trans (c6c j (by omega))).trans (hfr j hj)) (by omega) (by omega)
      · have q2 := (nI_eq (by omega) (by omega)).mp q2
        refine mt_iload dX4_fill_146 rfl ?_
        refine mt_sipush dX4_fill_148 (v := nI 512) (by decide) ?_
        refine mp_irem dX4_fill_151 ((mI_ne0 (by first | decide | omega) (by first | decide | omega))) (v := (((sd * (nI 25173)) + (nI 13849)) - ((sd * (nI 25173)) + (nI 13849)) / (nI 65536) * (nI 65536)) - (((sd * (nI 25173)) + (nI 13849)) - ((sd * (nI 25173)) + (nI 13849)) / (nI 65536) * (nI 65536)) / (nI 512) * (nI 512)) rfl ?_
        refine mt_goto dX4_fill_152 (tgt := 166) rfl ?_
        refine mp_iastore dX4_fill_166 eN rfl (by omega) (by omega) (fun h10 e11 f12 => ?_)
        refine mp_iinc dX4_fill_167 rfl (v := nI (k + 1)) mI_inc (ls' := [.ref 27, .int (nI r), .int (nI m), .int (nI p), .int a, .int (nI b), .int (nI ol), .int (((sd * (nI 25173)) + (nI 13849)) - ((sd * (nI 25173)) + (nI 13849)) / (nI 65536) * (nI 65536)), .int (nI (k + 1))]) rfl (by decide) rfl ?_
        refine mt_goto dX4_fill_170 (tgt := 111) rfl ?_
        refine mt_widen (cc' := 1 + 1 * (k + 1)) (sc' := m + 7 * (k + 1)) (by first | omega | (simp only [rX4_isRow, rX4_room, rX4_isIn, rX4_isLet, rX4_patterned, rX4_made, rX4_did, rX4_fill]; omega)) (by first | omega | (simp only [rX4_isRow, rX4_room, rX4_isIn, rX4_isLet, rX4_patterned, rX4_made, rX4_did, rX4_fill]; omega)) ?_
        exact ih (k + 1) h10 n (((sd * (nI 25173)) + (nI 13849)) - ((sd * (nI 25173)) + (nI 13849)) / (nI 65536) * (nI 65536)) (upd g9 k ((((sd * (nI 25173)) + (nI 13849)) - ((sd * (nI 25173)) + (nI 13849)) / (nI 65536) * (nI 65536)) - (((sd * (nI 25173)) + (nI 13849)) - ((sd * (nI 25173)) + (nI 13849)) / (nI 65536) * (nI 65536)) / (nI 512) * (nI 512))) (by omega) ((f12 (27) (by omega)).trans C0) ((f12 (28) (by omega)).trans e28) e11 (arr_step (F := fun i => flF p m a b i) hg (by rw [hsd]; exact (if_pos q2).symm)) (congrArg drw hsd) (fun j hj => (f12 j (by omega)).trans (hfr j hj)) (by omega) (by omega)
def mp_fill (S : cS) (row : Int32) (many : Int32) (pattern : Int32) (a : Int32) (b : Int32) : Nat × Value × cS := dAt S 4 row fun r => dArg S (rroom r + 1) many fun m => dArg S 8 pattern fun p => dFit S (aOk a) (dB S b fun bn => (0, .int (nI (S.1 r).length), cAct (cGiv (cSet S r (zipF (flF p m a bn) (madeF r S.2.1) m)) (madeG r m S.2.1))))
set_option maxRecDepth 100000 in
set_option maxHeartbeats 2000000 in
theorem kX4_fill {l : Launch} (hl : l.stackTraces = false) {h : mH} {n : Nat} {S : cS} {th : Int32} {row : Int32} {many : Int32} {pattern : Int32} {a : Int32} {b : Int32} (C : mAt h n S th) : mC l mX4_fill rX4_fill [.ref 27, .int row, .int many, .int pattern, .int a, .int b] h n (mOk (mp_fill S row many pattern a b) (.int (nI 0)) h n) (mNX) := by
  obtain ⟨C0, h39, kx, sx, HR⟩ := id C
  obtain ⟨⟨gk_1, G28_1, GK_1⟩, ⟨gs_1, G33_1, GS_1⟩, AK_1, AS_1, NE_1, NQ_1, LE_1⟩ := id HR
  refine mm_enter hl (by decide +kernel) rfl rfl rfl (Nat.le_of_ble_eq_true rfl) ?_
  show mT _ _ _ _ 0 [.ref 27, .int row, .int many, .int pattern, .int a, .int b, .double 0, .double 0, .double 0] [] _ _ 0 0
  rcases hq2 : inN 4 row with _ | r3
  · refine mt_aload_n dX4_fill_0 rfl rfl ?_
    refine mt_iload_n dX4_fill_1 rfl ?_
    refine mt_callS (N := mX4_isRow) (Rc := rX4_isRow) (As := [.int row]) (st := [.ref 27]) dX4_fill_2 (kX4_isRow hl) sX4_isRow mw_1083 rfl (Nat.le_of_ble_eq_true rfl) ⟨⟨Nat.le_of_ble_eq_true rfl, Nat.le_of_ble_eq_true rfl⟩, (by first | exact Nat.le_of_ble_eq_true rfl | (simp only [rX4_isRow, rX4_room, rX4_isIn, rX4_isLet, rX4_patterned, rX4_made, rX4_did, rX4_fill]; omega)), (by first | exact Nat.le_of_ble_eq_true rfl | (simp only [rX4_isRow, rX4_room, rX4_isIn, rX4_isLet, rX4_patterned, rX4_made, rX4_did, rX4_fill]; omega))⟩ (fun v4 h5 n6 c7 => ?_) (fun _ _ _ hx => hx.elim)
    obtain ⟨c7a, c7b, c7c⟩ := c7
    rw [show (inN 4 row).isSome = false from by rw [hq2]; rfl] at c7a
    rw [c7a, c7b, c7c]
    show mT _ _ _ _ 5 [.ref 27, .int row, .int many, .int pattern, .int a, .int b, .double 0, .double 0, .double 0] [.int (nI 0), .ref 27] _ _ _ _
    refine mt_iload_n dX4_fill_5 rfl ?_
    refine mt_callS (N := mX4_isRow) (Rc := rX4_isRow) (As := [.int row]) (st := [.int (nI 0), .ref 27]) dX4_fill_6 (kX4_isRow hl) sX4_isRow mw_1083 rfl (Nat.le_of_ble_eq_true rfl) ⟨⟨Nat.le_of_ble_eq_true rfl, Nat.le_of_ble_eq_true rfl⟩, (by first | exact Nat.le_of_ble_eq_true rfl | (simp only [rX4_isRow, rX4_room, rX4_isIn, rX4_isLet, rX4_patterned, rX4_made, rX4_did, rX4_fill]; omega)), (by first | exact Nat.le_of_ble_eq_true rfl | (simp only [rX4_isRow, rX4_room, rX4_isIn, rX4_isLet, rX4_patterned, rX4_made, rX4_did, rX4_fill]; omega))⟩ (fun v8 h9 n10 c11 => ?_) (fun _ _ _ hx => hx.elim)
    obtain ⟨c11a, c11b, c11c⟩ := c11
    rw [show (inN 4 row).isSome = false from by rw [hq2]; rfl] at c11a
    rw [c11a, c11b, c11c]
    show mT _ _ _ _ 9 [.ref 27, .int row, .int many, .int pattern, .int a, .int b, .double 0, .double 0, .double 0] [.int (nI 0), .int (nI 0), .ref 27] _ _ _ _
    refine mt_if_eq dX4_fill_9 (tgt := 63) rfl (fun q12 => ?_) (fun q12 => ?_)
    · have q12 := (mI_eq0 (by omega)).mp q12
      refine mt_iconst dX4_fill_63 (v := nI 0) rfl ?_
      refine mt_callV (N := mX4_isLet) (Rc := rX4_isLet) (As := [.int (nI 0), .int (nI 0)]) (st := []) dX4_fill_64 (kX4_isLet (t := false) (f := false) hl C0) sX4_isLet mw_1092 mKX4 rfl C0 rfl (Nat.le_of_ble_eq_true rfl) ⟨⟨Nat.le_of_ble_eq_true rfl, Nat.le_of_ble_eq_true rfl⟩, (by first | exact Nat.le_of_ble_eq_true rfl | (simp only [rX4_isRow, rX4_room, rX4_isIn, rX4_isLet, rX4_patterned, rX4_made, rX4_did, rX4_fill]; omega)), (by first | exact Nat.le_of_ble_eq_true rfl | (simp only [rX4_isRow, rX4_room, rX4_isIn, rX4_isLet, rX4_patterned, rX4_made, rX4_did, rX4_fill]; omega))⟩ (fun v13 h14 n15 c16 => ?_) (fun _ _ _ hx => hx.elim)
      obtain ⟨c16a, c16b, c16c, c16d⟩ := c16
      rw [c16a, c16b]
      show mT _ _ _ _ 67 [.ref 27, .int row, .int many, .int pattern, .int a, .int b, .double 0, .double 0, .double 0] [.int (nI 0)] _ _ _ _
      refine mt_if_ne dX4_fill_67 (tgt := 72) rfl (fun q17 => ?_) (fun q17 => ?_)
      · have q17 := (not_congr (mI_eq0 (by omega))).mp q17
        exact absurd q17 (by decide)
      · have q17 := (mI_eq0 (by omega)).mp q17
        refine mt_iconst dX4_fill_70 (v := nI 0) rfl ?_
        refine mt_ireturn dX4_fill_71 rfl rfl (by first | exact Nat.le_of_ble_eq_true rfl | (simp only [rX4_isRow, rX4_room, rX4_isIn, rX4_isLet, rX4_patterned, rX4_made, rX4_did, rX4_fill]; omega)) (by first | exact Nat.le_of_ble_eq_true rfl | (simp only [rX4_isRow, rX4_room, rX4_isIn, rX4_isLet, rX4_patterned, rX4_made, rX4_did, rX4_fill]; omega)) ?_
        exact mOk.no (k := 1) (S' := S) (by simp only [mp_fill, dAt_n (k := 4) (x := row) hq2, if_pos q12, if_pos q17]) (by decide) rfl (by omega) c16c (by omega) (mRows.fr (n' := n) HR (by omega) (fun j j1 j2 j3 => c16d (j) (by omega)) (by omega)) (fun j hj => c16d j (by omega))
    · have q12 := (not_congr (mI_eq0 (by omega))).mp q12
      exact absurd q12 (by decide)
  · obtain ⟨hr3, rfl⟩ := inN_of hq2 (by first | decide | omega)
    obtain ⟨⟨ka_18, kb_18, kc_18, kd_18⟩, kf_18, ke_18, kg_18⟩ := AK_1 r3 hr3
    obtain ⟨⟨sa_18, sb_18, sc_18, sd_18⟩, sf_18, se_18, sg_18⟩ := AS_1 r3 hr3
    have kn_18 := NE_1 r3 r3 hr3 hr3
    have kl_18 := LE_1 r3 hr3
    have km_18 := rroom_le (r := r3)
    rcases hq19 : inN (rroom r3 + 1) many with _ | p20
    · refine mt_aload_n dX4_fill_0 rfl rfl ?_
      refine mt_iload_n dX4_fill_1 rfl ?_
      refine mt_callS (N := mX4_isRow) (Rc := rX4_isRow) (As := [.int (nI r3)]) (st := [.ref 27]) dX4_fill_2 (kX4_isRow hl) sX4_isRow mw_1083 rfl (Nat.le_of_ble_eq_true rfl) ⟨⟨Nat.le_of_ble_eq_true rfl, Nat.le_of_ble_eq_true rfl⟩, (by first | exact Nat.le_of_ble_eq_true rfl | (simp only [rX4_isRow, rX4_room, rX4_isIn, rX4_isLet, rX4_patterned, rX4_made, rX4_did, rX4_fill]; omega)), (by first | exact Nat.le_of_ble_eq_true rfl | (simp only [rX4_isRow, rX4_room, rX4_isIn, rX4_isLet, rX4_patterned, rX4_made, rX4_did, rX4_fill]; omega))⟩ (fun v21 h22 n23 c24 => ?_) (fun _ _ _ hx => hx.elim)
      obtain ⟨c24a, c24b, c24c⟩ := c24
      rw [show (inN 4 (nI r3)).isSome = true from by rw [inN_some hr3 (by decide)]; rfl] at c24a
      rw [c24a, c24b, c24c]
      show mT _ _ _ _ 5 [.ref 27, .int (nI r3), .int many, .int pattern, .int a, .int b, .double 0, .double 0, .double 0] [.int (nI 1), .ref 27] _ _ _ _
      refine mt_iload_n dX4_fill_5 rfl ?_
      refine mt_callS (N := mX4_isRow) (Rc := rX4_isRow) (As := [.int (nI r3)]) (st := [.int (nI 1), .ref 27]) dX4_fill_6 (kX4_isRow hl) sX4_isRow mw_1083 rfl (Nat.le_of_ble_eq_true rfl) ⟨⟨Nat.le_of_ble_eq_true rfl, Nat.le_of_ble_eq_true rfl⟩, (by first | exact Nat.le_of_ble_eq_true rfl | (simp only [rX4_isRow, rX4_room, rX4_isIn, rX4_isLet, rX4_patterned, rX4_made, rX4_did, rX4_fill]; omega)), (by first | exact Nat.le_of_ble_eq_true rfl | (simp only [rX4_isRow, rX4_room, rX4_isIn, rX4_isLet, rX4_patterned, rX4_made, rX4_did, rX4_fill]; omega))⟩ (fun v25 h26 n27 c28 => ?_) (fun _ _ _ hx => hx.elim)
      obtain ⟨c28a, c28b, c28c⟩ := c28
      rw [show (inN 4 (nI r3)).isSome = true from by rw [inN_some hr3 (by decide)]; rfl] at c28a
      rw [c28a, c28b, c28c]
      show mT _ _ _ _ 9 [.ref 27, .int (nI r3), .int many, .int pattern, .int a, .int b, .double 0, .double 0, .double 0] [.int (nI 1), .int (nI 1), .ref 27] _ _ _ _
      refine mt_if_eq dX4_fill_9 (tgt := 63) rfl (fun q29 => ?_) (fun q29 => ?_)
      · have q29 := (mI_eq0 (by omega)).mp q29
        exact absurd q29 (by decide)
      · have q29 := (not_congr (mI_eq0 (by omega))).mp q29
        refine mt_iload_n dX4_fill_12 rfl ?_
        refine mt_iconst dX4_fill_13 (v := nI 0) rfl ?_
        refine mt_iload_n dX4_fill_14 rfl ?_
        refine mt_callS (N := mX4_room) (Rc := rX4_room) (As := [.int (nI r3)]) (st := [.int (nI 0), .int many, .int (nI 1), .ref 27]) dX4_fill_15 (kX4_room hl (by omega)) sX4_room mw_1089 rfl (Nat.le_of_ble_eq_true rfl) ⟨⟨Nat.le_of_ble_eq_true rfl, Nat.le_of_ble_eq_true rfl⟩, (by first | exact Nat.le_of_ble_eq_true rfl | (simp only [rX4_isRow, rX4_room, rX4_isIn, rX4_isLet, rX4_patterned, rX4_made, rX4_did, rX4_fill]; omega)), (by first | exact Nat.le_of_ble_eq_true rfl | (simp only [rX4_isRow, rX4_room, rX4_isIn, rX4_isLet, rX4_patterned, rX4_made, rX4_did, rX4_fill]; omega))⟩ (fun v30 h31 n32 c33 => ?_) (fun _ _ _ hx => hx.elim)
        obtain ⟨c33a, c33b, c33c⟩ := c33
        rw [c33a, c33b, c33c]
        show mT _ _ _ _ 18 [.ref 27, .int (nI r3), .int many, .int pattern, .int a, .int b, .double 0, .double 0, .double 0] [.int (nI (rroom r3)), .int (nI 0), .int many, .int (nI 1), .ref 27] _ _ _ _
        refine mt_callS (N := mX4_isIn) (Rc := rX4_isIn) (As := [.int many, .int (nI 0), .int (nI (rroom r3))]) (st := [.int (nI 1), .ref 27]) dX4_fill_18 (kX4_isIn hl) sX4_isIn mw_1086 rfl (Nat.le_of_ble_eq_true rfl) ⟨⟨Nat.le_of_ble_eq_true rfl, Nat.le_of_ble_eq_true rfl⟩, (by first | exact Nat.le_of_ble_eq_true rfl | (simp only [rX4_isRow, rX4_room, rX4_isIn, rX4_isLet, rX4_patterned, rX4_made, rX4_did, rX4_fill]; omega)), (by first | exact Nat.le_of_ble_eq_true rfl | (simp only [rX4_isRow, rX4_room, rX4_isIn, rX4_isLet, rX4_patterned, rX4_made, rX4_did, rX4_fill]; omega))⟩ (fun v34 h35 n36 c37 => ?_) (fun _ _ _ hx => hx.elim)
        obtain ⟨c37a, c37b, c37c⟩ := c37
        rw [show inR many (nI 0) (nI (rroom r3)) = false from inR_f (k := rroom r3) hq19 (by first | decide | omega)] at c37a
        rw [c37a, c37b, c37c]
        show mT _ _ _ _ 21 [.ref 27, .int (nI r3), .int many, .int pattern, .int a, .int b, .double 0, .double 0, .double 0] [.int (nI 0), .int (nI 1), .ref 27] _ _ _ _
        refine mt_if_eq dX4_fill_21 (tgt := 63) rfl (fun q38 => ?_) (fun q38 => ?_)
        · have q38 := (mI_eq0 (by omega)).mp q38
          refine mt_iconst dX4_fill_63 (v := nI 0) rfl ?_
          refine mt_callV (N := mX4_isLet) (Rc := rX4_isLet) (As := [.int (nI 1), .int (nI 0)]) (st := []) dX4_fill_64 (kX4_isLet (t := true) (f := false) hl C0) sX4_isLet mw_1092 mKX4 rfl C0 rfl (Nat.le_of_ble_eq_true rfl) ⟨⟨Nat.le_of_ble_eq_true rfl, Nat.le_of_ble_eq_true rfl⟩, (by first | exact Nat.le_of_ble_eq_true rfl | (simp only [rX4_isRow, rX4_room, rX4_isIn, rX4_isLet, rX4_patterned, rX4_made, rX4_did, rX4_fill]; omega)), (by first | exact Nat.le_of_ble_eq_true rfl | (simp only [rX4_isRow, rX4_room, rX4_isIn, rX4_isLet, rX4_patterned, rX4_made, rX4_did, rX4_fill]; omega))⟩ (fun v39 h40 n41 c42 => ?_) (fun _ _ _ hx => hx.elim)
          obtain ⟨c42a, c42b, c42c, c42d⟩ := c42
          rw [c42a, c42b]
          show mT _ _ _ _ 67 [.ref 27, .int (nI r3), .int many, .int pattern, .int a, .int b, .double 0, .double 0, .double 0] [.int (nI 0)] _ _ _ _
          refine mt_if_ne dX4_fill_67 (tgt := 72) rfl (fun q43 => ?_) (fun q43 => ?_)
          · have q43 := (not_congr (mI_eq0 (by omega))).mp q43
            exact absurd q43 (by decide)
          · have q43 := (mI_eq0 (by omega)).mp q43
            refine mt_iconst dX4_fill_70 (v := nI 0) rfl ?_
            refine mt_ireturn dX4_fill_71 rfl rfl (by first | exact Nat.le_of_ble_eq_true rfl | (simp only [rX4_isRow, rX4_room, rX4_isIn, rX4_isLet, rX4_patterned, rX4_made, rX4_did, rX4_fill]; omega)) (by first | exact Nat.le_of_ble_eq_true rfl | (simp only [rX4_isRow, rX4_room, rX4_isIn, rX4_isLet, rX4_patterned, rX4_made, rX4_did, rX4_fill]; omega)) ?_
            exact mOk.no (k := 2) (S' := S) (by simp only [mp_fill, dAt_s (k := 4) hr3 (by first | decide | omega), dArg_n (k := (rroom r3 + 1)) (x := many) hq19, if_neg q29, if_pos q38, if_pos q43]) (by decide) rfl (by omega) c42c (by omega) (mRows.fr (n' := n) HR (by omega) (fun j j1 j2 j3 => c42d (j) (by omega)) (by omega)) (fun j hj => c42d j (by omega))
        · have q38 := (not_congr (mI_eq0 (by omega))).mp q38
          exact absurd q38 (by decide)
    · obtain ⟨hp20, rfl⟩ := inN_of hq19 (by first | decide | omega)
      rcases hq44 : inN 8 pattern with _ | p45
      · refine mt_aload_n dX4_fill_0 rfl rfl ?_
        refine mt_iload_n dX4_fill_1 rfl ?_
        refine mt_callS (N := mX4_isRow) (Rc := rX4_isRow) (As := [.int (nI r3)]) (st := [.ref 27]) dX4_fill_2 (kX4_isRow hl) sX4_isRow mw_1083 rfl (Nat.le_of_ble_eq_true rfl) ⟨⟨Nat.le_of_ble_eq_true rfl, Nat.le_of_ble_eq_true rfl⟩, (by first | exact Nat.le_of_ble_eq_true rfl | (simp only [rX4_isRow, rX4_room, rX4_isIn, rX4_isLet, rX4_patterned, rX4_made, rX4_did, rX4_fill]; omega)), (by first | exact Nat.le_of_ble_eq_true rfl | (simp only [rX4_isRow, rX4_room, rX4_isIn, rX4_isLet, rX4_patterned, rX4_made, rX4_did, rX4_fill]; omega))⟩ (fun v46 h47 n48 c49 => ?_) (fun _ _ _ hx => hx.elim)
        obtain ⟨c49a, c49b, c49c⟩ := c49
        rw [show (inN 4 (nI r3)).isSome = true from by rw [inN_some hr3 (by decide)]; rfl] at c49a
        rw [c49a, c49b, c49c]
        show mT _ _ _ _ 5 [.ref 27, .int (nI r3), .int (nI p20), .int pattern, .int a, .int b, .double 0, .double 0, .double 0] [.int (nI 1), .ref 27] _ _ _ _
        refine mt_iload_n dX4_fill_5 rfl ?_
        refine mt_callS (N := mX4_isRow) (Rc := rX4_isRow) (As := [.int (nI r3)]) (st := [.int (nI 1), .ref 27]) dX4_fill_6 (kX4_isRow hl) sX4_isRow mw_1083 rfl (Nat.le_of_ble_eq_true rfl) ⟨⟨Nat.le_of_ble_eq_true rfl, Nat.le_of_ble_eq_true rfl⟩, (by first | exact Nat.le_of_ble_eq_true rfl | (simp only [rX4_isRow, rX4_room, rX4_isIn, rX4_isLet, rX4_patterned, rX4_made, rX4_did, rX4_fill]; omega)), (by first | exact Nat.le_of_ble_eq_true rfl | (simp only [rX4_isRow, rX4_room, rX4_isIn, rX4_isLet, rX4_patterned, rX4_made, rX4_did, rX4_fill]; omega))⟩ (fun v50 h51 n52 c53 => ?_) (fun _ _ _ hx => hx.elim)
        obtain ⟨c53a, c53b, c53c⟩ := c53
        rw [show (inN 4 (nI r3)).isSome = true from by rw [inN_some hr3 (by decide)]; rfl] at c53a
        rw [c53a, c53b, c53c]
        show mT _ _ _ _ 9 [.ref 27, .int (nI r3), .int (nI p20), .int pattern, .int a, .int b, .double 0, .double 0, .double 0] [.int (nI 1), .int (nI 1), .ref 27] _ _ _ _
        refine mt_if_eq dX4_fill_9 (tgt := 63) rfl (fun q54 => ?_) (fun q54 => ?_)
        · have q54 := (mI_eq0 (by omega)).mp q54
          exact absurd q54 (by decide)
        · have q54 := (not_congr (mI_eq0 (by omega))).mp q54
          refine mt_iload_n dX4_fill_12 rfl ?_
          refine mt_iconst dX4_fill_13 (v := nI 0) rfl ?_
          refine mt_iload_n dX4_fill_14 rfl ?_
          refine mt_callS (N := mX4_room) (Rc := rX4_room) (As := [.int (nI r3)]) (st := [.int (nI 0), .int (nI p20), .int (nI 1), .ref 27]) dX4_fill_15 (kX4_room hl (by omega)) sX4_room mw_1089 rfl (Nat.le_of_ble_eq_true rfl) ⟨⟨Nat.le_of_ble_eq_true rfl, Nat.le_of_ble_eq_true rfl⟩, (by first | exact Nat.le_of_ble_eq_true rfl | (simp only [rX4_isRow, rX4_room, rX4_isIn, rX4_isLet, rX4_patterned, rX4_made, rX4_did, rX4_fill]; omega)), (by first | exact Nat.le_of_ble_eq_true rfl | (simp only [rX4_isRow, rX4_room, rX4_isIn, rX4_isLet, rX4_patterned, rX4_made, rX4_did, rX4_fill]; omega))⟩ (fun v55 h56 n57 c58 => ?_) (fun _ _ _ hx => hx.elim)
          obtain ⟨c58a, c58b, c58c⟩ := c58
          rw [c58a, c58b, c58c]
          show mT _ _ _ _ 18 [.ref 27, .int (nI r3), .int (nI p20), .int pattern, .int a, .int b, .double 0, .double 0, .double 0] [.int (nI (rroom r3)), .int (nI 0), .int (nI p20), .int (nI 1), .ref 27] _ _ _ _
          refine mt_callS (N := mX4_isIn) (Rc := rX4_isIn) (As := [.int (nI p20), .int (nI 0), .int (nI (rroom r3))]) (st := [.int (nI 1), .ref 27]) dX4_fill_18 (kX4_isIn hl) sX4_isIn mw_1086 rfl (Nat.le_of_ble_eq_true rfl) ⟨⟨Nat.le_of_ble_eq_true rfl, Nat.le_of_ble_eq_true rfl⟩, (by first | exact Nat.le_of_ble_eq_true rfl | (simp only [rX4_isRow, rX4_room, rX4_isIn, rX4_isLet, rX4_patterned, rX4_made, rX4_did, rX4_fill]; omega)), (by first | exact Nat.le_of_ble_eq_true rfl | (simp only [rX4_isRow, rX4_room, rX4_isIn, rX4_isLet, rX4_patterned, rX4_made, rX4_did, rX4_fill]; omega))⟩ (fun v59 h60 n61 c62 => ?_) (fun _ _ _ hx => hx.elim)
          obtain ⟨c62a, c62b, c62c⟩ := c62
          rw [show inR (nI p20) (nI 0) (nI (rroom r3)) = true from inR_t (k := rroom r3) hp20 (by first | decide | omega)] at c62a
          rw [c62a, c62b, c62c]
          show mT _ _ _ _ 21 [.ref 27, .int (nI r3), .int (nI p20), .int pattern, .int a, .int b, .double 0, .double 0, .double 0] [.int (nI 1), .int (nI 1), .ref 27] _ _ _ _
          refine mt_if_eq dX4_fill_21 (tgt := 63) rfl (fun q63 => ?_) (fun q63 => ?_)
          · have q63 := (mI_eq0 (by omega)).mp q63
            exact absurd q63 (by decide)
          · have q63 := (not_congr (mI_eq0 (by omega))).mp q63
            refine mt_iload_n dX4_fill_24 rfl ?_
            refine mt_iconst dX4_fill_25 (v := nI 0) rfl ?_
            refine mt_bipush dX4_fill_26 (v := nI 7) (by decide) ?_
            refine mt_callS (N := mX4_isIn) (Rc := rX4_isIn) (As := [.int pattern, .int (nI 0), .int (nI 7)]) (st := [.int (nI 1), .ref 27]) dX4_fill_28 (kX4_isIn hl) sX4_isIn mw_1086 rfl (Nat.le_of_ble_eq_true rfl) ⟨⟨Nat.le_of_ble_eq_true rfl, Nat.le_of_ble_eq_true rfl⟩, (by first | exact Nat.le_of_ble_eq_true rfl | (simp only [rX4_isRow, rX4_room, rX4_isIn, rX4_isLet, rX4_patterned, rX4_made, rX4_did, rX4_fill]; omega)), (by first | exact Nat.le_of_ble_eq_true rfl | (simp only [rX4_isRow, rX4_room, rX4_isIn, rX4_isLet, rX4_patterned, rX4_made, rX4_did, rX4_fill]; omega))⟩ (fun v64 h65 n66 c67 => ?_) (fun _ _ _ hx => hx.elim)
            obtain ⟨c67a, c67b, c67c⟩ := c67
            rw [show inR pattern (nI 0) (nI 7) = false from inR_f (k := 7) hq44 (by first | decide | omega)] at c67a
            rw [c67a, c67b, c67c]
            show mT _ _ _ _ 31 [.ref 27, .int (nI r3), .int (nI p20), .int pattern, .int a, .int b, .double 0, .double 0, .double 0] [.int (nI 0), .int (nI 1), .ref 27] _ _ _ _
            refine mt_if_eq dX4_fill_31 (tgt := 63) rfl (fun q68 => ?_) (fun q68 => ?_)
            · have q68 := (mI_eq0 (by omega)).mp q68
              refine mt_iconst dX4_fill_63 (v := nI 0) rfl ?_
              refine mt_callV (N := mX4_isLet) (Rc := rX4_isLet) (As := [.int (nI 1), .int (nI 0)]) (st := []) dX4_fill_64 (kX4_isLet (t := true) (f := false) hl C0) sX4_isLet mw_1092 mKX4 rfl C0 rfl (Nat.le_of_ble_eq_true rfl) ⟨⟨Nat.le_of_ble_eq_true rfl, Nat.le_of_ble_eq_true rfl⟩, (by first | exact Nat.le_of_ble_eq_true rfl | (simp only [rX4_isRow, rX4_room, rX4_isIn, rX4_isLet, rX4_patterned, rX4_made, rX4_did, rX4_fill]; omega)), (by first | exact Nat.le_of_ble_eq_true rfl | (simp only [rX4_isRow, rX4_room, rX4_isIn, rX4_isLet, rX4_patterned, rX4_made, rX4_did, rX4_fill]; omega))⟩ (fun v69 h70 n71 c72 => ?_) (fun _ _ _ hx => hx.elim)
              obtain ⟨c72a, c72b, c72c, c72d⟩ := c72
              rw [c72a, c72b]
              show mT _ _ _ _ 67 [.ref 27, .int (nI r3), .int (nI p20), .int pattern, .int a, .int b, .double 0, .double 0, .double 0] [.int (nI 0)] _ _ _ _
              refine mt_if_ne dX4_fill_67 (tgt := 72) rfl (fun q73 => ?_) (fun q73 => ?_)
              · have q73 := (not_congr (mI_eq0 (by omega))).mp q73
                exact absurd q73 (by decide)
              · have q73 := (mI_eq0 (by omega)).mp q73
                refine mt_iconst dX4_fill_70 (v := nI 0) rfl ?_
                refine mt_ireturn dX4_fill_71 rfl rfl (by first | exact Nat.le_of_ble_eq_true rfl | (simp only [rX4_isRow, rX4_room, rX4_isIn, rX4_isLet, rX4_patterned, rX4_made, rX4_did, rX4_fill]; omega)) (by first | exact Nat.le_of_ble_eq_true rfl | (simp only [rX4_isRow, rX4_room, rX4_isIn, rX4_isLet, rX4_patterned, rX4_made, rX4_did, rX4_fill]; omega)) ?_
                exact mOk.no (k := 2) (S' := S) (by simp only [mp_fill, dAt_s (k := 4) hr3 (by first | decide | omega), dArg_s (k := (rroom r3 + 1)) hp20 (by first | decide | omega), dArg_n (k := 8) (x := pattern) hq44, if_neg q54, if_neg q63, if_pos q68, if_pos q73]) (by decide) rfl (by omega) c72c (by omega) (mRows.fr (n' := n) HR (by omega) (fun j j1 j2 j3 => c72d (j) (by omega)) (by omega)) (fun j hj => c72d j (by omega))
            · have q68 := (not_congr (mI_eq0 (by omega))).mp q68
              exact absurd q68 (by decide)
      · obtain ⟨hp45, rfl⟩ := inN_of hq44 (by first | decide | omega)
        rcases hk74 : aOk a with _ | _
        · refine mt_aload_n dX4_fill_0 rfl rfl ?_
          refine mt_iload_n dX4_fill_1 rfl ?_
          refine mt_callS (N := mX4_isRow) (Rc := rX4_isRow) (As := [.int (nI r3)]) (st := [.ref 27]) dX4_fill_2 (kX4_isRow hl) sX4_isRow mw_1083 rfl (Nat.le_of_ble_eq_true rfl) ⟨⟨Nat.le_of_ble_eq_true rfl, Nat.le_of_ble_eq_true rfl⟩, (by first | exact Nat.le_of_ble_eq_true rfl | (simp only [rX4_isRow, rX4_room, rX4_isIn, rX4_isLet, rX4_patterned, rX4_made, rX4_did, rX4_fill]; omega)), (by first | exact Nat.le_of_ble_eq_true rfl | (simp only [rX4_isRow, rX4_room, rX4_isIn, rX4_isLet, rX4_patterned, rX4_made, rX4_did, rX4_fill]; omega))⟩ (fun v75 h76 n77 c78 => ?_) (fun _ _ _ hx => hx.elim)
          obtain ⟨c78a, c78b, c78c⟩ := c78
          rw [show (inN 4 (nI r3)).isSome = true from by rw [inN_some hr3 (by decide)]; rfl] at c78a
          rw [c78a, c78b, c78c]
          show mT _ _ _ _ 5 [.ref 27, .int (nI r3), .int (nI p20), .int (nI p45), .int a, .int b, .double 0, .double 0, .double 0] [.int (nI 1), .ref 27] _ _ _ _
          refine mt_iload_n dX4_fill_5 rfl ?_
          refine mt_callS (N := mX4_isRow) (Rc := rX4_isRow) (As := [.int (nI r3)]) (st := [.int (nI 1), .ref 27]) dX4_fill_6 (kX4_isRow hl) sX4_isRow mw_1083 rfl (Nat.le_of_ble_eq_true rfl) ⟨⟨Nat.le_of_ble_eq_true rfl, Nat.le_of_ble_eq_true rfl⟩, (by first | exact Nat.le_of_ble_eq_true rfl | (simp only [rX4_isRow, rX4_room, rX4_isIn, rX4_isLet, rX4_patterned, rX4_made, rX4_did, rX4_fill]; omega)), (by first | exact Nat.le_of_ble_eq_true rfl | (simp only [rX4_isRow, rX4_room, rX4_isIn, rX4_isLet, rX4_patterned, rX4_made, rX4_did, rX4_fill]; omega))⟩ (fun v79 h80 n81 c82 => ?_) (fun _ _ _ hx => hx.elim)
          obtain ⟨c82a, c82b, c82c⟩ := c82
          rw [show (inN 4 (nI r3)).isSome = true from by rw [inN_some hr3 (by decide)]; rfl] at c82a
          rw [c82a, c82b, c82c]
          show mT _ _ _ _ 9 [.ref 27, .int (nI r3), .int (nI p20), .int (nI p45), .int a, .int b, .double 0, .double 0, .double 0] [.int (nI 1), .int (nI 1), .ref 27] _ _ _ _
          refine mt_if_eq dX4_fill_9 (tgt := 63) rfl (fun q83 => ?_) (fun q83 => ?_)
          · have q83 := (mI_eq0 (by omega)).mp q83
            exact absurd q83 (by decide)
          · have q83 := (not_congr (mI_eq0 (by omega))).mp q83
            refine mt_iload_n dX4_fill_12 rfl ?_
            refine mt_iconst dX4_fill_13 (v := nI 0) rfl ?_
            refine mt_iload_n dX4_fill_14 rfl ?_
            refine mt_callS (N := mX4_room) (Rc := rX4_room) (As := [.int (nI r3)]) (st := [.int (nI 0), .int (nI p20), .int (nI 1), .ref 27]) dX4_fill_15 (kX4_room hl (by omega)) sX4_room mw_1089 rfl (Nat.le_of_ble_eq_true rfl) ⟨⟨Nat.le_of_ble_eq_true rfl, Nat.le_of_ble_eq_true rfl⟩, (by first | exact Nat.le_of_ble_eq_true rfl | (simp only [rX4_isRow, rX4_room, rX4_isIn, rX4_isLet, rX4_patterned, rX4_made, rX4_did, rX4_fill]; omega)), (by first | exact Nat.le_of_ble_eq_true rfl | (simp only [rX4_isRow, rX4_room, rX4_isIn, rX4_isLet, rX4_patterned, rX4_made, rX4_did, rX4_fill]; omega))⟩ (fun v84 h85 n86 c87 => ?_) (fun _ _ _ hx => hx.elim)
            obtain ⟨c87a, c87b, c87c⟩ := c87
            rw [c87a, c87b, c87c]
            show mT _ _ _ _ 18 [.ref 27, .int (nI r3), .int (nI p20), .int (nI p45), .int a, .int b, .double 0, .double 0, .double 0] [.int (nI (rroom r3)), .int (nI 0), .int (nI p20), .int (nI 1), .ref 27] _ _ _ _
            refine mt_callS (N := mX4_isIn) (Rc := rX4_isIn) (As := [.int (nI p20), .int (nI 0), .int (nI (rroom r3))]) (st := [.int (nI 1), .ref 27]) dX4_fill_18 (kX4_isIn hl) sX4_isIn mw_1086 rfl (Nat.le_of_ble_eq_true rfl) ⟨⟨Nat.le_of_ble_eq_true rfl, Nat.le_of_ble_eq_true rfl⟩, (by first | exact Nat.le_of_ble_eq_true rfl | (simp only [rX4_isRow, rX4_room, rX4_isIn, rX4_isLet, rX4_patterned, rX4_made, rX4_did, rX4_fill]; omega)), (by first | exact Nat.le_of_ble_eq_true rfl | (simp only [rX4_isRow, rX4_room, rX4_isIn, rX4_isLet, rX4_patterned, rX4_made, rX4_did, rX4_fill]; omega))⟩ (fun v88 h89 n90 c91 => ?_) (fun _ _ _ hx => hx.elim)
            obtain ⟨c91a, c91b, c91c⟩ := c91
            rw [show inR (nI p20) (nI 0) (nI (rroom r3)) = true from inR_t (k := rroom r3) hp20 (by first | decide | omega)] at c91a
            rw [c91a, c91b, c91c]
            show mT _ _ _ _ 21 [.ref 27, .int (nI r3), .int (nI p20), .int (nI p45), .int a, .int b, .double 0, .double 0, .double 0] [.int (nI 1), .int (nI 1), .ref 27] _ _ _ _
            refine mt_if_eq dX4_fill_21 (tgt := 63) rfl (fun q92 => ?_) (fun q92 => ?_)
            · have q92 := (mI_eq0 (by omega)).mp q92
              exact absurd q92 (by decide)
            · have q92 := (not_congr (mI_eq0 (by omega))).mp q92
              refine mt_iload_n dX4_fill_24 rfl ?_
              refine mt_iconst dX4_fill_25 (v := nI 0) rfl ?_
              refine mt_bipush dX4_fill_26 (v := nI 7) (by decide) ?_
              refine mt_callS (N := mX4_isIn) (Rc := rX4_isIn) (As := [.int (nI p45), .int (nI 0), .int (nI 7)]) (st := [.int (nI 1), .ref 27]) dX4_fill_28 (kX4_isIn hl) sX4_isIn mw_1086 rfl (Nat.le_of_ble_eq_true rfl) ⟨⟨Nat.le_of_ble_eq_true rfl, Nat.le_of_ble_eq_true rfl⟩, (by first | exact Nat.le_of_ble_eq_true rfl | (simp only [rX4_isRow, rX4_room, rX4_isIn, rX4_isLet, rX4_patterned, rX4_made, rX4_did, rX4_fill]; omega)), (by first | exact Nat.le_of_ble_eq_true rfl | (simp only [rX4_isRow, rX4_room, rX4_isIn, rX4_isLet, rX4_patterned, rX4_made, rX4_did, rX4_fill]; omega))⟩ (fun v93 h94 n95 c96 => ?_) (fun _ _ _ hx => hx.elim)
              obtain ⟨c96a, c96b, c96c⟩ := c96
              rw [show inR (nI p45) (nI 0) (nI 7) = true from inR_t (k := 7) hp45 (by first | decide | omega)] at c96a
              rw [c96a, c96b, c96c]
              show mT _ _ _ _ 31 [.ref 27, .int (nI r3), .int (nI p20), .int (nI p45), .int a, .int b, .double 0, .double 0, .double 0] [.int (nI 1), .int (nI 1), .ref 27] _ _ _ _
              refine mt_if_eq dX4_fill_31 (tgt := 63) rfl (fun q97 => ?_) (fun q97 => ?_)
              · have q97 := (mI_eq0 (by omega)).mp q97
                exact absurd q97 (by decide)
              · have q97 := (not_congr (mI_eq0 (by omega))).mp q97
                refine mt_iload dX4_fill_34 rfl ?_
                refine mt_sipush dX4_fill_36 (v := -999) (by decide) ?_
                refine mt_sipush dX4_fill_39 (v := nI 999) (by decide) ?_
                refine mt_callS (N := mX4_isIn) (Rc := rX4_isIn) (As := [.int a, .int (-999), .int (nI 999)]) (st := [.int (nI 1), .ref 27]) dX4_fill_42 (kX4_isIn hl) sX4_isIn mw_1086 rfl (Nat.le_of_ble_eq_true rfl) ⟨⟨Nat.le_of_ble_eq_true rfl, Nat.le_of_ble_eq_true rfl⟩, (by first | exact Nat.le_of_ble_eq_true rfl | (simp only [rX4_isRow, rX4_room, rX4_isIn, rX4_isLet, rX4_patterned, rX4_made, rX4_did, rX4_fill]; omega)), (by first | exact Nat.le_of_ble_eq_true rfl | (simp only [rX4_isRow, rX4_room, rX4_isIn, rX4_isLet, rX4_patterned, rX4_made, rX4_did, rX4_fill]; omega))⟩ (fun v98 h99 n100 c101 => ?_) (fun _ _ _ hx => hx.elim)
                obtain ⟨c101a, c101b, c101c⟩ := c101
                rw [show inR a (-999) (nI 999) = false from hk74] at c101a
                rw [c101a, c101b, c101c]
                show mT _ _ _ _ 45 [.ref 27, .int (nI r3), .int (nI p20), .int (nI p45), .int a, .int b, .double 0, .double 0, .double 0] [.int (nI 0), .int (nI 1), .ref 27] _ _ _ _
                refine mt_if_eq dX4_fill_45 (tgt := 63) rfl (fun q102 => ?_) (fun q102 => ?_)
                · have q102 := (mI_eq0 (by omega)).mp q102
                  refine mt_iconst dX4_fill_63 (v := nI 0) rfl ?_
                  refine mt_callV (N := mX4_isLet) (Rc := rX4_isLet) (As := [.int (nI 1), .int (nI 0)]) (st := []) dX4_fill_64 (kX4_isLet (t := true) (f := false) hl C0) sX4_isLet mw_1092 mKX4 rfl C0 rfl (Nat.le_of_ble_eq_true rfl) ⟨⟨Nat.le_of_ble_eq_true rfl, Nat.le_of_ble_eq_true rfl⟩, (by first | exact Nat.le_of_ble_eq_true rfl | (simp only [rX4_isRow, rX4_room, rX4_isIn, rX4_isLet, rX4_patterned, rX4_made, rX4_did, rX4_fill]; omega)), (by first | exact Nat.le_of_ble_eq_true rfl | (simp only [rX4_isRow, rX4_room, rX4_isIn, rX4_isLet, rX4_patterned, rX4_made, rX4_did, rX4_fill]; omega))⟩ (fun v103 h104 n105 c106 => ?_) (fun _ _ _ hx => hx.elim)
                  obtain ⟨c106a, c106b, c106c, c106d⟩ := c106
                  rw [c106a, c106b]
                  show mT _ _ _ _ 67 [.ref 27, .int (nI r3), .int (nI p20), .int (nI p45), .int a, .int b, .double 0, .double 0, .double 0] [.int (nI 0)] _ _ _ _
                  refine mt_if_ne dX4_fill_67 (tgt := 72) rfl (fun q107 => ?_) (fun q107 => ?_)
                  · have q107 := (not_congr (mI_eq0 (by omega))).mp q107
                    exact absurd q107 (by decide)
                  · have q107 := (mI_eq0 (by omega)).mp q107
                    refine mt_iconst dX4_fill_70 (v := nI 0) rfl ?_
                    refine mt_ireturn dX4_fill_71 rfl rfl (by first | exact Nat.le_of_ble_eq_true rfl | (simp only [rX4_isRow, rX4_room, rX4_isIn, rX4_isLet, rX4_patterned, rX4_made, rX4_did, rX4_fill]; omega)) (by first | exact Nat.le_of_ble_eq_true rfl | (simp only [rX4_isRow, rX4_room, rX4_isIn, rX4_isLet, rX4_patterned, rX4_made, rX4_did, rX4_fill]; omega)) ?_
                    exact mOk.no (k := 2) (S' := S) (by simp only [mp_fill, dAt_s (k := 4) hr3 (by first | decide | omega), dArg_s (k := (rroom r3 + 1)) hp20 (by first | decide | omega), dArg_s (k := 8) hp45 (by first | decide | omega), dFit_n hk74, if_neg q83, if_neg q92, if_neg q97, if_pos q102, if_pos q107]) (by decide) rfl (by omega) c106c (by omega) (mRows.fr (n' := n) HR (by omega) (fun j j1 j2 j3 => c106d (j) (by omega)) (by omega)) (fun j hj => c106d j (by omega))
                · have q102 := (not_congr (mI_eq0 (by omega))).mp q102
                  exact absurd q102 (by decide)
        · by_cases hb108 : b < 1 ∨ nI 99 < b
          · refine mt_aload_n dX4_fill_0 rfl rfl ?_
            refine mt_iload_n dX4_fill_1 rfl ?_
            refine mt_callS (N := mX4_isRow) (Rc := rX4_isRow) (As := [.int (nI r3)]) (st := [.ref 27]) dX4_fill_2 (kX4_isRow hl) sX4_isRow mw_1083 rfl (Nat.le_of_ble_eq_true rfl) ⟨⟨Nat.le_of_ble_eq_true rfl, Nat.le_of_ble_eq_true rfl⟩, (by first | exact Nat.le_of_ble_eq_true rfl | (simp only [rX4_isRow, rX4_room, rX4_isIn, rX4_isLet, rX4_patterned, rX4_made, rX4_did, rX4_fill]; omega)), (by first | exact Nat.le_of_ble_eq_true rfl | (simp only [rX4_isRow, rX4_room, rX4_isIn, rX4_isLet, rX4_patterned, rX4_made, rX4_did, rX4_fill]; omega))⟩ (fun v109 h110 n111 c112 => ?_) (fun _ _ _ hx => hx.elim)
            obtain ⟨c112a, c112b, c112c⟩ := c112
            rw [show (inN 4 (nI r3)).isSome = true from by rw [inN_some hr3 (by decide)]; rfl] at c112a
            rw [c112a, c112b, c112c]
            show mT _ _ _ _ 5 [.ref 27, .int (nI r3), .int (nI p20), .int (nI p45), .int a, .int b, .double 0, .double 0, .double 0] [.int (nI 1), .ref 27] _ _ _ _
            refine mt_iload_n dX4_fill_5 rfl ?_
            refine mt_callS (N := mX4_isRow) (Rc := rX4_isRow) (As := [.int (nI r3)]) (st := [.int (nI 1), .ref 27]) dX4_fill_6 (kX4_isRow hl) sX4_isRow mw_1083 rfl (Nat.le_of_ble_eq_true rfl) ⟨⟨Nat.le_of_ble_eq_true rfl, Nat.le_of_ble_eq_true rfl⟩, (by first | exact Nat.le_of_ble_eq_true rfl | (simp only [rX4_isRow, rX4_room, rX4_isIn, rX4_isLet, rX4_patterned, rX4_made, rX4_did, rX4_fill]; omega)), (by first | exact Nat.le_of_ble_eq_true rfl | (simp only [rX4_isRow, rX4_room, rX4_isIn, rX4_isLet, rX4_patterned, rX4_made, rX4_did, rX4_fill]; omega))⟩ (fun v113 h114 n115 c116 => ?_) (fun _ _ _ hx => hx.elim)
            obtain ⟨c116a, c116b, c116c⟩ := c116
            rw [show (inN 4 (nI r3)).isSome = true from by rw [inN_some hr3 (by decide)]; rfl] at c116a
            rw [c116a, c116b, c116c]
            show mT _ _ _ _ 9 [.ref 27, .int (nI r3), .int (nI p20), .int (nI p45), .int a, .int b, .double 0, .double 0, .double 0] [.int (nI 1), .int (nI 1), .ref 27] _ _ _ _
            refine mt_if_eq dX4_fill_9 (tgt := 63) rfl (fun q117 => ?_) (fun q117 => ?_)
            · have q117 := (mI_eq0 (by omega)).mp q117
              exact absurd q117 (by decide)
            · have q117 := (not_congr (mI_eq0 (by omega))).mp q117
              refine mt_iload_n dX4_fill_12 rfl ?_
              refine mt_iconst dX4_fill_13 (v := nI 0) rfl ?_
              refine mt_iload_n dX4_fill_14 rfl ?_
              refine mt_callS (N := mX4_room) (Rc := rX4_room) (As := [.int (nI r3)]) (st := [.int (nI 0), .int (nI p20), .int (nI 1), .ref 27]) dX4_fill_15 (kX4_room hl (by omega)) sX4_room mw_1089 rfl (Nat.le_of_ble_eq_true rfl) ⟨⟨Nat.le_of_ble_eq_true rfl, Nat.le_of_ble_eq_true rfl⟩, (by first | exact Nat.le_of_ble_eq_true rfl | (simp only [rX4_isRow, rX4_room, rX4_isIn, rX4_isLet, rX4_patterned, rX4_made, rX4_did, rX4_fill]; omega)), (by first | exact Nat.le_of_ble_eq_true rfl | (simp only [rX4_isRow, rX4_room, rX4_isIn, rX4_isLet, rX4_patterned, rX4_made, rX4_did, rX4_fill]; omega))⟩ (fun v118 h119 n120 c121 => ?_) (fun _ _ _ hx => hx.elim)
              obtain ⟨c121a, c121b, c121c⟩ := c121
              rw [c121a, c121b, c121c]
              show mT _ _ _ _ 18 [.ref 27, .int (nI r3), .int (nI p20), .int (nI p45), .int a, .int b, .double 0, .double 0, .double 0] [.int (nI (rroom r3)), .int (nI 0), .int (nI p20), .int (nI 1), .ref 27] _ _ _ _
              refine mt_callS (N := mX4_isIn) (Rc := rX4_isIn) (As := [.int (nI p20), .int (nI 0), .int (nI (rroom r3))]) (st := [.int (nI 1), .ref 27]) dX4_fill_18 (kX4_isIn hl) sX4_isIn mw_1086 rfl (Nat.le_of_ble_eq_true rfl) ⟨⟨Nat.le_of_ble_eq_true rfl, Nat.le_of_ble_eq_true rfl⟩, (by first | exact Nat.le_of_ble_eq_true rfl | (simp only [rX4_isRow, rX4_room, rX4_isIn, rX4_isLet, rX4_patterned, rX4_made, rX4_did, rX4_fill]; omega)), (by first | exact Nat.le_of_ble_eq_true rfl | (simp only [rX4_isRow, rX4_room, rX4_isIn, rX4_isLet, rX4_patterned, rX4_made, rX4_did, rX4_fill]; omega))⟩ (fun v122 h123 n124 c125 => ?_) (fun _ _ _ hx => hx.elim)
              obtain ⟨c125a, c125b, c125c⟩ := c125
              rw [show inR (nI p20) (nI 0) (nI (rroom r3)) = true from inR_t (k := rroom r3) hp20 (by first | decide | omega)] at c125a
              rw [c125a, c125b, c125c]
              show mT _ _ _ _ 21 [.ref 27, .int (nI r3), .int (nI p20), .int (nI p45), .int a, .int b, .double 0, .double 0, .double 0] [.int (nI 1), .int (nI 1), .ref 27] _ _ _ _
              refine mt_if_eq dX4_fill_21 (tgt := 63) rfl (fun q126 => ?_) (fun q126 => ?_)
              · have q126 := (mI_eq0 (by omega)).mp q126
                exact absurd q126 (by decide)
              · have q126 := (not_congr (mI_eq0 (by omega))).mp q126
                refine mt_iload_n dX4_fill_24 rfl ?_
                refine mt_iconst dX4_fill_25 (v := nI 0) rfl ?_
                refine mt_bipush dX4_fill_26 (v := nI 7) (by decide) ?_
                refine mt_callS (N := mX4_isIn) (Rc := rX4_isIn) (As := [.int (nI p45), .int (nI 0), .int (nI 7)]) (st := [.int (nI 1), .ref 27]) dX4_fill_28 (kX4_isIn hl) sX4_isIn mw_1086 rfl (Nat.le_of_ble_eq_true rfl) ⟨⟨Nat.le_of_ble_eq_true rfl, Nat.le_of_ble_eq_true rfl⟩, (by first | exact Nat.le_of_ble_eq_true rfl | (simp only [rX4_isRow, rX4_room, rX4_isIn, rX4_isLet, rX4_patterned, rX4_made, rX4_did, rX4_fill]; omega)), (by first | exact Nat.le_of_ble_eq_true rfl | (simp only [rX4_isRow, rX4_room, rX4_isIn, rX4_isLet, rX4_patterned, rX4_made, rX4_did, rX4_fill]; omega))⟩ (fun v127 h128 n129 c130 => ?_) (fun _ _ _ hx => hx.elim)
                obtain ⟨c130a, c130b, c130c⟩ := c130
                rw [show inR (nI p45) (nI 0) (nI 7) = true from inR_t (k := 7) hp45 (by first | decide | omega)] at c130a
                rw [c130a, c130b, c130c]
                show mT _ _ _ _ 31 [.ref 27, .int (nI r3), .int (nI p20), .int (nI p45), .int a, .int b, .double 0, .double 0, .double 0] [.int (nI 1), .int (nI 1), .ref 27] _ _ _ _
                refine mt_if_eq dX4_fill_31 (tgt := 63) rfl (fun q131 => ?_) (fun q131 => ?_)
                · have q131 := (mI_eq0 (by omega)).mp q131
                  exact absurd q131 (by decide)
                · have q131 := (not_congr (mI_eq0 (by omega))).mp q131
                  refine mt_iload dX4_fill_34 rfl ?_
                  refine mt_sipush dX4_fill_36 (v := -999) (by decide) ?_
                  refine mt_sipush dX4_fill_39 (v := nI 999) (by decide) ?_
                  refine mt_callS (N := mX4_isIn) (Rc := rX4_isIn) (As := [.int a, .int (-999), .int (nI 999)]) (st := [.int (nI 1), .ref 27]) dX4_fill_42 (kX4_isIn hl) sX4_isIn mw_1086 rfl (Nat.le_of_ble_eq_true rfl) ⟨⟨Nat.le_of_ble_eq_true rfl, Nat.le_of_ble_eq_true rfl⟩, (by first | exact Nat.le_of_ble_eq_true rfl | (simp only [rX4_isRow, rX4_room, rX4_isIn, rX4_isLet, rX4_patterned, rX4_made, rX4_did, rX4_fill]; omega)), (by first | exact Nat.le_of_ble_eq_true rfl | (simp only [rX4_isRow, rX4_room, rX4_isIn, rX4_isLet, rX4_patterned, rX4_made, rX4_did, rX4_fill]; omega))⟩ (fun v132 h133 n134 c135 => ?_) (fun _ _ _ hx => hx.elim)
                  obtain ⟨c135a, c135b, c135c⟩ := c135
                  rw [show inR a (-999) (nI 999) = true from hk74] at c135a
                  rw [c135a, c135b, c135c]
                  show mT _ _ _ _ 45 [.ref 27, .int (nI r3), .int (nI p20), .int (nI p45), .int a, .int b, .double 0, .double 0, .double 0] [.int (nI 1), .int (nI 1), .ref 27] _ _ _ _
                  refine mt_if_eq dX4_fill_45 (tgt := 63) rfl (fun q136 => ?_) (fun q136 => ?_)
                  · have q136 := (mI_eq0 (by omega)).mp q136
                    exact absurd q136 (by decide)
                  · have q136 := (not_congr (mI_eq0 (by omega))).mp q136
                    refine mt_iload dX4_fill_48 rfl ?_
                    refine mt_iconst dX4_fill_50 (v := nI 1) rfl ?_
                    refine mt_bipush dX4_fill_51 (v := nI 99) (by decide) ?_
                    refine mt_callS (N := mX4_isIn) (Rc := rX4_isIn) (As := [.int b, .int (nI 1), .int (nI 99)]) (st := [.int (nI 1), .ref 27]) dX4_fill_53 (kX4_isIn hl) sX4_isIn mw_1086 rfl (Nat.le_of_ble_eq_true rfl) ⟨⟨Nat.le_of_ble_eq_true rfl, Nat.le_of_ble_eq_true rfl⟩, (by first | exact Nat.le_of_ble_eq_true rfl | (simp only [rX4_isRow, rX4_room, rX4_isIn, rX4_isLet, rX4_patterned, rX4_made, rX4_did, rX4_fill]; omega)), (by first | exact Nat.le_of_ble_eq_true rfl | (simp only [rX4_isRow, rX4_room, rX4_isIn, rX4_isLet, rX4_patterned, rX4_made, rX4_did, rX4_fill]; omega))⟩ (fun v137 h138 n139 c140 => ?_) (fun _ _ _ hx => hx.elim)
                    obtain ⟨c140a, c140b, c140c⟩ := c140
                    rw [show inR b (nI 1) (nI 99) = false from inR1_f hb108] at c140a
                    rw [c140a, c140b, c140c]
                    show mT _ _ _ _ 56 [.ref 27, .int (nI r3), .int (nI p20), .int (nI p45), .int a, .int b, .double 0, .double 0, .double 0] [.int (nI 0), .int (nI 1), .ref 27] _ _ _ _
                    refine mt_if_eq dX4_fill_56 (tgt := 63) rfl (fun q141 => ?_) (fun q141 => ?_)
                    · have q141 := (mI_eq0 (by omega)).mp q141
                      refine mt_iconst dX4_fill_63 (v := nI 0) rfl ?_
                      refine mt_callV (N := mX4_isLet) (Rc := rX4_isLet) (As := [.int (nI 1), .int (nI 0)]) (st := []) dX4_fill_64 (kX4_isLet (t := true) (f := false) hl C0) sX4_isLet mw_1092 mKX4 rfl C0 rfl (Nat.le_of_ble_eq_true rfl) ⟨⟨Nat.le_of_ble_eq_true rfl, Nat.le_of_ble_eq_true rfl⟩, (by first | exact Nat.le_of_ble_eq_true rfl | (simp only [rX4_isRow, rX4_room, rX4_isIn, rX4_isLet, rX4_patterned, rX4_made, rX4_did, rX4_fill]; omega)), (by first | exact Nat.le_of_ble_eq_true rfl | (simp only [rX4_isRow, rX4_room, rX4_isIn, rX4_isLet, rX4_patterned, rX4_made, rX4_did, rX4_fill]; omega))⟩ (fun v142 h143 n144 c145 => ?_) (fun _ _ _ hx => hx.elim)
                      obtain ⟨c145a, c145b, c145c, c145d⟩ := c145
                      rw [c145a, c145b]
                      show mT _ _ _ _ 67 [.ref 27, .int (nI r3), .int (nI p20), .int (nI p45), .int a, .int b, .double 0, .double 0, .double 0] [.int (nI 0)] _ _ _ _
                      refine mt_if_ne dX4_fill_67 (tgt := 72) rfl (fun q146 => ?_) (fun q146 => ?_)
                      · have q146 := (not_congr (mI_eq0 (by omega))).mp q146
                        exact absurd q146 (by decide)
                      · have q146 := (mI_eq0 (by omega)).mp q146
                        refine mt_iconst dX4_fill_70 (v := nI 0) rfl ?_
                        refine mt_ireturn dX4_fill_71 rfl rfl (by first | exact Nat.le_of_ble_eq_true rfl | (simp only [rX4_isRow, rX4_room, rX4_isIn, rX4_isLet, rX4_patterned, rX4_made, rX4_did, rX4_fill]; omega)) (by first | exact Nat.le_of_ble_eq_true rfl | (simp only [rX4_isRow, rX4_room, rX4_isIn, rX4_isLet, rX4_patterned, rX4_made, rX4_did, rX4_fill]; omega)) ?_
                        exact mOk.no (k := 2) (S' := S) (by simp only [mp_fill, dAt_s (k := 4) hr3 (by first | decide | omega), dArg_s (k := (rroom r3 + 1)) hp20 (by first | decide | omega), dArg_s (k := 8) hp45 (by first | decide | omega), dFit_s hk74, dB_n hb108, if_neg q117, if_neg q126, if_neg q131, if_neg q136, if_pos q141, if_pos q146]) (by decide) rfl (by omega) c145c (by omega) (mRows.fr (n' := n) HR (by omega) (fun j j1 j2 j3 => c145d (j) (by omega)) (by omega)) (fun j hj => c145d j (by omega))
                    · have q141 := (not_congr (mI_eq0 (by omega))).mp q141
                      exact absurd q141 (by decide)
          · obtain ⟨bn, hbn, hb0, rfl⟩ := dB_in (fun z => hb108 (Or.inl z)) (fun z => hb108 (Or.inr z))
            refine mt_aload_n dX4_fill_0 rfl rfl ?_
            refine mt_iload_n dX4_fill_1 rfl ?_
            refine mt_callS (N := mX4_isRow) (Rc := rX4_isRow) (As := [.int (nI r3)]) (st := [.ref 27]) dX4_fill_2 (kX4_isRow hl) sX4_isRow mw_1083 rfl (Nat.le_of_ble_eq_true rfl) ⟨⟨Nat.le_of_ble_eq_true rfl, Nat.le_of_ble_eq_true rfl⟩, (by first | exact Nat.le_of_ble_eq_true rfl | (simp only [rX4_isRow, rX4_room, rX4_isIn, rX4_isLet, rX4_patterned, rX4_made, rX4_did, rX4_fill]; omega)), (by first | exact Nat.le_of_ble_eq_true rfl | (simp only [rX4_isRow, rX4_room, rX4_isIn, rX4_isLet, rX4_patterned, rX4_made, rX4_did, rX4_fill]; omega))⟩ (fun v147 h148 n149 c150 => ?_) (fun _ _ _ hx => hx.elim)
            obtain ⟨c150a, c150b, c150c⟩ := c150
            rw [show (inN 4 (nI r3)).isSome = true from by rw [inN_some hr3 (by decide)]; rfl] at c150a
            rw [c150a, c150b, c150c]
            show mT _ _ _ _ 5 [.ref 27, .int (nI r3), .int (nI p20), .int (nI p45), .int a, .int (nI bn), .double 0, .double 0, .double 0] [.int (nI 1), .ref 27] _ _ _ _
            refine mt_iload_n dX4_fill_5 rfl ?_
            refine mt_callS (N := mX4_isRow) (Rc := rX4_isRow) (As := [.int (nI r3)]) (st := [.int (nI 1), .ref 27]) dX4_fill_6 (kX4_isRow hl) sX4_isRow mw_1083 rfl (Nat.le_of_ble_eq_true rfl) ⟨⟨Nat.le_of_ble_eq_true rfl, Nat.le_of_ble_eq_true rfl⟩, (by first | exact Nat.le_of_ble_eq_true rfl | (simp only [rX4_isRow, rX4_room, rX4_isIn, rX4_isLet, rX4_patterned, rX4_made, rX4_did, rX4_fill]; omega)), (by first | exact Nat.le_of_ble_eq_true rfl | (simp only [rX4_isRow, rX4_room, rX4_isIn, rX4_isLet, rX4_patterned, rX4_made, rX4_did, rX4_fill]; omega))⟩ (fun v151 h152 n153 c154 => ?_) (fun _ _ _ hx => hx.elim)
            obtain ⟨c154a, c154b, c154c⟩ := c154
            rw [show (inN 4 (nI r3)).isSome = true from by rw [inN_some hr3 (by decide)]; rfl] at c154a
            rw [c154a, c154b, c154c]
            show mT _ _ _ _ 9 [.ref 27, .int (nI r3), .int (nI p20), .int (nI p45), .int a, .int (nI bn), .double 0, .double 0, .double 0] [.int (nI 1), .int (nI 1), .ref 27] _ _ _ _
            refine mt_if_eq dX4_fill_9 (tgt := 63) rfl (fun q155 => ?_) (fun q155 => ?_)
            · have q155 := (mI_eq0 (by omega)).mp q155
              exact absurd q155 (by decide)
            · have q155 := (not_congr (mI_eq0 (by omega))).mp q155
              refine mt_iload_n dX4_fill_12 rfl ?_
              refine mt_iconst dX4_fill_13 (v := nI 0) rfl ?_
              refine mt_iload_n dX4_fill_14 rfl ?_
              refine mt_callS (N := mX4_room) (Rc := rX4_room) (As := [.int (nI r3)]) (st := [.int (nI 0), .int (nI p20), .int (nI 1), .ref 27]) dX4_fill_15 (kX4_room hl (by omega)) sX4_room mw_1089 rfl (Nat.le_of_ble_eq_true rfl) ⟨⟨Nat.le_of_ble_eq_true rfl, Nat.le_of_ble_eq_true rfl⟩, (by first | exact Nat.le_of_ble_eq_true rfl | (simp only [rX4_isRow, rX4_room, rX4_isIn, rX4_isLet, rX4_patterned, rX4_made, rX4_did, rX4_fill]; omega)), (by first | exact Nat.le_of_ble_eq_true rfl | (simp only [rX4_isRow, rX4_room, rX4_isIn, rX4_isLet, rX4_patterned, rX4_made, rX4_did, rX4_fill]; omega))⟩ (fun v156 h157 n158 c159 => ?_) (fun _ _ _ hx => hx.elim)
              obtain ⟨c159a, c159b, c159c⟩ := c159
              rw [c159a, c159b, c159c]
              show mT _ _ _ _ 18 [.ref 27, .int (nI r3), .int (nI p20), .int (nI p45), .int a, .int (nI bn), .double 0, .double 0, .double 0] [.int (nI (rroom r3)), .int (nI 0), .int (nI p20), .int (nI 1), .ref 27] _ _ _ _
              refine mt_callS (N := mX4_isIn) (Rc := rX4_isIn) (As := [.int (nI p20), .int (nI 0), .int (nI (rroom r3))]) (st := [.int (nI 1), .ref 27]) dX4_fill_18 (kX4_isIn hl) sX4_isIn mw_1086 rfl (Nat.le_of_ble_eq_true rfl) ⟨⟨Nat.le_of_ble_eq_true rfl, Nat.le_of_ble_eq_true rfl⟩, (by first | exact Nat.le_of_ble_eq_true rfl | (simp only [rX4_isRow, rX4_room, rX4_isIn, rX4_isLet, rX4_patterned, rX4_made, rX4_did, rX4_fill]; omega)), (by first | exact Nat.le_of_ble_eq_true rfl | (simp only [rX4_isRow, rX4_room, rX4_isIn, rX4_isLet, rX4_patterned, rX4_made, rX4_did, rX4_fill]; omega))⟩ (fun v160 h161 n162 c163 => ?_) (fun _ _ _ hx => hx.elim)
              obtain ⟨c163a, c163b, c163c⟩ := c163
              rw [show inR (nI p20) (nI 0) (nI (rroom r3)) = true from inR_t (k := rroom r3) hp20 (by first | decide | omega)] at c163a
              rw [c163a, c163b, c163c]
              show mT _ _ _ _ 21 [.ref 27, .int (nI r3), .int (nI p20), .int (nI p45), .int a, .int (nI bn), .double 0, .double 0, .double 0] [.int (nI 1), .int (nI 1), .ref 27] _ _ _ _
              refine mt_if_eq dX4_fill_21 (tgt := 63) rfl (fun q164 => ?_) (fun q164 => ?_)
              · have q164 := (mI_eq0 (by omega)).mp q164
                exact absurd q164 (by decide)
              · have q164 := (not_congr (mI_eq0 (by omega))).mp q164
                refine mt_iload_n dX4_fill_24 rfl ?_
                refine mt_iconst dX4_fill_25 (v := nI 0) rfl ?_
                refine mt_bipush dX4_fill_26 (v := nI 7) (by decide) ?_
                refine mt_callS (N := mX4_isIn) (Rc := rX4_isIn) (As := [.int (nI p45), .int (nI 0), .int (nI 7)]) (st := [.int (nI 1), .ref 27]) dX4_fill_28 (kX4_isIn hl) sX4_isIn mw_1086 rfl (Nat.le_of_ble_eq_true rfl) ⟨⟨Nat.le_of_ble_eq_true rfl, Nat.le_of_ble_eq_true rfl⟩, (by first | exact Nat.le_of_ble_eq_true rfl | (simp only [rX4_isRow, rX4_room, rX4_isIn, rX4_isLet, rX4_patterned, rX4_made, rX4_did, rX4_fill]; omega)), (by first | exact Nat.le_of_ble_eq_true rfl | (simp only [rX4_isRow, rX4_room, rX4_isIn, rX4_isLet, rX4_patterned, rX4_made, rX4_did, rX4_fill]; omega))⟩ (fun v165 h166 n167 c168 => ?_) (fun _ _ _ hx => hx.elim)
                obtain ⟨c168a, c168b, c168c⟩ := c168
                rw [show inR (nI p45) (nI 0) (nI 7) = true from inR_t (k := 7) hp45 (by first | decide | omega)] at c168a
                rw [c168a, c168b, c168c]
                show mT _ _ _ _ 31 [.ref 27, .int (nI r3), .int (nI p20), .int (nI p45), .int a, .int (nI bn), .double 0, .double 0, .double 0] [.int (nI 1), .int (nI 1), .ref 27] _ _ _ _
                refine mt_if_eq dX4_fill_31 (tgt := 63) rfl (fun q169 => ?_) (fun q169 => ?_)
                · have q169 := (mI_eq0 (by omega)).mp q169
                  exact absurd q169 (by decide)
                · have q169 := (not_congr (mI_eq0 (by omega))).mp q169
                  refine mt_iload dX4_fill_34 rfl ?_
                  refine mt_sipush dX4_fill_36 (v := -999) (by decide) ?_
                  refine mt_sipush dX4_fill_39 (v := nI 999) (by decide) ?_
                  refine mt_callS (N := mX4_isIn) (Rc := rX4_isIn) (As := [.int a, .int (-999), .int (nI 999)]) (st := [.int (nI 1), .ref 27]) dX4_fill_42 (kX4_isIn hl) sX4_isIn mw_1086 rfl (Nat.le_of_ble_eq_true rfl) ⟨⟨Nat.le_of_ble_eq_true rfl, Nat.le_of_ble_eq_true rfl⟩, (by first | exact Nat.le_of_ble_eq_true rfl | (simp only [rX4_isRow, rX4_room, rX4_isIn, rX4_isLet, rX4_patterned, rX4_made, rX4_did, rX4_fill]; omega)), (by first | exact Nat.le_of_ble_eq_true rfl | (simp only [rX4_isRow, rX4_room, rX4_isIn, rX4_isLet, rX4_patterned, rX4_made, rX4_did, rX4_fill]; omega))⟩ (fun v170 h171 n172 c173 => ?_) (fun _ _ _ hx => hx.elim)
                  obtain ⟨c173a, c173b, c173c⟩ := c173
                  rw [show inR a (-999) (nI 999) = true from hk74] at c173a
                  rw [c173a, c173b, c173c]
                  show mT _ _ _ _ 45 [.ref 27, .int (nI r3), .int (nI p20), .int (nI p45), .int a, .int (nI bn), .double 0, .double 0, .double 0] [.int (nI 1), .int (nI 1), .ref 27] _ _ _ _
                  refine mt_if_eq dX4_fill_45 (tgt := 63) rfl (fun q174 => ?_) (fun q174 => ?_)
                  · have q174 := (mI_eq0 (by omega)).mp q174
                    exact absurd q174 (by decide)
                  · have q174 := (not_congr (mI_eq0 (by omega))).mp q174
                    refine mt_iload dX4_fill_48 rfl ?_
                    refine mt_iconst dX4_fill_50 (v := nI 1) rfl ?_
                    refine mt_bipush dX4_fill_51 (v := nI 99) (by decide) ?_
                    refine mt_callS (N := mX4_isIn) (Rc := rX4_isIn) (As := [.int (nI bn), .int (nI 1), .int (nI 99)]) (st := [.int (nI 1), .ref 27]) dX4_fill_53 (kX4_isIn hl) sX4_isIn mw_1086 rfl (Nat.le_of_ble_eq_true rfl) ⟨⟨Nat.le_of_ble_eq_true rfl, Nat.le_of_ble_eq_true rfl⟩, (by first | exact Nat.le_of_ble_eq_true rfl | (simp only [rX4_isRow, rX4_room, rX4_isIn, rX4_isLet, rX4_patterned, rX4_made, rX4_did, rX4_fill]; omega)), (by first | exact Nat.le_of_ble_eq_true rfl | (simp only [rX4_isRow, rX4_room, rX4_isIn, rX4_isLet, rX4_patterned, rX4_made, rX4_did, rX4_fill]; omega))⟩ (fun v175 h176 n177 c178 => ?_) (fun _ _ _ hx => hx.elim)
                    obtain ⟨c178a, c178b, c178c⟩ := c178
                    rw [show inR (nI bn) (nI 1) (nI 99) = true from inR1_t hbn hb0] at c178a
                    rw [c178a, c178b, c178c]
                    show mT _ _ _ _ 56 [.ref 27, .int (nI r3), .int (nI p20), .int (nI p45), .int a, .int (nI bn), .double 0, .double 0, .double 0] [.int (nI 1), .int (nI 1), .ref 27] _ _ _ _
                    refine mt_if_eq dX4_fill_56 (tgt := 63) rfl (fun q179 => ?_) (fun q179 => ?_)
                    · have q179 := (mI_eq0 (by omega)).mp q179
                      exact absurd q179 (by decide)
                    · have q179 := (not_congr (mI_eq0 (by omega))).mp q179
                      refine mt_iconst dX4_fill_59 (v := nI 1) rfl ?_
                      refine mt_goto dX4_fill_60 (tgt := 64) rfl ?_
                      refine mt_callV (N := mX4_isLet) (Rc := rX4_isLet) (As := [.int (nI 1), .int (nI 1)]) (st := []) dX4_fill_64 (kX4_isLet (t := true) (f := true) hl C0) sX4_isLet mw_1092 mKX4 rfl C0 rfl (Nat.le_of_ble_eq_true rfl) ⟨⟨Nat.le_of_ble_eq_true rfl, Nat.le_of_ble_eq_true rfl⟩, (by first | exact Nat.le_of_ble_eq_true rfl | (simp only [rX4_isRow, rX4_room, rX4_isIn, rX4_isLet, rX4_patterned, rX4_made, rX4_did, rX4_fill]; omega)), (by first | exact Nat.le_of_ble_eq_true rfl | (simp only [rX4_isRow, rX4_room, rX4_isIn, rX4_isLet, rX4_patterned, rX4_made, rX4_did, rX4_fill]; omega))⟩ (fun v180 h181 n182 c183 => ?_) (fun _ _ _ hx => hx.elim)
                      obtain ⟨c183a, c183b, c183c, c183d⟩ := c183
                      rw [c183a, c183b]
                      show mT _ _ _ _ 67 [.ref 27, .int (nI r3), .int (nI p20), .int (nI p45), .int a, .int (nI bn), .double 0, .double 0, .double 0] [.int (nI 1)] _ _ _ _
                      refine mt_if_ne dX4_fill_67 (tgt := 72) rfl (fun q184 => ?_) (fun q184 => ?_)
                      · have q184 := (not_congr (mI_eq0 (by omega))).mp q184
                        refine mt_aload_n dX4_fill_72 rfl rfl ?_
                        refine mt_getfield mKX4 (i := 0) (by decide) mw_1053 dX4_fill_73 c183c rfl ?_
                        refine mt_iload_n dX4_fill_76 rfl ?_
                        refine mp_aaload dX4_fill_77 ((c183d (28) (by omega)).trans G28_1) (fun _ => rfl) rfl rfl (by omega) (by omega) (v := .ref (kx r3)) (by rw [GK_1 _ (by omega)]; rfl) ?_
                        refine mt_alen dX4_fill_78 ((c183d (kx r3) (by omega)).trans ke_18) (by decide) ?_
                        refine mp_istore dX4_fill_79 (ls' := [.ref 27, .int (nI r3), .int (nI p20), .int (nI p45), .int a, .int (nI bn), .int (nI ((S.1 r3).length)), .double 0, .double 0]) rfl (by decide) rfl ?_
                        refine mt_aload_n dX4_fill_81 rfl rfl ?_
                        refine mt_getfield mKX4 (i := 0) (by decide) mw_1053 dX4_fill_82 c183c rfl ?_
                        refine mt_iload_n dX4_fill_85 rfl ?_
                        refine mt_iload_n dX4_fill_86 rfl ?_
                        refine mp_newarray dX4_fill_87 mw_87 rfl (by omega) (by simp only [rX4_fill]; omega) (by simp only [rX4_fill]; omega) (fun h185 e186 f187 => ?_)
                        refine mp_aastoreA dX4_fill_89 ((f187 (28) (by omega)).trans ((c183d (28) (by omega)).trans G28_1)) e186 rfl (by omega) (by omega) (fun h188 e189 f190 => ?_)
                        refine mt_sipush dX4_fill_90 (v := nI 1000) (by decide) ?_
                        refine mt_iload dX4_fill_93 rfl ?_
                        refine mp_imul dX4_fill_95 (v := nI (1000 * bn)) (mI_mul _ _) ?_
                        refine mt_iload dX4_fill_96 rfl ?_
                        refine mp_iadd dX4_fill_98 (v := (nI (1000 * bn)) + a) rfl ?_
                        refine mt_sipush dX4_fill_99 (v := nI 999) (by decide) ?_
                        refine mp_iadd dX4_fill_102 (v := ((nI (1000 * bn)) + a) + (nI 999)) rfl ?_
                        refine mt_ldc (v := nI 65536) dX4_fill_103 mw_1096 ?_
                        refine mp_irem dX4_fill_105 ((mI_ne0 (by first | decide | omega) (by first | decide | omega))) (v := (((nI (1000 * bn)) + a) + (nI 999)) - (((nI (1000 * bn)) + a) + (nI 999)) / (nI 65536) * (nI 65536)) rfl ?_
                        refine mp_istore dX4_fill_106 (ls' := [.ref 27, .int (nI r3), .int (nI p20), .int (nI p45), .int a, .int (nI bn), .int (nI ((S.1 r3).length)), .int ((((nI (1000 * bn)) + a) + (nI 999)) - (((nI (1000 * bn)) + a) + (nI 999)) / (nI 65536) * (nI 65536)), .double 0]) rfl (by decide) rfl ?_
                        refine mt_widen (cc' := 1 + 1 * 0) (sc' := p20 + 7 * 0) (by first | omega | (simp only [rX4_isRow, rX4_room, rX4_isIn, rX4_isLet, rX4_patterned, rX4_made, rX4_did, rX4_fill]; omega)) (by first | omega | (simp only [rX4_isRow, rX4_room, rX4_isIn, rX4_isLet, rX4_patterned, rX4_made, rX4_did, rX4_fill]; omega)) ?_
                        refine mt_iconst dX4_fill_108 (v := nI 0) rfl ?_
                        refine mp_istore dX4_fill_109 (ls' := [.ref 27, .int (nI r3), .int (nI p20), .int (nI p45), .int a, .int (nI bn), .int (nI ((S.1 r3).length)), .int ((((nI (1000 * bn)) + a) + (nI 999)) - (((nI (1000 * bn)) + a) + (nI 999)) / (nI 65536) * (nI 65536)), .int (nI 0)]) rfl (by decide) rfl ?_
                        refine tX4_fill_111 hl (by omega) (by omega) (by omega) (by omega) (by omega) (by omega) (fun k_191 h_192 n_193 sd_194 g9_195 z196 z197 z198 z199 z200 z201 => ?_) _ 0 h188 (n + 1) ((((nI (1000 * bn)) + a) + (nI 999)) - (((nI (1000 * bn)) + a) + (nI 999)) / (nI 65536) * (nI 65536)) (fun _ => (0 : Int32)) (Nat.lt_succ_self _) ((f190 (27) (by omega)).trans ((f187 (27) (by omega)).trans c183c)) e189 ((f190 (n) (by omega)).trans e186) (fun i hi => absurd hi (by omega)) rfl (fun _ _ => rfl) (by omega) (by omega)
                        refine mt_aload_n dX4_fill_173 rfl rfl ?_
                        refine mt_getfield mKX4 (i := 1) (by decide) mw_1054 dX4_fill_174 z200 rfl ?_
                        refine mt_iload_n dX4_fill_177 rfl ?_
                        refine mt_aload_n dX4_fill_178 rfl rfl ?_
                        refine mt_iload_n dX4_fill_179 rfl ?_
                        refine mt_iload_n dX4_fill_180 rfl ?_
                        refine mt_callV (N := mX4_made) (Rc := rX4_made) (As := [.int (nI r3), .int (nI p20)]) (st := [.int (nI r3), .ref 33]) dX4_fill_181 (kX4_made hl z200 (by omega) (by omega) (by omega)) sX4_made mw_1101 mKX4 rfl z200 rfl (Nat.le_of_ble_eq_true rfl) ⟨⟨Nat.le_of_ble_eq_true rfl, Nat.le_of_ble_eq_true rfl⟩, (by first | exact Nat.le_of_ble_eq_true rfl | (simp only [rX4_isRow, rX4_room, rX4_isIn, rX4_isLet, rX4_patterned, rX4_made, rX4_did, rX4_fill]; omega)), (by first | exact Nat.le_of_ble_eq_true rfl | (simp only [rX4_isRow, rX4_room, rX4_isIn, rX4_isLet, rX4_patterned, rX4_made, rX4_did, rX4_fill]; omega))⟩ (fun v202 h203 n204 c205 => ?_) (fun _ _ _ hx => hx.elim)
                        obtain ⟨c205a, c205b, ⟨c205g, c205c, c205d⟩, c205f, c205e⟩ := c205
                        rw [c205a, c205b]
                        have c205k : ∀ j, j ≠ n_193 ∧ j ≠ 27 → h203 j = h_192 j := fun j hj => c205e j hj.1 hj.2
                        show mT _ _ _ _ 184 [.ref 27, .int (nI r3), .int (nI p20), .int (nI p45), .int a, .int (nI bn), .int (nI ((S.1 r3).length)), .int sd_194, .int (nI k_191)] [.ref n_193, .int (nI r3), .ref 33] _ _ _ _
                        refine mp_aastoreA dX4_fill_184 ((c205k (33) (by omega)).trans ((z198 (33) (by omega)).trans ((f190 (33) (by omega)).trans ((f187 (33) (by omega)).trans ((c183d (33) (by omega)).trans G33_1))))) c205c rfl (by omega) (by omega) (fun h206 e207 f208 => ?_)
                        refine mt_aload_n dX4_fill_185 rfl rfl ?_
                        refine mt_iload dX4_fill_186 rfl ?_
                        refine mt_callV (N := mX4_did) (Rc := rX4_did) (As := [.int (nI ((S.1 r3).length))]) (st := []) dX4_fill_188 (kX4_did hl ((f208 (27) (by omega)).trans c205f)) sX4_did mw_1105 mKX4 rfl ((f208 (27) (by omega)).trans c205f) rfl (Nat.le_of_ble_eq_true rfl) ⟨⟨Nat.le_of_ble_eq_true rfl, Nat.le_of_ble_eq_true rfl⟩, (by first | exact Nat.le_of_ble_eq_true rfl | (simp only [rX4_isRow, rX4_room, rX4_isIn, rX4_isLet, rX4_patterned, rX4_made, rX4_did, rX4_fill]; omega)), (by first | exact Nat.le_of_ble_eq_true rfl | (simp only [rX4_isRow, rX4_room, rX4_isIn, rX4_isLet, rX4_patterned, rX4_made, rX4_did, rX4_fill]; omega))⟩ (fun v209 h210 n211 c212 => ?_) (fun _ _ _ hx => hx.elim)
                        obtain ⟨c212a, c212b, c212c, c212d⟩ := c212
                        rw [c212a, c212b]
                        show mT _ _ _ _ 191 [.ref 27, .int (nI r3), .int (nI p20), .int (nI p45), .int a, .int (nI bn), .int (nI ((S.1 r3).length)), .int sd_194, .int (nI k_191)] [.int (nI ((S.1 r3).length))] _ _ _ _
                        refine mt_ireturn dX4_fill_191 rfl rfl (by first | exact Nat.le_of_ble_eq_true rfl | (simp only [rX4_isRow, rX4_room, rX4_isIn, rX4_isLet, rX4_patterned, rX4_made, rX4_did, rX4_fill]; omega)) (by first | exact Nat.le_of_ble_eq_true rfl | (simp only [rX4_isRow, rX4_room, rX4_isIn, rX4_isLet, rX4_patterned, rX4_made, rX4_did, rX4_fill]; omega)) ?_
                        exact mOk.ofE (x := .int (nI ((S.1 r3).length))) (S' := ((cSet S r3 (zipF (flF p45 p20 a bn) (madeF r3 S.2.1) p20)).1, madeG r3 p20 S.2.1, S.2.2.1 + nI 1, S.2.2.2.1, S.2.2.2.2)) (by simp only [mp_fill, dAt_s (k := 4) hr3 (by first | decide | omega), dArg_s (k := (rroom r3 + 1)) hp20 (by first | decide | omega), dArg_s (k := 8) hp45 (by first | decide | omega), dFit_s hk74, dB_s hbn hb0, if_neg q155, if_neg q164, if_neg q169, if_neg q174, if_neg q179, if_neg q184, cSet_s] <;> first | rfl | simp_all) rfl (by omega) c212c (by omega) (mRows.upz (ys := zipF (flF p45 p20 a bn) (madeF r3 S.2.1) p20) HR zipF_len (by omega) (by omega) (by omega) ⟨by omega, by omega⟩ ⟨by omega, by omega⟩ (by omega) ((c212d (28) (by omega)).trans ((f208 (28) (by omega)).trans ((c205k (28) (by omega)).trans z201))) (fun q hq hne => (if_neg hne).trans (GK_1 q hq)) ((c212d (33) (by omega)).trans e207) (fun q hq hne => (if_neg hne).trans (GS_1 q hq)) ((c212d (n) (by omega)).trans ((f208 (n) (by omega)).trans ((c205k (n) (by omega)).trans z196))) ((c212d (n_193) (by omega)).trans ((f208 (n_193) (by omega)).trans c205c)) (zip_k z197) (zip_t c205d) (by omega) (fun j j1 j2 j3 j4 => (c212d (j) (by omega)).trans ((f208 (j) (by omega)).trans ((c205k (j) (by omega)).trans ((z198 (j) (by omega)).trans ((f190 (j) (by omega)).trans ((f187 (j) (by omega)).trans (c183d (j) (by omega))))))))) (fun j hj => (c212d j (by omega)).trans ((f208 j (by omega)).trans ((c205k j (by omega)).trans ((z198 j (by omega)).trans ((f190 j (by omega)).trans ((f187 j (by omega)).trans (c183d j (by omega))))))))
                      · have q184 := (mI_eq0 (by omega)).mp q184
                        exact absurd q184 (by decide)
