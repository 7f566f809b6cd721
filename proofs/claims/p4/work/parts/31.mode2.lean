/-! ===== the reference: more acts ===== -/
abbrev rX4_keep : Room := { frames := 2, cells := 2, slots := 1280, locals := 42 }
def mp_keep (S : cS) (row : Int32) (from_ : Int32) (to : Int32) : Nat × Value × cS := dAt S 4 row fun r => dKeep S (S.1 r).length from_ to fun p t => (0, .int (nI (t - p)), cAct (cSet S r (zipF (fun i => xk (S.1 r) (p + i)) (fun i => xt (S.1 r) (p + i)) (t - p))))
set_option maxRecDepth 100000 in
set_option maxHeartbeats 2000000 in
theorem kX4_keep {l : Launch} (hl : l.stackTraces = false) {h : mH} {n : Nat} {S : cS} {th : Int32} {row : Int32} {from_ : Int32} {to : Int32} (C : mAt h n S th) : mC l mX4_keep rX4_keep [.ref 27, .int row, .int from_, .int to] h n (mOk (mp_keep S row from_ to) (.int (nI 0)) h n) (mNX) := by
  obtain ⟨C0, h39, kx, sx, HR⟩ := id C
  obtain ⟨⟨gk_1, G28_1, GK_1⟩, ⟨gs_1, G33_1, GS_1⟩, AK_1, AS_1, NE_1, NQ_1, LE_1⟩ := id HR
  refine mm_enter hl (by decide +kernel) rfl rfl rfl (Nat.le_of_ble_eq_true rfl) ?_
  show mT _ _ _ _ 0 [.ref 27, .int row, .int from_, .int to] [] _ _ 0 0
  rcases hq2 : inN 4 row with _ | r3
  · refine mt_aload_n dX4_keep_0 rfl rfl ?_
    refine mt_iload_n dX4_keep_1 rfl ?_
    refine mt_callS (N := mX4_isRow) (Rc := rX4_isRow) (As := [.int row]) (st := [.ref 27]) dX4_keep_2 (kX4_isRow hl) sX4_isRow mw_1083 rfl (Nat.le_of_ble_eq_true rfl) ⟨⟨Nat.le_of_ble_eq_true rfl, Nat.le_of_ble_eq_true rfl⟩, (by first | exact Nat.le_of_ble_eq_true rfl | (simp only [rX4_isRow, rX4_isLet, rX4_part, rX4_did, rX4_keep]; omega)), (by first | exact Nat.le_of_ble_eq_true rfl | (simp only [rX4_isRow, rX4_isLet, rX4_part, rX4_did, rX4_keep]; omega))⟩ (fun v4 h5 n6 c7 => ?_) (fun _ _ _ hx => hx.elim)
    obtain ⟨c7a, c7b, c7c⟩ := c7
    rw [show (inN 4 row).isSome = false from by rw [hq2]; rfl] at c7a
    rw [c7a, c7b, c7c]
    show mT _ _ _ _ 5 [.ref 27, .int row, .int from_, .int to] [.int (nI 0), .ref 27] _ _ _ _
    refine mt_if_eq dX4_keep_5 (tgt := 32) rfl (fun q8 => ?_) (fun q8 => ?_)
    · have q8 := (mI_eq0 (by omega)).mp q8
      refine mt_iconst dX4_keep_32 (v := nI 0) rfl ?_
      refine mt_iconst dX4_keep_33 (v := nI 1) rfl ?_
      refine mt_callV (N := mX4_isLet) (Rc := rX4_isLet) (As := [.int (nI 0), .int (nI 1)]) (st := []) dX4_keep_34 (kX4_isLet (t := false) (f := true) hl C0) sX4_isLet mw_1092 mKX4 rfl C0 rfl (Nat.le_of_ble_eq_true rfl) ⟨⟨Nat.le_of_ble_eq_true rfl, Nat.le_of_ble_eq_true rfl⟩, (by first | exact Nat.le_of_ble_eq_true rfl | (simp only [rX4_isRow, rX4_isLet, rX4_part, rX4_did, rX4_keep]; omega)), (by first | exact Nat.le_of_ble_eq_true rfl | (simp only [rX4_isRow, rX4_isLet, rX4_part, rX4_did, rX4_keep]; omega))⟩ (fun v9 h10 n11 c12 => ?_) (fun _ _ _ hx => hx.elim)
      obtain ⟨c12a, c12b, c12c, c12d⟩ := c12
      rw [c12a, c12b]
      show mT _ _ _ _ 37 [.ref 27, .int row, .int from_, .int to] [.int (nI 0)] _ _ _ _
      refine mt_if_ne dX4_keep_37 (tgt := 42) rfl (fun q13 => ?_) (fun q13 => ?_)
      · have q13 := (not_congr (mI_eq0 (by omega))).mp q13
        exact absurd q13 (by decide)
      · have q13 := (mI_eq0 (by omega)).mp q13
        refine mt_iconst dX4_keep_40 (v := nI 0) rfl ?_
        refine mt_ireturn dX4_keep_41 rfl rfl (by first | exact Nat.le_of_ble_eq_true rfl | (simp only [rX4_isRow, rX4_isLet, rX4_part, rX4_did, rX4_keep]; omega)) (by first | exact Nat.le_of_ble_eq_true rfl | (simp only [rX4_isRow, rX4_isLet, rX4_part, rX4_did, rX4_keep]; omega)) ?_
        exact mOk.no (k := 1) (S' := S) (by simp only [mp_keep, dAt_n (k := 4) (x := row) hq2, if_pos q8, if_pos q13]) (by decide) rfl (by omega) c12c (by omega) (mRows.fr (n' := n) HR (by omega) (fun j j1 j2 j3 => c12d (j) (by omega)) (by omega)) (fun j hj => c12d j (by omega))
    · have q8 := (not_congr (mI_eq0 (by omega))).mp q8
      exact absurd q8 (by decide)
  · obtain ⟨hr3, rfl⟩ := inN_of hq2 (by first | decide | omega)
    obtain ⟨⟨ka_14, kb_14, kc_14, kd_14⟩, kf_14, ke_14, kg_14⟩ := AK_1 r3 hr3
    obtain ⟨⟨sa_14, sb_14, sc_14, sd_14⟩, sf_14, se_14, sg_14⟩ := AS_1 r3 hr3
    have kn_14 := NE_1 r3 r3 hr3 hr3
    have kl_14 := LE_1 r3 hr3
    have km_14 := rroom_le (r := r3)
    refine mt_aload_n dX4_keep_0 rfl rfl ?_
    refine mt_iload_n dX4_keep_1 rfl ?_
    refine mt_callS (N := mX4_isRow) (Rc := rX4_isRow) (As := [.int (nI r3)]) (st := [.ref 27]) dX4_keep_2 (kX4_isRow hl) sX4_isRow mw_1083 rfl (Nat.le_of_ble_eq_true rfl) ⟨⟨Nat.le_of_ble_eq_true rfl, Nat.le_of_ble_eq_true rfl⟩, (by first | exact Nat.le_of_ble_eq_true rfl | (simp only [rX4_isRow, rX4_isLet, rX4_part, rX4_did, rX4_keep]; omega)), (by first | exact Nat.le_of_ble_eq_true rfl | (simp only [rX4_isRow, rX4_isLet, rX4_part, rX4_did, rX4_keep]; omega))⟩ (fun v15 h16 n17 c18 => ?_) (fun _ _ _ hx => hx.elim)
    obtain ⟨c18a, c18b, c18c⟩ := c18
    rw [show (inN 4 (nI r3)).isSome = true from by rw [inN_some hr3 (by decide)]; rfl] at c18a
    rw [c18a, c18b, c18c]
    show mT _ _ _ _ 5 [.ref 27, .int (nI r3), .int from_, .int to] [.int (nI 1), .ref 27] _ _ _ _
    refine mt_if_eq dX4_keep_5 (tgt := 32) rfl (fun q19 => ?_) (fun q19 => ?_)
    · have q19 := (mI_eq0 (by omega)).mp q19
      exact absurd q19 (by decide)
    · have q19 := (not_congr (mI_eq0 (by omega))).mp q19
      by_cases hkp : from_ < 0 ∨ to < from_ ∨ nI (S.1 r3).length < to
      · refine mt_iload_n dX4_keep_8 rfl ?_
        refine mt_if_lt dX4_keep_9 (tgt := 32) rfl (fun q20 => ?_) (fun q20 => ?_)
        · refine mt_iconst dX4_keep_32 (v := nI 0) rfl ?_
          refine mt_iconst dX4_keep_33 (v := nI 1) rfl ?_
          refine mt_callV (N := mX4_isLet) (Rc := rX4_isLet) (As := [.int (nI 0), .int (nI 1)]) (st := []) dX4_keep_34 (kX4_isLet (t := false) (f := true) hl C0) sX4_isLet mw_1092 mKX4 rfl C0 rfl (Nat.le_of_ble_eq_true rfl) ⟨⟨Nat.le_of_ble_eq_true rfl, Nat.le_of_ble_eq_true rfl⟩, (by first | exact Nat.le_of_ble_eq_true rfl | (simp only [rX4_isRow, rX4_isLet, rX4_part, rX4_did, rX4_keep]; omega)), (by first | exact Nat.le_of_ble_eq_true rfl | (simp only [rX4_isRow, rX4_isLet, rX4_part, rX4_did, rX4_keep]; omega))⟩ (fun v21 h22 n23 c24 => ?_) (fun _ _ _ hx => hx.elim)
          obtain ⟨c24a, c24b, c24c, c24d⟩ := c24
          rw [c24a, c24b]
          show mT _ _ _ _ 37 [.ref 27, .int (nI r3), .int from_, .int to] [.int (nI 0)] _ _ _ _
          refine mt_if_ne dX4_keep_37 (tgt := 42) rfl (fun q25 => ?_) (fun q25 => ?_)
          · have q25 := (not_congr (mI_eq0 (by omega))).mp q25
            exact absurd q25 (by decide)
          · have q25 := (mI_eq0 (by omega)).mp q25
            refine mt_iconst dX4_keep_40 (v := nI 0) rfl ?_
            refine mt_ireturn dX4_keep_41 rfl rfl (by first | exact Nat.le_of_ble_eq_true rfl | (simp only [rX4_isRow, rX4_isLet, rX4_part, rX4_did, rX4_keep]; omega)) (by first | exact Nat.le_of_ble_eq_true rfl | (simp only [rX4_isRow, rX4_isLet, rX4_part, rX4_did, rX4_keep]; omega)) ?_
            exact mOk.no (k := 1) (S' := S) (by simp only [mp_keep, dAt_s (k := 4) hr3 (by first | decide | omega), keep_neg (L := (S.1 r3).length) hkp, if_neg q19, if_pos q20, if_pos q25]) (by decide) rfl (by omega) c24c (by omega) (mRows.fr (n' := n) HR (by omega) (fun j j1 j2 j3 => c24d (j) (by omega)) (by omega)) (fun j hj => c24d j (by omega))
        · refine mt_iload_n dX4_keep_12 rfl ?_
          refine mt_iload_n dX4_keep_13 rfl ?_
          refine mt_icmp_gt dX4_keep_14 (tgt := 32) rfl (fun q26 => ?_) (fun q26 => ?_)
          · refine mt_iconst dX4_keep_32 (v := nI 0) rfl ?_
            refine mt_iconst dX4_keep_33 (v := nI 1) rfl ?_
            refine mt_callV (N := mX4_isLet) (Rc := rX4_isLet) (As := [.int (nI 0), .int (nI 1)]) (st := []) dX4_keep_34 (kX4_isLet (t := false) (f := true) hl C0) sX4_isLet mw_1092 mKX4 rfl C0 rfl (Nat.le_of_ble_eq_true rfl) ⟨⟨Nat.le_of_ble_eq_true rfl, Nat.le_of_ble_eq_true rfl⟩, (by first | exact Nat.le_of_ble_eq_true rfl | (simp only [rX4_isRow, rX4_isLet, rX4_part, rX4_did, rX4_keep]; omega)), (by first | exact Nat.le_of_ble_eq_true rfl | (simp only [rX4_isRow, rX4_isLet, rX4_part, rX4_did, rX4_keep]; omega))⟩ (fun v27 h28 n29 c30 => ?_) (fun _ _ _ hx => hx.elim)
            obtain ⟨c30a, c30b, c30c, c30d⟩ := c30
            rw [c30a, c30b]
            show mT _ _ _ _ 37 [.ref 27, .int (nI r3), .int from_, .int to] [.int (nI 0)] _ _ _ _
            refine mt_if_ne dX4_keep_37 (tgt := 42) rfl (fun q31 => ?_) (fun q31 => ?_)
            · have q31 := (not_congr (mI_eq0 (by omega))).mp q31
              exact absurd q31 (by decide)
            · have q31 := (mI_eq0 (by omega)).mp q31
              refine mt_iconst dX4_keep_40 (v := nI 0) rfl ?_
              refine mt_ireturn dX4_keep_41 rfl rfl (by first | exact Nat.le_of_ble_eq_true rfl | (simp only [rX4_isRow, rX4_isLet, rX4_part, rX4_did, rX4_keep]; omega)) (by first | exact Nat.le_of_ble_eq_true rfl | (simp only [rX4_isRow, rX4_isLet, rX4_part, rX4_did, rX4_keep]; omega)) ?_
              exact mOk.no (k := 1) (S' := S) (by simp only [mp_keep, dAt_s (k := 4) hr3 (by first | decide | omega), keep_neg (L := (S.1 r3).length) hkp, if_neg q19, if_neg q20, if_pos q26, if_pos q31]) (by decide) rfl (by omega) c30c (by omega) (mRows.fr (n' := n) HR (by omega) (fun j j1 j2 j3 => c30d (j) (by omega)) (by omega)) (fun j hj => c30d j (by omega))
          · refine mt_iload_n dX4_keep_17 rfl ?_
            refine mt_aload_n dX4_keep_18 rfl rfl ?_
            refine mt_getfield mKX4 (i := 0) (by decide) mw_1053 dX4_keep_19 C0 rfl ?_
            refine mt_iload_n dX4_keep_22 rfl ?_
            refine mp_aaload dX4_keep_23 G28_1 (fun _ => rfl) rfl rfl (by omega) (by omega) (v := .ref (kx r3)) (by rw [GK_1 _ (by omega)]; rfl) ?_
            refine mt_alen dX4_keep_24 ke_14 (by decide) ?_
            refine mt_icmp_gt dX4_keep_25 (tgt := 32) rfl (fun q32 => ?_) (fun q32 => ?_)
            · refine mt_iconst dX4_keep_32 (v := nI 0) rfl ?_
              refine mt_iconst dX4_keep_33 (v := nI 1) rfl ?_
              refine mt_callV (N := mX4_isLet) (Rc := rX4_isLet) (As := [.int (nI 0), .int (nI 1)]) (st := []) dX4_keep_34 (kX4_isLet (t := false) (f := true) hl C0) sX4_isLet mw_1092 mKX4 rfl C0 rfl (Nat.le_of_ble_eq_true rfl) ⟨⟨Nat.le_of_ble_eq_true rfl, Nat.le_of_ble_eq_true rfl⟩, (by first | exact Nat.le_of_ble_eq_true rfl | (simp only [rX4_isRow, rX4_isLet, rX4_part, rX4_did, rX4_keep]; omega)), (by first | exact Nat.le_of_ble_eq_true rfl | (simp only [rX4_isRow, rX4_isLet, rX4_part, rX4_did, rX4_keep]; omega))⟩ (fun v33 h34 n35 c36 => ?_) (fun _ _ _ hx => hx.elim)
              obtain ⟨c36a, c36b, c36c, c36d⟩ := c36
              rw [c36a, c36b]
              show mT _ _ _ _ 37 [.ref 27, .int (nI r3), .int from_, .int to] [.int (nI 0)] _ _ _ _
              refine mt_if_ne dX4_keep_37 (tgt := 42) rfl (fun q37 => ?_) (fun q37 => ?_)
              · have q37 := (not_congr (mI_eq0 (by omega))).mp q37
                exact absurd q37 (by decide)
              · have q37 := (mI_eq0 (by omega)).mp q37
                refine mt_iconst dX4_keep_40 (v := nI 0) rfl ?_
                refine mt_ireturn dX4_keep_41 rfl rfl (by first | exact Nat.le_of_ble_eq_true rfl | (simp only [rX4_isRow, rX4_isLet, rX4_part, rX4_did, rX4_keep]; omega)) (by first | exact Nat.le_of_ble_eq_true rfl | (simp only [rX4_isRow, rX4_isLet, rX4_part, rX4_did, rX4_keep]; omega)) ?_
                exact mOk.no (k := 1) (S' := S) (by simp only [mp_keep, dAt_s (k := 4) hr3 (by first | decide | omega), keep_neg (L := (S.1 r3).length) hkp, if_neg q19, if_neg q20, if_neg q26, if_pos q32, if_pos q37]) (by decide) rfl (by omega) c36c (by omega) (mRows.fr (n' := n) HR (by omega) (fun j j1 j2 j3 => c36d (j) (by omega)) (by omega)) (fun j hj => c36d j (by omega))
            · exact (hkp.elim q20 (fun z => z.elim q26 q32)).elim
      · refine mt_iload_n dX4_keep_8 rfl ?_
        refine mt_if_lt dX4_keep_9 (tgt := 32) rfl (fun q38 => ?_) (fun q38 => ?_)
        · exact (hkp (by first | exact Or.inl (by assumption) | exact Or.inr (Or.inl (by assumption)) | exact Or.inr (Or.inr (by assumption)))).elim
        · refine mt_iload_n dX4_keep_12 rfl ?_
          refine mt_iload_n dX4_keep_13 rfl ?_
          refine mt_icmp_gt dX4_keep_14 (tgt := 32) rfl (fun q39 => ?_) (fun q39 => ?_)
          · exact (hkp (by first | exact Or.inl (by assumption) | exact Or.inr (Or.inl (by assumption)) | exact Or.inr (Or.inr (by assumption)))).elim
          · refine mt_iload_n dX4_keep_17 rfl ?_
            refine mt_aload_n dX4_keep_18 rfl rfl ?_
            refine mt_getfield mKX4 (i := 0) (by decide) mw_1053 dX4_keep_19 C0 rfl ?_
            refine mt_iload_n dX4_keep_22 rfl ?_
            refine mp_aaload dX4_keep_23 G28_1 (fun _ => rfl) rfl rfl (by omega) (by omega) (v := .ref (kx r3)) (by rw [GK_1 _ (by omega)]; rfl) ?_
            refine mt_alen dX4_keep_24 ke_14 (by decide) ?_
            refine mt_icmp_gt dX4_keep_25 (tgt := 32) rfl (fun q40 => ?_) (fun q40 => ?_)
            · exact (hkp (by first | exact Or.inl (by assumption) | exact Or.inr (Or.inl (by assumption)) | exact Or.inr (Or.inr (by assumption)))).elim
            · obtain ⟨p, hp, t, ht, hpt, rfl, rfl⟩ := keep_in (L := (S.1 r3).length) q38 q39 q40 (by omega)
              refine mt_iconst dX4_keep_28 (v := nI 1) rfl ?_
              refine mt_goto dX4_keep_29 (tgt := 33) rfl ?_
              refine mt_iconst dX4_keep_33 (v := nI 1) rfl ?_
              refine mt_callV (N := mX4_isLet) (Rc := rX4_isLet) (As := [.int (nI 1), .int (nI 1)]) (st := []) dX4_keep_34 (kX4_isLet (t := true) (f := true) hl C0) sX4_isLet mw_1092 mKX4 rfl C0 rfl (Nat.le_of_ble_eq_true rfl) ⟨⟨Nat.le_of_ble_eq_true rfl, Nat.le_of_ble_eq_true rfl⟩, (by first | exact Nat.le_of_ble_eq_true rfl | (simp only [rX4_isRow, rX4_isLet, rX4_part, rX4_did, rX4_keep]; omega)), (by first | exact Nat.le_of_ble_eq_true rfl | (simp only [rX4_isRow, rX4_isLet, rX4_part, rX4_did, rX4_keep]; omega))⟩ (fun v41 h42 n43 c44 => ?_) (fun _ _ _ hx => hx.elim)
              obtain ⟨c44a, c44b, c44c, c44d⟩ := c44
              rw [c44a, c44b]
              show mT _ _ _ _ 37 [.ref 27, .int (nI r3), .int (nI p), .int (nI t)] [.int (nI 1)] _ _ _ _
              refine mt_if_ne dX4_keep_37 (tgt := 42) rfl (fun q45 => ?_) (fun q45 => ?_)
              · have q45 := (not_congr (mI_eq0 (by omega))).mp q45
                refine mt_aload_n dX4_keep_42 rfl rfl ?_
                refine mt_getfield mKX4 (i := 0) (by decide) mw_1053 dX4_keep_43 c44c rfl ?_
                refine mt_iload_n dX4_keep_46 rfl ?_
                refine mt_aload_n dX4_keep_47 rfl rfl ?_
                refine mt_getfield mKX4 (i := 0) (by decide) mw_1053 dX4_keep_48 c44c rfl ?_
                refine mt_iload_n dX4_keep_51 rfl ?_
                refine mp_aaload dX4_keep_52 ((c44d (28) (by omega)).trans G28_1) (fun _ => rfl) rfl rfl (by omega) (by omega) (v := .ref (kx r3)) (by rw [GK_1 _ (by omega)]; rfl) ?_
                refine mt_iload_n dX4_keep_53 rfl ?_
                refine mt_iload_n dX4_keep_54 rfl ?_
                refine mt_callS (N := mX4_part) (Rc := rX4_part) (As := [.ref (kx r3), .int (nI p), .int (nI t)]) (st := [.int (nI r3), .ref 28]) dX4_keep_55 (kX4_part hl ((c44d (kx r3) (by omega)).trans ke_14) (by omega) (by omega) (by omega) (by omega)) sX4_part mw_1180 rfl (Nat.le_of_ble_eq_true rfl) ⟨⟨Nat.le_of_ble_eq_true rfl, Nat.le_of_ble_eq_true rfl⟩, (by first | exact Nat.le_of_ble_eq_true rfl | (simp only [rX4_isRow, rX4_isLet, rX4_part, rX4_did, rX4_keep]; omega)), (by first | exact Nat.le_of_ble_eq_true rfl | (simp only [rX4_isRow, rX4_isLet, rX4_part, rX4_did, rX4_keep]; omega))⟩ (fun v46 h47 n48 c49 => ?_) (fun _ _ _ hx => hx.elim)
                obtain ⟨c49a, c49b, ⟨c49g, c49c, c49d⟩, c49e⟩ := c49
                rw [c49a, c49b]
                show mT _ _ _ _ 58 [.ref 27, .int (nI r3), .int (nI p), .int (nI t)] [.ref n, .int (nI r3), .ref 28] _ _ _ _
                refine mp_aastoreA dX4_keep_58 ((c49e (28) (by omega)).trans ((c44d (28) (by omega)).trans G28_1)) c49c rfl (by omega) (by omega) (fun h50 e51 f52 => ?_)
                refine mt_aload_n dX4_keep_59 rfl rfl ?_
                refine mt_getfield mKX4 (i := 1) (by decide) mw_1054 dX4_keep_60 ((f52 (27) (by omega)).trans ((c49e (27) (by omega)).trans c44c)) rfl ?_
                refine mt_iload_n dX4_keep_63 rfl ?_
                refine mt_aload_n dX4_keep_64 rfl rfl ?_
                refine mt_getfield mKX4 (i := 1) (by decide) mw_1054 dX4_keep_65 ((f52 (27) (by omega)).trans ((c49e (27) (by omega)).trans c44c)) rfl ?_
                refine mt_iload_n dX4_keep_68 rfl ?_
                refine mp_aaload dX4_keep_69 ((f52 (33) (by omega)).trans ((c49e (33) (by omega)).trans ((c44d (33) (by omega)).trans G33_1))) (fun _ => rfl) rfl rfl (by omega) (by omega) (v := .ref (sx r3)) (by rw [GS_1 _ (by omega)]; rfl) ?_
                refine mt_iload_n dX4_keep_70 rfl ?_
                refine mt_iload_n dX4_keep_71 rfl ?_
                refine mt_callS (N := mX4_part) (Rc := rX4_part) (As := [.ref (sx r3), .int (nI p), .int (nI t)]) (st := [.int (nI r3), .ref 33]) dX4_keep_72 (kX4_part hl ((f52 (sx r3) (by omega)).trans ((c49e (sx r3) (by omega)).trans ((c44d (sx r3) (by omega)).trans se_14))) (by omega) (by omega) (by omega) (by omega)) sX4_part mw_1180 rfl (Nat.le_of_ble_eq_true rfl) ⟨⟨Nat.le_of_ble_eq_true rfl, Nat.le_of_ble_eq_true rfl⟩, (by first | exact Nat.le_of_ble_eq_true rfl | (simp only [rX4_isRow, rX4_isLet, rX4_part, rX4_did, rX4_keep]; omega)), (by first | exact Nat.le_of_ble_eq_true rfl | (simp only [rX4_isRow, rX4_isLet, rX4_part, rX4_did, rX4_keep]; omega))⟩ (fun v53 h54 n55 c56 => ?_) (fun _ _ _ hx => hx.elim)
                obtain ⟨c56a, c56b, ⟨c56g, c56c, c56d⟩, c56e⟩ := c56
                rw [c56a, c56b]
                show mT _ _ _ _ 75 [.ref 27, .int (nI r3), .int (nI p), .int (nI t)] [.ref (n + 1), .int (nI r3), .ref 33] _ _ _ _
                refine mp_aastoreA dX4_keep_75 ((c56e (33) (by omega)).trans ((f52 (33) (by omega)).trans ((c49e (33) (by omega)).trans ((c44d (33) (by omega)).trans G33_1)))) c56c rfl (by omega) (by omega) (fun h57 e58 f59 => ?_)
                refine mt_aload_n dX4_keep_76 rfl rfl ?_
                refine mt_iload_n dX4_keep_77 rfl ?_
                refine mt_iload_n dX4_keep_78 rfl ?_
                refine mp_isub dX4_keep_79 (v := nI (t - p)) (pk_sub (by omega)) ?_
                refine mt_callV (N := mX4_did) (Rc := rX4_did) (As := [.int (nI (t - p))]) (st := []) dX4_keep_80 (kX4_did hl ((f59 (27) (by omega)).trans ((c56e (27) (by omega)).trans ((f52 (27) (by omega)).trans ((c49e (27) (by omega)).trans c44c))))) sX4_did mw_1105 mKX4 rfl ((f59 (27) (by omega)).trans ((c56e (27) (by omega)).trans ((f52 (27) (by omega)).trans ((c49e (27) (by omega)).trans c44c)))) rfl (Nat.le_of_ble_eq_true rfl) ⟨⟨Nat.le_of_ble_eq_true rfl, Nat.le_of_ble_eq_true rfl⟩, (by first | exact Nat.le_of_ble_eq_true rfl | (simp only [rX4_isRow, rX4_isLet, rX4_part, rX4_did, rX4_keep]; omega)), (by first | exact Nat.le_of_ble_eq_true rfl | (simp only [rX4_isRow, rX4_isLet, rX4_part, rX4_did, rX4_keep]; omega))⟩ (fun v60 h61 n62 c63 => ?_) (fun _ _ _ hx => hx.elim)
                obtain ⟨c63a, c63b, c63c, c63d⟩ := c63
                rw [c63a, c63b]
                show mT _ _ _ _ 83 [.ref 27, .int (nI r3), .int (nI p), .int (nI t)] [.int (nI (t - p))] _ _ _ _
                refine mt_ireturn dX4_keep_83 rfl rfl (by first | exact Nat.le_of_ble_eq_true rfl | (simp only [rX4_isRow, rX4_isLet, rX4_part, rX4_did, rX4_keep]; omega)) (by first | exact Nat.le_of_ble_eq_true rfl | (simp only [rX4_isRow, rX4_isLet, rX4_part, rX4_did, rX4_keep]; omega)) ?_
                exact mOk.ofE (x := .int (nI (t - p))) (S' := ((cSet S r3 (zipF (fun i => xk (S.1 r3) (p + i)) (fun i => xt (S.1 r3) (p + i)) (t - p))).1, S.2.1, S.2.2.1 + nI 1, S.2.2.2.1, S.2.2.2.2)) (by simp only [mp_keep, dAt_s (k := 4) hr3 (by first | decide | omega), keep_pos (L := (S.1 r3).length) hpt ht (by omega), if_neg q19, if_neg q38, if_neg q39, if_neg q40, if_neg q45, cSet_s] <;> first | rfl | simp_all) rfl (by omega) c63c (by omega) (mRows.upz (ys := zipF (fun i => xk (S.1 r3) (p + i)) (fun i => xt (S.1 r3) (p + i)) (t - p)) HR zipF_len (by omega) (by omega) (by omega) ⟨by omega, by omega⟩ ⟨by omega, by omega⟩ (by omega) ((c63d (28) (by omega)).trans ((f59 (28) (by omega)).trans ((c56e (28) (by omega)).trans e51))) (fun q hq hne => (if_neg hne).trans (GK_1 q hq)) ((c63d (33) (by omega)).trans e58) (fun q hq hne => (if_neg hne).trans (GS_1 q hq)) ((c63d (n) (by omega)).trans ((f59 (n) (by omega)).trans ((c56e (n) (by omega)).trans ((f52 (n) (by omega)).trans c49c)))) ((c63d (n + 1) (by omega)).trans ((f59 (n + 1) (by omega)).trans c56c)) (zip_k (fun i hi => (c49d i hi).trans (kg_14 _ (by omega)))) (zip_t (fun i hi => (c56d i hi).trans (sg_14 _ (by omega)))) (by omega) (fun j j1 j2 j3 j4 => (c63d (j) (by omega)).trans ((f59 (j) (by omega)).trans ((c56e (j) (by omega)).trans ((f52 (j) (by omega)).trans ((c49e (j) (by omega)).trans (c44d (j) (by omega)))))))) (fun j hj => (c63d j (by omega)).trans ((f59 j (by omega)).trans ((c56e j (by omega)).trans ((f52 j (by omega)).trans ((c49e j (by omega)).trans (c44d j (by omega)))))))
              · have q45 := (mI_eq0 (by omega)).mp q45
                exact absurd q45 (by decide)
abbrev rX4_copy : Room := { frames := 2, cells := 2, slots := 1280, locals := 46 }
def mp_copy (S : cS) (row : Int32) (into : Int32) : Nat × Value × cS := dAt S 4 row fun r => dAt S 4 into fun q => if rroom q < (S.1 r).length then (0, .int (-9), cRef S) else if r = q then (0, .int (nI (S.1 r).length), cAct S) else (0, .int (nI (S.1 r).length), cAct (cGiv (cSet S q (zipF (xk (S.1 r)) (comF q r (S.1 r).length (S.1 r) S.2.1) (S.1 r).length)) (comG q r (S.1 r).length S.2.1)))
set_option maxRecDepth 100000 in
set_option maxHeartbeats 2000000 in
theorem kX4_copy {l : Launch} (hl : l.stackTraces = false) {h : mH} {n : Nat} {S : cS} {th : Int32} {row : Int32} {into : Int32} (C : mAt h n S th) : mC l mX4_copy rX4_copy [.ref 27, .int row, .int into] h n (mOk (mp_copy S row into) (.int (nI 0)) h n) (mNX) := by
  obtain ⟨C0, h39, kx, sx, HR⟩ := id C
  obtain ⟨⟨gk_1, G28_1, GK_1⟩, ⟨gs_1, G33_1, GS_1⟩, AK_1, AS_1, NE_1, NQ_1, LE_1⟩ := id HR
  refine mm_enter hl (by decide +kernel) rfl rfl rfl (Nat.le_of_ble_eq_true rfl) ?_
  show mT _ _ _ _ 0 [.ref 27, .int row, .int into, .double 0] [] _ _ 0 0
  rcases hq2 : inN 4 row with _ | r3
  · refine mt_aload_n dX4_copy_0 rfl rfl ?_
    refine mt_iload_n dX4_copy_1 rfl ?_
    refine mt_callS (N := mX4_isRow) (Rc := rX4_isRow) (As := [.int row]) (st := [.ref 27]) dX4_copy_2 (kX4_isRow hl) sX4_isRow mw_1083 rfl (Nat.le_of_ble_eq_true rfl) ⟨⟨Nat.le_of_ble_eq_true rfl, Nat.le_of_ble_eq_true rfl⟩, (by first | exact Nat.le_of_ble_eq_true rfl | (simp only [rX4_isRow, rX4_isLet, rX4_room, rX4_refuse, rX4_did, rX4_coming, rX4_part, rX4_copy]; omega)), (by first | exact Nat.le_of_ble_eq_true rfl | (simp only [rX4_isRow, rX4_isLet, rX4_room, rX4_refuse, rX4_did, rX4_coming, rX4_part, rX4_copy]; omega))⟩ (fun v4 h5 n6 c7 => ?_) (fun _ _ _ hx => hx.elim)
    obtain ⟨c7a, c7b, c7c⟩ := c7
    rw [show (inN 4 row).isSome = false from by rw [hq2]; rfl] at c7a
    rw [c7a, c7b, c7c]
    show mT _ _ _ _ 5 [.ref 27, .int row, .int into, .double 0] [.int (nI 0), .ref 27] _ _ _ _
    refine mt_if_eq dX4_copy_5 (tgt := 19) rfl (fun q8 => ?_) (fun q8 => ?_)
    · have q8 := (mI_eq0 (by omega)).mp q8
      refine mt_iconst dX4_copy_19 (v := nI 0) rfl ?_
      refine mt_iconst dX4_copy_20 (v := nI 1) rfl ?_
      refine mt_callV (N := mX4_isLet) (Rc := rX4_isLet) (As := [.int (nI 0), .int (nI 1)]) (st := []) dX4_copy_21 (kX4_isLet (t := false) (f := true) hl C0) sX4_isLet mw_1092 mKX4 rfl C0 rfl (Nat.le_of_ble_eq_true rfl) ⟨⟨Nat.le_of_ble_eq_true rfl, Nat.le_of_ble_eq_true rfl⟩, (by first | exact Nat.le_of_ble_eq_true rfl | (simp only [rX4_isRow, rX4_isLet, rX4_room, rX4_refuse, rX4_did, rX4_coming, rX4_part, rX4_copy]; omega)), (by first | exact Nat.le_of_ble_eq_true rfl | (simp only [rX4_isRow, rX4_isLet, rX4_room, rX4_refuse, rX4_did, rX4_coming, rX4_part, rX4_copy]; omega))⟩ (fun v9 h10 n11 c12 => ?_) (fun _ _ _ hx => hx.elim)
      obtain ⟨c12a, c12b, c12c, c12d⟩ := c12
      rw [c12a, c12b]
      show mT _ _ _ _ 24 [.ref 27, .int row, .int into, .double 0] [.int (nI 0)] _ _ _ _
      refine mt_if_ne dX4_copy_24 (tgt := 29) rfl (fun q13 => ?_) (fun q13 => ?_)
      · have q13 := (not_congr (mI_eq0 (by omega))).mp q13
        exact absurd q13 (by decide)
      · have q13 := (mI_eq0 (by omega)).mp q13
        refine mt_iconst dX4_copy_27 (v := nI 0) rfl ?_
        refine mt_ireturn dX4_copy_28 rfl rfl (by first | exact Nat.le_of_ble_eq_true rfl | (simp only [rX4_isRow, rX4_isLet, rX4_room, rX4_refuse, rX4_did, rX4_coming, rX4_part, rX4_copy]; omega)) (by first | exact Nat.le_of_ble_eq_true rfl | (simp only [rX4_isRow, rX4_isLet, rX4_room, rX4_refuse, rX4_did, rX4_coming, rX4_part, rX4_copy]; omega)) ?_
        exact mOk.no (k := 1) (S' := S) (by simp only [mp_copy, dAt_n (k := 4) (x := row) hq2, if_pos q8, if_pos q13]) (by decide) rfl (by omega) c12c (by omega) (mRows.fr (n' := n) HR (by omega) (fun j j1 j2 j3 => c12d (j) (by omega)) (by omega)) (fun j hj => c12d j (by omega))
    · have q8 := (not_congr (mI_eq0 (by omega))).mp q8
      exact absurd q8 (by decide)
  · obtain ⟨hr3, rfl⟩ := inN_of hq2 (by first | decide | omega)
    obtain ⟨⟨ka_14, kb_14, kc_14, kd_14⟩, kf_14, ke_14, kg_14⟩ := AK_1 r3 hr3
    obtain ⟨⟨sa_14, sb_14, sc_14, sd_14⟩, sf_14, se_14, sg_14⟩ := AS_1 r3 hr3
    have kn_14 := NE_1 r3 r3 hr3 hr3
    have kl_14 := LE_1 r3 hr3
    have km_14 := rroom_le (r := r3)
    rcases hq15 : inN 4 into with _ | r16
    · refine mt_aload_n dX4_copy_0 rfl rfl ?_
      refine mt_iload_n dX4_copy_1 rfl ?_
      refine mt_callS (N := mX4_isRow) (Rc := rX4_isRow) (As := [.int (nI r3)]) (st := [.ref 27]) dX4_copy_2 (kX4_isRow hl) sX4_isRow mw_1083 rfl (Nat.le_of_ble_eq_true rfl) ⟨⟨Nat.le_of_ble_eq_true rfl, Nat.le_of_ble_eq_true rfl⟩, (by first | exact Nat.le_of_ble_eq_true rfl | (simp only [rX4_isRow, rX4_isLet, rX4_room, rX4_refuse, rX4_did, rX4_coming, rX4_part, rX4_copy]; omega)), (by first | exact Nat.le_of_ble_eq_true rfl | (simp only [rX4_isRow, rX4_isLet, rX4_room, rX4_refuse, rX4_did, rX4_coming, rX4_part, rX4_copy]; omega))⟩ (fun v17 h18 n19 c20 => ?_) (fun _ _ _ hx => hx.elim)
      obtain ⟨c20a, c20b, c20c⟩ := c20
      rw [show (inN 4 (nI r3)).isSome = true from by rw [inN_some hr3 (by decide)]; rfl] at c20a
      rw [c20a, c20b, c20c]
      show mT _ _ _ _ 5 [.ref 27, .int (nI r3), .int into, .double 0] [.int (nI 1), .ref 27] _ _ _ _
      refine mt_if_eq dX4_copy_5 (tgt := 19) rfl (fun q21 => ?_) (fun q21 => ?_)
      · have q21 := (mI_eq0 (by omega)).mp q21
        exact absurd q21 (by decide)
      · have q21 := (not_congr (mI_eq0 (by omega))).mp q21
        refine mt_iload_n dX4_copy_8 rfl ?_
        refine mt_callS (N := mX4_isRow) (Rc := rX4_isRow) (As := [.int into]) (st := [.ref 27]) dX4_copy_9 (kX4_isRow hl) sX4_isRow mw_1083 rfl (Nat.le_of_ble_eq_true rfl) ⟨⟨Nat.le_of_ble_eq_true rfl, Nat.le_of_ble_eq_true rfl⟩, (by first | exact Nat.le_of_ble_eq_true rfl | (simp only [rX4_isRow, rX4_isLet, rX4_room, rX4_refuse, rX4_did, rX4_coming, rX4_part, rX4_copy]; omega)), (by first | exact Nat.le_of_ble_eq_true rfl | (simp only [rX4_isRow, rX4_isLet, rX4_room, rX4_refuse, rX4_did, rX4_coming, rX4_part, rX4_copy]; omega))⟩ (fun v22 h23 n24 c25 => ?_) (fun _ _ _ hx => hx.elim)
        obtain ⟨c25a, c25b, c25c⟩ := c25
        rw [show (inN 4 into).isSome = false from by rw [hq15]; rfl] at c25a
        rw [c25a, c25b, c25c]
        show mT _ _ _ _ 12 [.ref 27, .int (nI r3), .int into, .double 0] [.int (nI 0), .ref 27] _ _ _ _
        refine mt_if_eq dX4_copy_12 (tgt := 19) rfl (fun q26 => ?_) (fun q26 => ?_)
        · have q26 := (mI_eq0 (by omega)).mp q26
          refine mt_iconst dX4_copy_19 (v := nI 0) rfl ?_
          refine mt_iconst dX4_copy_20 (v := nI 1) rfl ?_
          refine mt_callV (N := mX4_isLet) (Rc := rX4_isLet) (As := [.int (nI 0), .int (nI 1)]) (st := []) dX4_copy_21 (kX4_isLet (t := false) (f := true) hl C0) sX4_isLet mw_1092 mKX4 rfl C0 rfl (Nat.le_of_ble_eq_true rfl) ⟨⟨Nat.le_of_ble_eq_true rfl, Nat.le_of_ble_eq_true rfl⟩, (by first | exact Nat.le_of_ble_eq_true rfl | (simp only [rX4_isRow, rX4_isLet, rX4_room, rX4_refuse, rX4_did, rX4_coming, rX4_part, rX4_copy]; omega)), (by first | exact Nat.le_of_ble_eq_true rfl | (simp only [rX4_isRow, rX4_isLet, rX4_room, rX4_refuse, rX4_did, rX4_coming, rX4_part, rX4_copy]; omega))⟩ (fun v27 h28 n29 c30 => ?_) (fun _ _ _ hx => hx.elim)
          obtain ⟨c30a, c30b, c30c, c30d⟩ := c30
          rw [c30a, c30b]
          show mT _ _ _ _ 24 [.ref 27, .int (nI r3), .int into, .double 0] [.int (nI 0)] _ _ _ _
          refine mt_if_ne dX4_copy_24 (tgt := 29) rfl (fun q31 => ?_) (fun q31 => ?_)
          · have q31 := (not_congr (mI_eq0 (by omega))).mp q31
            exact absurd q31 (by decide)
          · have q31 := (mI_eq0 (by omega)).mp q31
            refine mt_iconst dX4_copy_27 (v := nI 0) rfl ?_
            refine mt_ireturn dX4_copy_28 rfl rfl (by first | exact Nat.le_of_ble_eq_true rfl | (simp only [rX4_isRow, rX4_isLet, rX4_room, rX4_refuse, rX4_did, rX4_coming, rX4_part, rX4_copy]; omega)) (by first | exact Nat.le_of_ble_eq_true rfl | (simp only [rX4_isRow, rX4_isLet, rX4_room, rX4_refuse, rX4_did, rX4_coming, rX4_part, rX4_copy]; omega)) ?_
            exact mOk.no (k := 1) (S' := S) (by simp only [mp_copy, dAt_s (k := 4) hr3 (by first | decide | omega), dAt_n (k := 4) (x := into) hq15, if_neg q21, if_pos q26, if_pos q31]) (by decide) rfl (by omega) c30c (by omega) (mRows.fr (n' := n) HR (by omega) (fun j j1 j2 j3 => c30d (j) (by omega)) (by omega)) (fun j hj => c30d j (by omega))
        · have q26 := (not_congr (mI_eq0 (by omega))).mp q26
          exact absurd q26 (by decide)
    · obtain ⟨hr16, rfl⟩ := inN_of hq15 (by first | decide | omega)
      obtain ⟨⟨ka_32, kb_32, kc_32, kd_32⟩, kf_32, ke_32, kg_32⟩ := AK_1 r16 hr16
      obtain ⟨⟨sa_32, sb_32, sc_32, sd_32⟩, sf_32, se_32, sg_32⟩ := AS_1 r16 hr16
      have kn_32 := NE_1 r16 r16 hr16 hr16
      have kl_32 := LE_1 r16 hr16
      have km_32 := rroom_le (r := r16)
      refine mt_aload_n dX4_copy_0 rfl rfl ?_
      refine mt_iload_n dX4_copy_1 rfl ?_
      refine mt_callS (N := mX4_isRow) (Rc := rX4_isRow) (As := [.int (nI r3)]) (st := [.ref 27]) dX4_copy_2 (kX4_isRow hl) sX4_isRow mw_1083 rfl (Nat.le_of_ble_eq_true rfl) ⟨⟨Nat.le_of_ble_eq_true rfl, Nat.le_of_ble_eq_true rfl⟩, (by first | exact Nat.le_of_ble_eq_true rfl | (simp only [rX4_isRow, rX4_isLet, rX4_room, rX4_refuse, rX4_did, rX4_coming, rX4_part, rX4_copy]; omega)), (by first | exact Nat.le_of_ble_eq_true rfl | (simp only [rX4_isRow, rX4_isLet, rX4_room, rX4_refuse, rX4_did, rX4_coming, rX4_part, rX4_copy]; omega))⟩ (fun v33 h34 n35 c36 => ?_) (fun _ _ _ hx => hx.elim)
      obtain ⟨c36a, c36b, c36c⟩ := c36
      rw [show (inN 4 (nI r3)).isSome = true from by rw [inN_some hr3 (by decide)]; rfl] at c36a
      rw [c36a, c36b, c36c]
      show mT _ _ _ _ 5 [.ref 27, .int (nI r3), .int (nI r16), .double 0] [.int (nI 1), .ref 27] _ _ _ _
      refine mt_if_eq dX4_copy_5 (tgt := 19) rfl (fun q37 => ?_) (fun q37 => ?_)
      · have q37 := (mI_eq0 (by omega)).mp q37
        exact absurd q37 (by decide)
      · have q37 := (not_congr (mI_eq0 (by omega))).mp q37
        refine mt_iload_n dX4_copy_8 rfl ?_
        refine mt_callS (N := mX4_isRow) (Rc := rX4_isRow) (As := [.int (nI r16)]) (st := [.ref 27]) dX4_copy_9 (kX4_isRow hl) sX4_isRow mw_1083 rfl (Nat.le_of_ble_eq_true rfl) ⟨⟨Nat.le_of_ble_eq_true rfl, Nat.le_of_ble_eq_true rfl⟩, (by first | exact Nat.le_of_ble_eq_true rfl | (simp only [rX4_isRow, rX4_isLet, rX4_room, rX4_refuse, rX4_did, rX4_coming, rX4_part, rX4_copy]; omega)), (by first | exact Nat.le_of_ble_eq_true rfl | (simp only [rX4_isRow, rX4_isLet, rX4_room, rX4_refuse, rX4_did, rX4_coming, rX4_part, rX4_copy]; omega))⟩ (fun v38 h39 n40 c41 => ?_) (fun _ _ _ hx => hx.elim)
        obtain ⟨c41a, c41b, c41c⟩ := c41
        rw [show (inN 4 (nI r16)).isSome = true from by rw [inN_some hr16 (by decide)]; rfl] at c41a
        rw [c41a, c41b, c41c]
        show mT _ _ _ _ 12 [.ref 27, .int (nI r3), .int (nI r16), .double 0] [.int (nI 1), .ref 27] _ _ _ _
        refine mt_if_eq dX4_copy_12 (tgt := 19) rfl (fun q42 => ?_) (fun q42 => ?_)
        · have q42 := (mI_eq0 (by omega)).mp q42
          exact absurd q42 (by decide)
        · have q42 := (not_congr (mI_eq0 (by omega))).mp q42
          refine mt_iconst dX4_copy_15 (v := nI 1) rfl ?_
          refine mt_goto dX4_copy_16 (tgt := 20) rfl ?_
          refine mt_iconst dX4_copy_20 (v := nI 1) rfl ?_
          refine mt_callV (N := mX4_isLet) (Rc := rX4_isLet) (As := [.int (nI 1), .int (nI 1)]) (st := []) dX4_copy_21 (kX4_isLet (t := true) (f := true) hl C0) sX4_isLet mw_1092 mKX4 rfl C0 rfl (Nat.le_of_ble_eq_true rfl) ⟨⟨Nat.le_of_ble_eq_true rfl, Nat.le_of_ble_eq_true rfl⟩, (by first | exact Nat.le_of_ble_eq_true rfl | (simp only [rX4_isRow, rX4_isLet, rX4_room, rX4_refuse, rX4_did, rX4_coming, rX4_part, rX4_copy]; omega)), (by first | exact Nat.le_of_ble_eq_true rfl | (simp only [rX4_isRow, rX4_isLet, rX4_room, rX4_refuse, rX4_did, rX4_coming, rX4_part, rX4_copy]; omega))⟩ (fun v43 h44 n45 c46 => ?_) (fun _ _ _ hx => hx.elim)
          obtain ⟨c46a, c46b, c46c, c46d⟩ := c46
          rw [c46a, c46b]
          show mT _ _ _ _ 24 [.ref 27, .int (nI r3), .int (nI r16), .double 0] [.int (nI 1)] _ _ _ _
          refine mt_if_ne dX4_copy_24 (tgt := 29) rfl (fun q47 => ?_) (fun q47 => ?_)
          · have q47 := (not_congr (mI_eq0 (by omega))).mp q47
            refine mt_aload_n dX4_copy_29 rfl rfl ?_
            refine mt_getfield mKX4 (i := 0) (by decide) mw_1053 dX4_copy_30 c46c rfl ?_
            refine mt_iload_n dX4_copy_33 rfl ?_
            refine mp_aaload dX4_copy_34 ((c46d (28) (by omega)).trans G28_1) (fun _ => rfl) rfl rfl (by omega) (by omega) (v := .ref (kx r3)) (by rw [GK_1 _ (by omega)]; rfl) ?_
            refine mt_alen dX4_copy_35 ((c46d (kx r3) (by omega)).trans ke_14) (by decide) ?_
            refine mp_istore_n dX4_copy_36 (ls' := [.ref 27, .int (nI r3), .int (nI r16), .int (nI ((S.1 r3).length))]) rfl (by decide) rfl ?_
            refine mt_iload_n dX4_copy_37 rfl ?_
            refine mt_iload_n dX4_copy_38 rfl ?_
            refine mt_callS (N := mX4_room) (Rc := rX4_room) (As := [.int (nI r16)]) (st := [.int (nI ((S.1 r3).length))]) dX4_copy_39 (kX4_room hl (by omega)) sX4_room mw_1089 rfl (Nat.le_of_ble_eq_true rfl) ⟨⟨Nat.le_of_ble_eq_true rfl, Nat.le_of_ble_eq_true rfl⟩, (by first | exact Nat.le_of_ble_eq_true rfl | (simp only [rX4_isRow, rX4_isLet, rX4_room, rX4_refuse, rX4_did, rX4_coming, rX4_part, rX4_copy]; omega)), (by first | exact Nat.le_of_ble_eq_true rfl | (simp only [rX4_isRow, rX4_isLet, rX4_room, rX4_refuse, rX4_did, rX4_coming, rX4_part, rX4_copy]; omega))⟩ (fun v48 h49 n50 c51 => ?_) (fun _ _ _ hx => hx.elim)
            obtain ⟨c51a, c51b, c51c⟩ := c51
            rw [c51a, c51b, c51c]
            show mT _ _ _ _ 42 [.ref 27, .int (nI r3), .int (nI r16), .int (nI ((S.1 r3).length))] [.int (nI (rroom r16)), .int (nI ((S.1 r3).length))] _ _ _ _
            refine mt_icmp_le dX4_copy_42 (tgt := 50) rfl (fun q52 => ?_) (fun q52 => ?_)
            · have q52 := Int32.not_lt.mpr q52
              have q52 := (not_congr (nI_ltI (by omega) (by omega))).mp q52
              refine mt_iload_n dX4_copy_50 rfl ?_
              refine mt_iload_n dX4_copy_51 rfl ?_
              refine mt_icmp_ne dX4_copy_52 (tgt := 61) rfl (fun q53 => ?_) (fun q53 => ?_)
              · have q53 := (not_congr (nI_eq (by omega) (by omega))).mp q53
                refine mt_aload_n dX4_copy_61 rfl rfl ?_
                refine mt_getfield mKX4 (i := 1) (by decide) mw_1054 dX4_copy_62 c46c rfl ?_
                refine mt_iload_n dX4_copy_65 rfl ?_
                refine mt_aload_n dX4_copy_66 rfl rfl ?_
                refine mt_iload_n dX4_copy_67 rfl ?_
                refine mt_iload_n dX4_copy_68 rfl ?_
                refine mt_callV (N := mX4_coming) (Rc := rX4_coming) (As := [.int (nI r3), .int (nI r16)]) (st := [.int (nI r16), .ref 33]) dX4_copy_69 (kX4_coming hl c46c (mRows.fr (n' := n) HR (by omega) (fun j j1 j2 j3 => c46d (j) (by omega)) (by omega)) (by omega) (by omega) (by omega)) sX4_coming mw_1199 mKX4 rfl c46c rfl (Nat.le_of_ble_eq_true rfl) ⟨⟨Nat.le_of_ble_eq_true rfl, Nat.le_of_ble_eq_true rfl⟩, (by first | exact Nat.le_of_ble_eq_true rfl | (simp only [rX4_isRow, rX4_isLet, rX4_room, rX4_refuse, rX4_did, rX4_coming, rX4_part, rX4_copy]; omega)), (by first | exact Nat.le_of_ble_eq_true rfl | (simp only [rX4_isRow, rX4_isLet, rX4_room, rX4_refuse, rX4_did, rX4_coming, rX4_part, rX4_copy]; omega))⟩ (fun v54 h55 n56 c57 => ?_) (fun _ _ _ hx => hx.elim)
                obtain ⟨c57a, c57b, ⟨c57g, c57c, c57d⟩, c57f, c57e⟩ := c57
                rw [c57a, c57b]
                have c57k : ∀ j, j ≠ n ∧ j ≠ 27 → h55 j = h44 j := fun j hj => c57e j hj.1 hj.2
                show mT _ _ _ _ 72 [.ref 27, .int (nI r3), .int (nI r16), .int (nI ((S.1 r3).length))] [.ref n, .int (nI r16), .ref 33] _ _ _ _
                refine mp_aastoreA dX4_copy_72 ((c57k (33) (by omega)).trans ((c46d (33) (by omega)).trans G33_1)) c57c rfl (by omega) (by omega) (fun h58 e59 f60 => ?_)
                refine mt_aload_n dX4_copy_73 rfl rfl ?_
                refine mt_getfield mKX4 (i := 0) (by decide) mw_1053 dX4_copy_74 ((f60 (27) (by omega)).trans c57f) rfl ?_
                refine mt_iload_n dX4_copy_77 rfl ?_
                refine mt_aload_n dX4_copy_78 rfl rfl ?_
                refine mt_getfield mKX4 (i := 0) (by decide) mw_1053 dX4_copy_79 ((f60 (27) (by omega)).trans c57f) rfl ?_
                refine mt_iload_n dX4_copy_82 rfl ?_
                refine mp_aaload dX4_copy_83 ((f60 (28) (by omega)).trans ((c57k (28) (by omega)).trans ((c46d (28) (by omega)).trans G28_1))) (fun _ => rfl) rfl rfl (by omega) (by omega) (v := .ref (kx r3)) (by rw [GK_1 _ (by omega)]; rfl) ?_
                refine mt_iconst dX4_copy_84 (v := nI 0) rfl ?_
                refine mt_iload_n dX4_copy_85 rfl ?_
                refine mt_callS (N := mX4_part) (Rc := rX4_part) (As := [.ref (kx r3), .int (nI 0), .int (nI ((S.1 r3).length))]) (st := [.int (nI r16), .ref 28]) dX4_copy_86 (kX4_part hl ((f60 (kx r3) (by omega)).trans ((c57k (kx r3) (by omega)).trans ((c46d (kx r3) (by omega)).trans ke_14))) (by omega) (by omega) (by omega) (by omega)) sX4_part mw_1180 rfl (Nat.le_of_ble_eq_true rfl) ⟨⟨Nat.le_of_ble_eq_true rfl, Nat.le_of_ble_eq_true rfl⟩, (by first | exact Nat.le_of_ble_eq_true rfl | (simp only [rX4_isRow, rX4_isLet, rX4_room, rX4_refuse, rX4_did, rX4_coming, rX4_part, rX4_copy]; omega)), (by first | exact Nat.le_of_ble_eq_true rfl | (simp only [rX4_isRow, rX4_isLet, rX4_room, rX4_refuse, rX4_did, rX4_coming, rX4_part, rX4_copy]; omega))⟩ (fun v61 h62 n63 c64 => ?_) (fun _ _ _ hx => hx.elim)
                obtain ⟨c64a, c64b, ⟨c64g, c64c, c64d⟩, c64e⟩ := c64
                rw [c64a, c64b]
                show mT _ _ _ _ 89 [.ref 27, .int (nI r3), .int (nI r16), .int (nI ((S.1 r3).length))] [.ref (n + 1), .int (nI r16), .ref 28] _ _ _ _
                refine mp_aastoreA dX4_copy_89 ((c64e (28) (by omega)).trans ((f60 (28) (by omega)).trans ((c57k (28) (by omega)).trans ((c46d (28) (by omega)).trans G28_1)))) c64c rfl (by omega) (by omega) (fun h65 e66 f67 => ?_)
                refine mt_aload_n dX4_copy_90 rfl rfl ?_
                refine mt_iload_n dX4_copy_91 rfl ?_
                refine mt_callV (N := mX4_did) (Rc := rX4_did) (As := [.int (nI ((S.1 r3).length))]) (st := []) dX4_copy_92 (kX4_did hl ((f67 (27) (by omega)).trans ((c64e (27) (by omega)).trans ((f60 (27) (by omega)).trans c57f)))) sX4_did mw_1105 mKX4 rfl ((f67 (27) (by omega)).trans ((c64e (27) (by omega)).trans ((f60 (27) (by omega)).trans c57f))) rfl (Nat.le_of_ble_eq_true rfl) ⟨⟨Nat.le_of_ble_eq_true rfl, Nat.le_of_ble_eq_true rfl⟩, (by first | exact Nat.le_of_ble_eq_true rfl | (simp only [rX4_isRow, rX4_isLet, rX4_room, rX4_refuse, rX4_did, rX4_coming, rX4_part, rX4_copy]; omega)), (by first | exact Nat.le_of_ble_eq_true rfl | (simp only [rX4_isRow, rX4_isLet, rX4_room, rX4_refuse, rX4_did, rX4_coming, rX4_part, rX4_copy]; omega))⟩ (fun v68 h69 n70 c71 => ?_) (fun _ _ _ hx => hx.elim)
                obtain ⟨c71a, c71b, c71c, c71d⟩ := c71
                rw [c71a, c71b]
                show mT _ _ _ _ 95 [.ref 27, .int (nI r3), .int (nI r16), .int (nI ((S.1 r3).length))] [.int (nI ((S.1 r3).length))] _ _ _ _
                refine mt_ireturn dX4_copy_95 rfl rfl (by first | exact Nat.le_of_ble_eq_true rfl | (simp only [rX4_isRow, rX4_isLet, rX4_room, rX4_refuse, rX4_did, rX4_coming, rX4_part, rX4_copy]; omega)) (by first | exact Nat.le_of_ble_eq_true rfl | (simp only [rX4_isRow, rX4_isLet, rX4_room, rX4_refuse, rX4_did, rX4_coming, rX4_part, rX4_copy]; omega)) ?_
                exact mOk.ofE (x := .int (nI ((S.1 r3).length))) (S' := ((cSet S r16 (zipF (xk (S.1 r3)) (comF r16 r3 (S.1 r3).length (S.1 r3) S.2.1) (S.1 r3).length)).1, comG r16 r3 (S.1 r3).length S.2.1, S.2.2.1 + nI 1, S.2.2.2.1, S.2.2.2.2)) (by simp only [mp_copy, dAt_s (k := 4) hr3 (by first | decide | omega), dAt_s (k := 4) hr16 (by first | decide | omega), if_neg q37, if_neg q42, if_neg q47, if_neg q52, if_neg q53, cSet_s] <;> first | rfl | simp_all) rfl (by omega) c71c (by omega) (mRows.upz (ys := zipF (xk (S.1 r3)) (comF r16 r3 (S.1 r3).length (S.1 r3) S.2.1) (S.1 r3).length) HR zipF_len (by omega) (by omega) (by omega) ⟨by omega, by omega⟩ ⟨by omega, by omega⟩ (by omega) ((c71d (28) (by omega)).trans e66) (fun q hq hne => (if_neg hne).trans (GK_1 q hq)) ((c71d (33) (by omega)).trans ((f67 (33) (by omega)).trans ((c64e (33) (by omega)).trans e59))) (fun q hq hne => (if_neg hne).trans (GS_1 q hq)) ((c71d (n + 1) (by omega)).trans ((f67 (n + 1) (by omega)).trans c64c)) ((c71d (n) (by omega)).trans ((f67 (n) (by omega)).trans ((c64e (n) (by omega)).trans ((f60 (n) (by omega)).trans c57c)))) (zip_k (fun i hi => (c64d i (by omega)).trans ((kg_14 _ (by omega)).trans (congrArg (xk (S.1 r3)) (Nat.zero_add i))))) (zip_t c57d) (by omega) (fun j j1 j2 j3 j4 => (c71d (j) (by omega)).trans ((f67 (j) (by omega)).trans ((c64e (j) (by omega)).trans ((f60 (j) (by omega)).trans ((c57k (j) (by omega)).trans (c46d (j) (by omega)))))))) (fun j hj => (c71d j (by omega)).trans ((f67 j (by omega)).trans ((c64e j (by omega)).trans ((f60 j (by omega)).trans ((c57k j (by omega)).trans (c46d j (by omega)))))))
              · have q53 := (nI_eq (by omega) (by omega)).mp q53
                refine mt_aload_n dX4_copy_55 rfl rfl ?_
                refine mt_iload_n dX4_copy_56 rfl ?_
                refine mt_callV (N := mX4_did) (Rc := rX4_did) (As := [.int (nI ((S.1 r3).length))]) (st := []) dX4_copy_57 (kX4_did hl c46c) sX4_did mw_1105 mKX4 rfl c46c rfl (Nat.le_of_ble_eq_true rfl) ⟨⟨Nat.le_of_ble_eq_true rfl, Nat.le_of_ble_eq_true rfl⟩, (by first | exact Nat.le_of_ble_eq_true rfl | (simp only [rX4_isRow, rX4_isLet, rX4_room, rX4_refuse, rX4_did, rX4_coming, rX4_part, rX4_copy]; omega)), (by first | exact Nat.le_of_ble_eq_true rfl | (simp only [rX4_isRow, rX4_isLet, rX4_room, rX4_refuse, rX4_did, rX4_coming, rX4_part, rX4_copy]; omega))⟩ (fun v72 h73 n74 c75 => ?_) (fun _ _ _ hx => hx.elim)
                obtain ⟨c75a, c75b, c75c, c75d⟩ := c75
                rw [c75a, c75b]
                show mT _ _ _ _ 60 [.ref 27, .int (nI r3), .int (nI r16), .int (nI ((S.1 r3).length))] [.int (nI ((S.1 r3).length))] _ _ _ _
                refine mt_ireturn dX4_copy_60 rfl rfl (by first | exact Nat.le_of_ble_eq_true rfl | (simp only [rX4_isRow, rX4_isLet, rX4_room, rX4_refuse, rX4_did, rX4_coming, rX4_part, rX4_copy]; omega)) (by first | exact Nat.le_of_ble_eq_true rfl | (simp only [rX4_isRow, rX4_isLet, rX4_room, rX4_refuse, rX4_did, rX4_coming, rX4_part, rX4_copy]; omega)) ?_
                exact mOk.of (x := .int (nI ((S.1 r3).length))) (S' := ((S).1, S.2.1, S.2.2.1 + nI 1, S.2.2.2.1, S.2.2.2.2)) (by simp only [mp_copy, dAt_s (k := 4) hr3 (by first | decide | omega), dAt_s (k := 4) hr16 (by first | decide | omega), if_neg q37, if_neg q42, if_neg q47, if_neg q52, if_pos q53, cSet_s] <;> first | rfl | simp_all) rfl (by omega) c75c (by omega) (mRows.fr (n' := n) HR (by omega) (fun j j1 j2 j3 => (c75d (j) (by omega)).trans (c46d (j) (by omega))) (by omega)) (fun j hj => (c75d j (by omega)).trans (c46d j (by omega)))
            · have q52 := Int32.not_le.mp q52
              have q52 := (nI_ltI (by omega) (by omega)).mp q52
              refine mt_aload_n dX4_copy_45 rfl rfl ?_
              refine mt_callV (N := mX4_refuse) (Rc := rX4_refuse) (As := []) (st := []) dX4_copy_46 (kX4_refuse hl c46c) sX4_refuse mw_1115 mKX4 rfl c46c rfl (Nat.le_of_ble_eq_true rfl) ⟨⟨Nat.le_of_ble_eq_true rfl, Nat.le_of_ble_eq_true rfl⟩, (by first | exact Nat.le_of_ble_eq_true rfl | (simp only [rX4_isRow, rX4_isLet, rX4_room, rX4_refuse, rX4_did, rX4_coming, rX4_part, rX4_copy]; omega)), (by first | exact Nat.le_of_ble_eq_true rfl | (simp only [rX4_isRow, rX4_isLet, rX4_room, rX4_refuse, rX4_did, rX4_coming, rX4_part, rX4_copy]; omega))⟩ (fun v76 h77 n78 c79 => ?_) (fun _ _ _ hx => hx.elim)
              obtain ⟨c79a, c79b, c79c, c79d⟩ := c79
              rw [c79a, c79b]
              show mT _ _ _ _ 49 [.ref 27, .int (nI r3), .int (nI r16), .int (nI ((S.1 r3).length))] [.int (-9)] _ _ _ _
              refine mt_ireturn dX4_copy_49 rfl rfl (by first | exact Nat.le_of_ble_eq_true rfl | (simp only [rX4_isRow, rX4_isLet, rX4_room, rX4_refuse, rX4_did, rX4_coming, rX4_part, rX4_copy]; omega)) (by first | exact Nat.le_of_ble_eq_true rfl | (simp only [rX4_isRow, rX4_isLet, rX4_room, rX4_refuse, rX4_did, rX4_coming, rX4_part, rX4_copy]; omega)) ?_
              exact mOk.of (x := .int (-9)) (S' := ((S).1, S.2.1, S.2.2.1, S.2.2.2.1 + nI 1, S.2.2.2.2)) (by simp only [mp_copy, dAt_s (k := 4) hr3 (by first | decide | omega), dAt_s (k := 4) hr16 (by first | decide | omega), if_neg q37, if_neg q42, if_neg q47, if_pos q52, cSet_s] <;> first | rfl | simp_all) rfl (by omega) c79c (by omega) (mRows.fr (n' := n) HR (by omega) (fun j j1 j2 j3 => (c79d (j) (by omega)).trans (c46d (j) (by omega))) (by omega)) (fun j hj => (c79d j (by omega)).trans (c46d j (by omega)))
          · have q47 := (mI_eq0 (by omega)).mp q47
            exact absurd q47 (by decide)
abbrev rX4_join : Room := { frames := 2, cells := 3, slots := 1920, locals := 46 }
def mp_join (S : cS) (row : Int32) (other : Int32) : Nat × Value × cS := dAt S 4 row fun r => dAt S 4 other fun q => if rroom r < (S.1 r).length + (S.1 q).length then (0, .int (-9), cRef S) else (0, .int (nI ((S.1 r).length + (S.1 q).length)), cAct (cGiv (cSet S r (jnL (S.1 r) (xk (S.1 q)) (comF r q (S.1 q).length (S.1 q) S.2.1) (S.1 q).length)) (comG r q (S.1 q).length S.2.1)))
set_option maxRecDepth 100000 in
set_option maxHeartbeats 2000000 in
theorem kX4_join {l : Launch} (hl : l.stackTraces = false) {h : mH} {n : Nat} {S : cS} {th : Int32} {row : Int32} {other : Int32} (C : mAt h n S th) : mC l mX4_join rX4_join [.ref 27, .int row, .int other] h n (mOk (mp_join S row other) (.int (nI 0)) h n) (mNX) := by
  obtain ⟨C0, h39, kx, sx, HR⟩ := id C
  obtain ⟨⟨gk_1, G28_1, GK_1⟩, ⟨gs_1, G33_1, GS_1⟩, AK_1, AS_1, NE_1, NQ_1, LE_1⟩ := id HR
  refine mm_enter hl (by decide +kernel) rfl rfl rfl (Nat.le_of_ble_eq_true rfl) ?_
  show mT _ _ _ _ 0 [.ref 27, .int row, .int other] [] _ _ 0 0
  rcases hq2 : inN 4 row with _ | r3
  · refine mt_aload_n dX4_join_0 rfl rfl ?_
    refine mt_iload_n dX4_join_1 rfl ?_
    refine mt_callS (N := mX4_isRow) (Rc := rX4_isRow) (As := [.int row]) (st := [.ref 27]) dX4_join_2 (kX4_isRow hl) sX4_isRow mw_1083 rfl (Nat.le_of_ble_eq_true rfl) ⟨⟨Nat.le_of_ble_eq_true rfl, Nat.le_of_ble_eq_true rfl⟩, (by first | exact Nat.le_of_ble_eq_true rfl | (simp only [rX4_isRow, rX4_isLet, rX4_room, rX4_refuse, rX4_coming, rX4_both, rX4_did, rX4_join]; omega)), (by first | exact Nat.le_of_ble_eq_true rfl | (simp only [rX4_isRow, rX4_isLet, rX4_room, rX4_refuse, rX4_coming, rX4_both, rX4_did, rX4_join]; omega))⟩ (fun v4 h5 n6 c7 => ?_) (fun _ _ _ hx => hx.elim)
    obtain ⟨c7a, c7b, c7c⟩ := c7
    rw [show (inN 4 row).isSome = false from by rw [hq2]; rfl] at c7a
    rw [c7a, c7b, c7c]
    show mT _ _ _ _ 5 [.ref 27, .int row, .int other] [.int (nI 0), .ref 27] _ _ _ _
    refine mt_if_eq dX4_join_5 (tgt := 19) rfl (fun q8 => ?_) (fun q8 => ?_)
    · have q8 := (mI_eq0 (by omega)).mp q8
      refine mt_iconst dX4_join_19 (v := nI 0) rfl ?_
      refine mt_iconst dX4_join_20 (v := nI 1) rfl ?_
      refine mt_callV (N := mX4_isLet) (Rc := rX4_isLet) (As := [.int (nI 0), .int (nI 1)]) (st := []) dX4_join_21 (kX4_isLet (t := false) (f := true) hl C0) sX4_isLet mw_1092 mKX4 rfl C0 rfl (Nat.le_of_ble_eq_true rfl) ⟨⟨Nat.le_of_ble_eq_true rfl, Nat.le_of_ble_eq_true rfl⟩, (by first | exact Nat.le_of_ble_eq_true rfl | (simp only [rX4_isRow, rX4_isLet, rX4_room, rX4_refuse, rX4_coming, rX4_both, rX4_did, rX4_join]; omega)), (by first | exact Nat.le_of_ble_eq_true rfl | (simp only [rX4_isRow, rX4_isLet, rX4_room, rX4_refuse, rX4_coming, rX4_both, rX4_did, rX4_join]; omega))⟩ (fun v9 h10 n11 c12 => ?_) (fun _ _ _ hx => hx.elim)
      obtain ⟨c12a, c12b, c12c, c12d⟩ := c12
      rw [c12a, c12b]
      show mT _ _ _ _ 24 [.ref 27, .int row, .int other] [.int (nI 0)] _ _ _ _
      refine mt_if_ne dX4_join_24 (tgt := 29) rfl (fun q13 => ?_) (fun q13 => ?_)
      · have q13 := (not_congr (mI_eq0 (by omega))).mp q13
        exact absurd q13 (by decide)
      · have q13 := (mI_eq0 (by omega)).mp q13
        refine mt_iconst dX4_join_27 (v := nI 0) rfl ?_
        refine mt_ireturn dX4_join_28 rfl rfl (by first | exact Nat.le_of_ble_eq_true rfl | (simp only [rX4_isRow, rX4_isLet, rX4_room, rX4_refuse, rX4_coming, rX4_both, rX4_did, rX4_join]; omega)) (by first | exact Nat.le_of_ble_eq_true rfl | (simp only [rX4_isRow, rX4_isLet, rX4_room, rX4_refuse, rX4_coming, rX4_both, rX4_did, rX4_join]; omega)) ?_
        exact mOk.no (k := 1) (S' := S) (by simp only [mp_join, dAt_n (k := 4) (x := row) hq2, if_pos q8, if_pos q13]) (by decide) rfl (by omega) c12c (by omega) (mRows.fr (n' := n) HR (by omega) (fun j j1 j2 j3 => c12d (j) (by omega)) (by omega)) (fun j hj => c12d j (by omega))
    · have q8 := (not_congr (mI_eq0 (by omega))).mp q8
      exact absurd q8 (by decide)
  · obtain ⟨hr3, rfl⟩ := inN_of hq2 (by first | decide | omega)
    obtain ⟨⟨ka_14, kb_14, kc_14, kd_14⟩, kf_14, ke_14, kg_14⟩ := AK_1 r3 hr3
    obtain ⟨⟨sa_14, sb_14, sc_14, sd_14⟩, sf_14, se_14, sg_14⟩ := AS_1 r3 hr3
    have kn_14 := NE_1 r3 r3 hr3 hr3
    have kl_14 := LE_1 r3 hr3
    have km_14 := rroom_le (r := r3)
    rcases hq15 : inN 4 other with _ | r16
    · refine mt_aload_n dX4_join_0 rfl rfl ?_
      refine mt_iload_n dX4_join_1 rfl ?_
      refine mt_callS (N := mX4_isRow) (Rc := rX4_isRow) (As := [.int (nI r3)]) (st := [.ref 27]) dX4_join_2 (kX4_isRow hl) sX4_isRow mw_1083 rfl (Nat.le_of_ble_eq_true rfl) ⟨⟨Nat.le_of_ble_eq_true rfl, Nat.le_of_ble_eq_true rfl⟩, (by first | exact Nat.le_of_ble_eq_true rfl | (simp only [rX4_isRow, rX4_isLet, rX4_room, rX4_refuse, rX4_coming, rX4_both, rX4_did, rX4_join]; omega)), (by first | exact Nat.le_of_ble_eq_true rfl | (simp only [rX4_isRow, rX4_isLet, rX4_room, rX4_refuse, rX4_coming, rX4_both, rX4_did, rX4_join]; omega))⟩ (fun v17 h18 n19 c20 => ?_) (fun _ _ _ hx => hx.elim)
      obtain ⟨c20a, c20b, c20c⟩ := c20
      rw [show (inN 4 (nI r3)).isSome = true from by rw [inN_some hr3 (by decide)]; rfl] at c20a
      rw [c20a, c20b, c20c]
      show mT _ _ _ _ 5 [.ref 27, .int (nI r3), .int other] [.int (nI 1), .ref 27] _ _ _ _
      refine mt_if_eq dX4_join_5 (tgt := 19) rfl (fun q21 => ?_) (fun q21 => ?_)
      · have q21 := (mI_eq0 (by omega)).mp q21
        exact absurd q21 (by decide)
      · have q21 := (not_congr (mI_eq0 (by omega))).mp q21
        refine mt_iload_n dX4_join_8 rfl ?_
        refine mt_callS (N := mX4_isRow) (Rc := rX4_isRow) (As := [.int other]) (st := [.ref 27]) dX4_join_9 (kX4_isRow hl) sX4_isRow mw_1083 rfl (Nat.le_of_ble_eq_true rfl) ⟨⟨Nat.le_of_ble_eq_true rfl, Nat.le_of_ble_eq_true rfl⟩, (by first | exact Nat.le_of_ble_eq_true rfl | (simp only [rX4_isRow, rX4_isLet, rX4_room, rX4_refuse, rX4_coming, rX4_both, rX4_did, rX4_join]; omega)), (by first | exact Nat.le_of_ble_eq_true rfl | (simp only [rX4_isRow, rX4_isLet, rX4_room, rX4_refuse, rX4_coming, rX4_both, rX4_did, rX4_join]; omega))⟩ (fun v22 h23 n24 c25 => ?_) (fun _ _ _ hx => hx.elim)
        obtain ⟨c25a, c25b, c25c⟩ := c25
        rw [show (inN 4 other).isSome = false from by rw [hq15]; rfl] at c25a
        rw [c25a, c25b, c25c]
        show mT _ _ _ _ 12 [.ref 27, .int (nI r3), .int other] [.int (nI 0), .ref 27] _ _ _ _
        refine mt_if_eq dX4_join_12 (tgt := 19) rfl (fun q26 => ?_) (fun q26 => ?_)
        · have q26 := (mI_eq0 (by omega)).mp q26
          refine mt_iconst dX4_join_19 (v := nI 0) rfl ?_
          refine mt_iconst dX4_join_20 (v := nI 1) rfl ?_
          refine mt_callV (N := mX4_isLet) (Rc := rX4_isLet) (As := [.int (nI 0), .int (nI 1)]) (st := []) dX4_join_21 (kX4_isLet (t := false) (f := true) hl C0) sX4_isLet mw_1092 mKX4 rfl C0 rfl (Nat.le_of_ble_eq_true rfl) ⟨⟨Nat.le_of_ble_eq_true rfl, Nat.le_of_ble_eq_true rfl⟩, (by first | exact Nat.le_of_ble_eq_true rfl | (simp only [rX4_isRow, rX4_isLet, rX4_room, rX4_refuse, rX4_coming, rX4_both, rX4_did, rX4_join]; omega)), (by first | exact Nat.le_of_ble_eq_true rfl | (simp only [rX4_isRow, rX4_isLet, rX4_room, rX4_refuse, rX4_coming, rX4_both, rX4_did, rX4_join]; omega))⟩ (fun v27 h28 n29 c30 => ?_) (fun _ _ _ hx => hx.elim)
          obtain ⟨c30a, c30b, c30c, c30d⟩ := c30
          rw [c30a, c30b]
          show mT _ _ _ _ 24 [.ref 27, .int (nI r3), .int other] [.int (nI 0)] _ _ _ _
          refine mt_if_ne dX4_join_24 (tgt := 29) rfl (fun q31 => ?_) (fun q31 => ?_)
          · have q31 := (not_congr (mI_eq0 (by omega))).mp q31
            exact absurd q31 (by decide)
          · have q31 := (mI_eq0 (by omega)).mp q31
            refine mt_iconst dX4_join_27 (v := nI 0) rfl ?_
            refine mt_ireturn dX4_join_28 rfl rfl (by first | exact Nat.le_of_ble_eq_true rfl | (simp only [rX4_isRow, rX4_isLet, rX4_room, rX4_refuse, rX4_coming, rX4_both, rX4_did, rX4_join]; omega)) (by first | exact Nat.le_of_ble_eq_true rfl | (simp only [rX4_isRow, rX4_isLet, rX4_room, rX4_refuse, rX4_coming, rX4_both, rX4_did, rX4_join]; omega)) ?_
            exact mOk.no (k := 1) (S' := S) (by simp only [mp_join, dAt_s (k := 4) hr3 (by first | decide | omega), dAt_n (k := 4) (x := other) hq15, if_neg q21, if_pos q26, if_pos q31]) (by decide) rfl (by omega) c30c (by omega) (mRows.fr (n' := n) HR (by omega) (fun j j1 j2 j3 => c30d (j) (by omega)) (by omega)) (fun j hj => c30d j (by omega))
        · have q26 := (not_congr (mI_eq0 (by omega))).mp q26
          exact absurd q26 (by decide)
    · obtain ⟨hr16, rfl⟩ := inN_of hq15 (by first | decide | omega)
      obtain ⟨⟨ka_32, kb_32, kc_32, kd_32⟩, kf_32, ke_32, kg_32⟩ := AK_1 r16 hr16
      obtain ⟨⟨sa_32, sb_32, sc_32, sd_32⟩, sf_32, se_32, sg_32⟩ := AS_1 r16 hr16
      have kn_32 := NE_1 r16 r16 hr16 hr16
      have kl_32 := LE_1 r16 hr16
      have km_32 := rroom_le (r := r16)
      refine mt_aload_n dX4_join_0 rfl rfl ?_
      refine mt_iload_n dX4_join_1 rfl ?_
      refine mt_callS (N := mX4_isRow) (Rc := rX4_isRow) (As := [.int (nI r3)]) (st := [.ref 27]) dX4_join_2 (kX4_isRow hl) sX4_isRow mw_1083 rfl (Nat.le_of_ble_eq_true rfl) ⟨⟨Nat.le_of_ble_eq_true rfl, Nat.le_of_ble_eq_true rfl⟩, (by first | exact Nat.le_of_ble_eq_true rfl | (simp only [rX4_isRow, rX4_isLet, rX4_room, rX4_refuse, rX4_coming, rX4_both, rX4_did, rX4_join]; omega)), (by first | exact Nat.le_of_ble_eq_true rfl | (simp only [rX4_isRow, rX4_isLet, rX4_room, rX4_refuse, rX4_coming, rX4_both, rX4_did, rX4_join]; omega))⟩ (fun v33 h34 n35 c36 => ?_) (fun _ _ _ hx => hx.elim)
      obtain ⟨c36a, c36b, c36c⟩ := c36
      rw [show (inN 4 (nI r3)).isSome = true from by rw [inN_some hr3 (by decide)]; rfl] at c36a
      rw [c36a, c36b, c36c]
      show mT _ _ _ _ 5 [.ref 27, .int (nI r3), .int (nI r16)] [.int (nI 1), .ref 27] _ _ _ _
      refine mt_if_eq dX4_join_5 (tgt := 19) rfl (fun q37 => ?_) (fun q37 => ?_)
      · have q37 := (mI_eq0 (by omega)).mp q37
        exact absurd q37 (by decide)
      · have q37 := (not_congr (mI_eq0 (by omega))).mp q37
        refine mt_iload_n dX4_join_8 rfl ?_
        refine mt_callS (N := mX4_isRow) (Rc := rX4_isRow) (As := [.int (nI r16)]) (st := [.ref 27]) dX4_join_9 (kX4_isRow hl) sX4_isRow mw_1083 rfl (Nat.le_of_ble_eq_true rfl) ⟨⟨Nat.le_of_ble_eq_true rfl, Nat.le_of_ble_eq_true rfl⟩, (by first | exact Nat.le_of_ble_eq_true rfl | (simp only [rX4_isRow, rX4_isLet, rX4_room, rX4_refuse, rX4_coming, rX4_both, rX4_did, rX4_join]; omega)), (by first | exact Nat.le_of_ble_eq_true rfl | (simp only [rX4_isRow, rX4_isLet, rX4_room, rX4_refuse, rX4_coming, rX4_both, rX4_did, rX4_join]; omega))⟩ (fun v38 h39 n40 c41 => ?_) (fun _ _ _ hx => hx.elim)
        obtain ⟨c41a, c41b, c41c⟩ := c41
        rw [show (inN 4 (nI r16)).isSome = true from by rw [inN_some hr16 (by decide)]; rfl] at c41a
        rw [c41a, c41b, c41c]
        show mT _ _ _ _ 12 [.ref 27, .int (nI r3), .int (nI r16)] [.int (nI 1), .ref 27] _ _ _ _
        refine mt_if_eq dX4_join_12 (tgt := 19) rfl (fun q42 => ?_) (fun q42 => ?_)
        · have q42 := (mI_eq0 (by omega)).mp q42
          exact absurd q42 (by decide)
        · have q42 := (not_congr (mI_eq0 (by omega))).mp q42
          refine mt_iconst dX4_join_15 (v := nI 1) rfl ?_
          refine mt_goto dX4_join_16 (tgt := 20) rfl ?_
          refine mt_iconst dX4_join_20 (v := nI 1) rfl ?_
          refine mt_callV (N := mX4_isLet) (Rc := rX4_isLet) (As := [.int (nI 1), .int (nI 1)]) (st := []) dX4_join_21 (kX4_isLet (t := true) (f := true) hl C0) sX4_isLet mw_1092 mKX4 rfl C0 rfl (Nat.le_of_ble_eq_true rfl) ⟨⟨Nat.le_of_ble_eq_true rfl, Nat.le_of_ble_eq_true rfl⟩, (by first | exact Nat.le_of_ble_eq_true rfl | (simp only [rX4_isRow, rX4_isLet, rX4_room, rX4_refuse, rX4_coming, rX4_both, rX4_did, rX4_join]; omega)), (by first | exact Nat.le_of_ble_eq_true rfl | (simp only [rX4_isRow, rX4_isLet, rX4_room, rX4_refuse, rX4_coming, rX4_both, rX4_did, rX4_join]; omega))⟩ (fun v43 h44 n45 c46 => ?_) (fun _ _ _ hx => hx.elim)
          obtain ⟨c46a, c46b, c46c, c46d⟩ := c46
          rw [c46a, c46b]
          show mT _ _ _ _ 24 [.ref 27, .int (nI r3), .int (nI r16)] [.int (nI 1)] _ _ _ _
          refine mt_if_ne dX4_join_24 (tgt := 29) rfl (fun q47 => ?_) (fun q47 => ?_)
          · have q47 := (not_congr (mI_eq0 (by omega))).mp q47
            refine mt_aload_n dX4_join_29 rfl rfl ?_
            refine mt_getfield mKX4 (i := 0) (by decide) mw_1053 dX4_join_30 c46c rfl ?_
            refine mt_iload_n dX4_join_33 rfl ?_
            refine mp_aaload dX4_join_34 ((c46d (28) (by omega)).trans G28_1) (fun _ => rfl) rfl rfl (by omega) (by omega) (v := .ref (kx r3)) (by rw [GK_1 _ (by omega)]; rfl) ?_
            refine mt_alen dX4_join_35 ((c46d (kx r3) (by omega)).trans ke_14) (by decide) ?_
            refine mt_aload_n dX4_join_36 rfl rfl ?_
            refine mt_getfield mKX4 (i := 0) (by decide) mw_1053 dX4_join_37 c46c rfl ?_
            refine mt_iload_n dX4_join_40 rfl ?_
            refine mp_aaload dX4_join_41 ((c46d (28) (by omega)).trans G28_1) (fun _ => rfl) rfl rfl (by omega) (by omega) (v := .ref (kx r16)) (by rw [GK_1 _ (by omega)]; rfl) ?_
            refine mt_alen dX4_join_42 ((c46d (kx r16) (by omega)).trans ke_32) (by decide) ?_
            refine mp_iadd dX4_join_43 (v := nI (((S.1 r3).length) + ((S.1 r16).length))) (nI_add _ _) ?_
            refine mt_iload_n dX4_join_44 rfl ?_
            refine mt_callS (N := mX4_room) (Rc := rX4_room) (As := [.int (nI r3)]) (st := [.int (nI (((S.1 r3).length) + ((S.1 r16).length)))]) dX4_join_45 (kX4_room hl (by omega)) sX4_room mw_1089 rfl (Nat.le_of_ble_eq_true rfl) ⟨⟨Nat.le_of_ble_eq_true rfl, Nat.le_of_ble_eq_true rfl⟩, (by first | exact Nat.le_of_ble_eq_true rfl | (simp only [rX4_isRow, rX4_isLet, rX4_room, rX4_refuse, rX4_coming, rX4_both, rX4_did, rX4_join]; omega)), (by first | exact Nat.le_of_ble_eq_true rfl | (simp only [rX4_isRow, rX4_isLet, rX4_room, rX4_refuse, rX4_coming, rX4_both, rX4_did, rX4_join]; omega))⟩ (fun v48 h49 n50 c51 => ?_) (fun _ _ _ hx => hx.elim)
            obtain ⟨c51a, c51b, c51c⟩ := c51
            rw [c51a, c51b, c51c]
            show mT _ _ _ _ 48 [.ref 27, .int (nI r3), .int (nI r16)] [.int (nI (rroom r3)), .int (nI (((S.1 r3).length) + ((S.1 r16).length)))] _ _ _ _
            refine mt_icmp_le dX4_join_48 (tgt := 56) rfl (fun q52 => ?_) (fun q52 => ?_)
            · have q52 := Int32.not_lt.mpr q52
              have q52 := (not_congr (nI_ltI (by omega) (by omega))).mp q52
              refine mt_aload_n dX4_join_56 rfl rfl ?_
              refine mt_getfield mKX4 (i := 1) (by decide) mw_1054 dX4_join_57 c46c rfl ?_
              refine mt_iload_n dX4_join_60 rfl ?_
              refine mt_aload_n dX4_join_61 rfl rfl ?_
              refine mt_getfield mKX4 (i := 1) (by decide) mw_1054 dX4_join_62 c46c rfl ?_
              refine mt_iload_n dX4_join_65 rfl ?_
              refine mp_aaload dX4_join_66 ((c46d (33) (by omega)).trans G33_1) (fun _ => rfl) rfl rfl (by omega) (by omega) (v := .ref (sx r3)) (by rw [GS_1 _ (by omega)]; rfl) ?_
              refine mt_aload_n dX4_join_67 rfl rfl ?_
              refine mt_iload_n dX4_join_68 rfl ?_
              refine mt_iload_n dX4_join_69 rfl ?_
              refine mt_callV (N := mX4_coming) (Rc := rX4_coming) (As := [.int (nI r16), .int (nI r3)]) (st := [.ref (sx r3), .int (nI r3), .ref 33]) dX4_join_70 (kX4_coming hl c46c (mRows.fr (n' := n) HR (by omega) (fun j j1 j2 j3 => c46d (j) (by omega)) (by omega)) (by omega) (by omega) (by omega)) sX4_coming mw_1199 mKX4 rfl c46c rfl (Nat.le_of_ble_eq_true rfl) ⟨⟨Nat.le_of_ble_eq_true rfl, Nat.le_of_ble_eq_true rfl⟩, (by first | exact Nat.le_of_ble_eq_true rfl | (simp only [rX4_isRow, rX4_isLet, rX4_room, rX4_refuse, rX4_coming, rX4_both, rX4_did, rX4_join]; omega)), (by first | exact Nat.le_of_ble_eq_true rfl | (simp only [rX4_isRow, rX4_isLet, rX4_room, rX4_refuse, rX4_coming, rX4_both, rX4_did, rX4_join]; omega))⟩ (fun v53 h54 n55 c56 => ?_) (fun _ _ _ hx => hx.elim)
              obtain ⟨c56a, c56b, ⟨c56g, c56c, c56d⟩, c56f, c56e⟩ := c56
              rw [c56a, c56b]
              have c56k : ∀ j, j ≠ n ∧ j ≠ 27 → h54 j = h44 j := fun j hj => c56e j hj.1 hj.2
              show mT _ _ _ _ 73 [.ref 27, .int (nI r3), .int (nI r16)] [.ref n, .ref (sx r3), .int (nI r3), .ref 33] _ _ _ _
              refine mt_callS (N := mX4_both) (Rc := rX4_both) (As := [.ref (sx r3), .ref n]) (st := [.int (nI r3), .ref 33]) dX4_join_73 (kX4_both hl ((c56k (sx r3) (by omega)).trans ((c46d (sx r3) (by omega)).trans se_14)) c56c (by omega) (by omega) (by omega)) sX4_both mw_1119 rfl (Nat.le_of_ble_eq_true rfl) ⟨⟨Nat.le_of_ble_eq_true rfl, Nat.le_of_ble_eq_true rfl⟩, (by first | exact Nat.le_of_ble_eq_true rfl | (simp only [rX4_isRow, rX4_isLet, rX4_room, rX4_refuse, rX4_coming, rX4_both, rX4_did, rX4_join]; omega)), (by first | exact Nat.le_of_ble_eq_true rfl | (simp only [rX4_isRow, rX4_isLet, rX4_room, rX4_refuse, rX4_coming, rX4_both, rX4_did, rX4_join]; omega))⟩ (fun v57 h58 n59 c60 => ?_) (fun _ _ _ hx => hx.elim)
              obtain ⟨c60a, c60b, ⟨c60g, c60c, c60d⟩, c60e⟩ := c60
              rw [c60a, c60b]
              show mT _ _ _ _ 76 [.ref 27, .int (nI r3), .int (nI r16)] [.ref (n + 1), .int (nI r3), .ref 33] _ _ _ _
              refine mp_aastoreA dX4_join_76 ((c60e (33) (by omega)).trans ((c56k (33) (by omega)).trans ((c46d (33) (by omega)).trans G33_1))) c60c rfl (by omega) (by omega) (fun h61 e62 f63 => ?_)
              refine mt_aload_n dX4_join_77 rfl rfl ?_
              refine mt_getfield mKX4 (i := 0) (by decide) mw_1053 dX4_join_78 ((f63 (27) (by omega)).trans ((c60e (27) (by omega)).trans c56f)) rfl ?_
              refine mt_iload_n dX4_join_81 rfl ?_
              refine mt_aload_n dX4_join_82 rfl rfl ?_
              refine mt_getfield mKX4 (i := 0) (by decide) mw_1053 dX4_join_83 ((f63 (27) (by omega)).trans ((c60e (27) (by omega)).trans c56f)) rfl ?_
              refine mt_iload_n dX4_join_86 rfl ?_
              refine mp_aaload dX4_join_87 ((f63 (28) (by omega)).trans ((c60e (28) (by omega)).trans ((c56k (28) (by omega)).trans ((c46d (28) (by omega)).trans G28_1)))) (fun _ => rfl) rfl rfl (by omega) (by omega) (v := .ref (kx r3)) (by rw [GK_1 _ (by omega)]; rfl) ?_
              refine mt_aload_n dX4_join_88 rfl rfl ?_
              refine mt_getfield mKX4 (i := 0) (by decide) mw_1053 dX4_join_89 ((f63 (27) (by omega)).trans ((c60e (27) (by omega)).trans c56f)) rfl ?_
              refine mt_iload_n dX4_join_92 rfl ?_
              refine mp_aaload dX4_join_93 ((f63 (28) (by omega)).trans ((c60e (28) (by omega)).trans ((c56k (28) (by omega)).trans ((c46d (28) (by omega)).trans G28_1)))) (fun _ => rfl) rfl rfl (by omega) (by omega) (v := .ref (kx r16)) (by rw [GK_1 _ (by omega)]; rfl) ?_
              refine mt_callS (N := mX4_both) (Rc := rX4_both) (As := [.ref (kx r3), .ref (kx r16)]) (st := [.int (nI r3), .ref 28]) dX4_join_94 (kX4_both hl ((f63 (kx r3) (by omega)).trans ((c60e (kx r3) (by omega)).trans ((c56k (kx r3) (by omega)).trans ((c46d (kx r3) (by omega)).trans ke_14)))) ((f63 (kx r16) (by omega)).trans ((c60e (kx r16) (by omega)).trans ((c56k (kx r16) (by omega)).trans ((c46d (kx r16) (by omega)).trans ke_32)))) (by omega) (by omega) (by omega)) sX4_both mw_1119 rfl (Nat.le_of_ble_eq_true rfl) ⟨⟨Nat.le_of_ble_eq_true rfl, Nat.le_of_ble_eq_true rfl⟩, (by first | exact Nat.le_of_ble_eq_true rfl | (simp only [rX4_isRow, rX4_isLet, rX4_room, rX4_refuse, rX4_coming, rX4_both, rX4_did, rX4_join]; omega)), (by first | exact Nat.le_of_ble_eq_true rfl | (simp only [rX4_isRow, rX4_isLet, rX4_room, rX4_refuse, rX4_coming, rX4_both, rX4_did, rX4_join]; omega))⟩ (fun v64 h65 n66 c67 => ?_) (fun _ _ _ hx => hx.elim)
              obtain ⟨c67a, c67b, ⟨c67g, c67c, c67d⟩, c67e⟩ := c67
              rw [c67a, c67b]
              show mT _ _ _ _ 97 [.ref 27, .int (nI r3), .int (nI r16)] [.ref (n + 2), .int (nI r3), .ref 28] _ _ _ _
              refine mp_aastoreA dX4_join_97 ((c67e (28) (by omega)).trans ((f63 (28) (by omega)).trans ((c60e (28) (by omega)).trans ((c56k (28) (by omega)).trans ((c46d (28) (by omega)).trans G28_1))))) c67c rfl (by omega) (by omega) (fun h68 e69 f70 => ?_)
              refine mt_aload_n dX4_join_98 rfl rfl ?_
              refine mt_aload_n dX4_join_99 rfl rfl ?_
              refine mt_getfield mKX4 (i := 0) (by decide) mw_1053 dX4_join_100 ((f70 (27) (by omega)).trans ((c67e (27) (by omega)).trans ((f63 (27) (by omega)).trans ((c60e (27) (by omega)).trans c56f)))) rfl ?_
              refine mt_iload_n dX4_join_103 rfl ?_
              refine mp_aaload dX4_join_104 e69 (fun _ => rfl) rfl rfl (by omega) (by omega) (v := .ref (n + 2)) va_rf_up ?_
              refine mt_alen dX4_join_105 ((f70 (n + 2) (by omega)).trans c67c) (by decide) ?_
              refine mt_callV (N := mX4_did) (Rc := rX4_did) (As := [.int (nI ((S.1 r3).length + (S.1 r16).length))]) (st := []) dX4_join_106 (kX4_did hl ((f70 (27) (by omega)).trans ((c67e (27) (by omega)).trans ((f63 (27) (by omega)).trans ((c60e (27) (by omega)).trans c56f))))) sX4_did mw_1105 mKX4 rfl ((f70 (27) (by omega)).trans ((c67e (27) (by omega)).trans ((f63 (27) (by omega)).trans ((c60e (27) (by omega)).trans c56f)))) rfl (Nat.le_of_ble_eq_true rfl) ⟨⟨Nat.le_of_ble_eq_true rfl, Nat.le_of_ble_eq_true rfl⟩, (by first | exact Nat.le_of_ble_eq_true rfl | (simp only [rX4_isRow, rX4_isLet, rX4_room, rX4_refuse, rX4_coming, rX4_both, rX4_did, rX4_join]; omega)), (by first | exact Nat.le_of_ble_eq_true rfl | (simp only [rX4_isRow, rX4_isLet, rX4_room, rX4_refuse, rX4_coming, rX4_both, rX4_did, rX4_join]; omega))⟩ (fun v71 h72 n73 c74 => ?_) (fun _ _ _ hx => hx.elim)
              obtain ⟨c74a, c74b, c74c, c74d⟩ := c74
              rw [c74a, c74b]
              show mT _ _ _ _ 109 [.ref 27, .int (nI r3), .int (nI r16)] [.int (nI ((S.1 r3).length + (S.1 r16).length))] _ _ _ _
              refine mt_ireturn dX4_join_109 rfl rfl (by first | exact Nat.le_of_ble_eq_true rfl | (simp only [rX4_isRow, rX4_isLet, rX4_room, rX4_refuse, rX4_coming, rX4_both, rX4_did, rX4_join]; omega)) (by first | exact Nat.le_of_ble_eq_true rfl | (simp only [rX4_isRow, rX4_isLet, rX4_room, rX4_refuse, rX4_coming, rX4_both, rX4_did, rX4_join]; omega)) ?_
              exact mOk.ofE (x := .int (nI ((S.1 r3).length + (S.1 r16).length))) (S' := ((cSet S r3 (jnL (S.1 r3) (xk (S.1 r16)) (comF r3 r16 (S.1 r16).length (S.1 r16) S.2.1) (S.1 r16).length)).1, comG r3 r16 (S.1 r16).length S.2.1, S.2.2.1 + nI 1, S.2.2.2.1, S.2.2.2.2)) (by simp only [mp_join, dAt_s (k := 4) hr3 (by first | decide | omega), dAt_s (k := 4) hr16 (by first | decide | omega), if_neg q37, if_neg q42, if_neg q47, if_neg q52, cSet_s] <;> first | rfl | simp_all) rfl (by omega) c74c (by omega) (mRows.upz (ys := jnL (S.1 r3) (xk (S.1 r16)) (comF r3 r16 (S.1 r16).length (S.1 r16) S.2.1) (S.1 r16).length) HR jnL_len (by omega) (by omega) (by omega) ⟨by omega, by omega⟩ ⟨by omega, by omega⟩ (by omega) ((c74d (28) (by omega)).trans e69) (fun q hq hne => (if_neg hne).trans (GK_1 q hq)) ((c74d (33) (by omega)).trans ((f70 (33) (by omega)).trans ((c67e (33) (by omega)).trans e62))) (fun q hq hne => (if_neg hne).trans (GS_1 q hq)) ((c74d (n + 2) (by omega)).trans ((f70 (n + 2) (by omega)).trans c67c)) ((c74d (n + 1) (by omega)).trans ((f70 (n + 1) (by omega)).trans ((c67e (n + 1) (by omega)).trans ((f63 (n + 1) (by omega)).trans c60c)))) (jn_k c67d kg_14 kg_32) (jn_t c60d sg_14 c56d) (by omega) (fun j j1 j2 j3 j4 => (c74d (j) (by omega)).trans ((f70 (j) (by omega)).trans ((c67e (j) (by omega)).trans ((f63 (j) (by omega)).trans ((c60e (j) (by omega)).trans ((c56k (j) (by omega)).trans (c46d (j) (by omega))))))))) (fun j hj => (c74d j (by omega)).trans ((f70 j (by omega)).trans ((c67e j (by omega)).trans ((f63 j (by omega)).trans ((c60e j (by omega)).trans ((c56k j (by omega)).trans (c46d j (by omega))))))))
            · have q52 := Int32.not_le.mp q52
              have q52 := (nI_ltI (by omega) (by omega)).mp q52
              refine mt_aload_n dX4_join_51 rfl rfl ?_
              refine mt_callV (N := mX4_refuse) (Rc := rX4_refuse) (As := []) (st := []) dX4_join_52 (kX4_refuse hl c46c) sX4_refuse mw_1115 mKX4 rfl c46c rfl (Nat.le_of_ble_eq_true rfl) ⟨⟨Nat.le_of_ble_eq_true rfl, Nat.le_of_ble_eq_true rfl⟩, (by first | exact Nat.le_of_ble_eq_true rfl | (simp only [rX4_isRow, rX4_isLet, rX4_room, rX4_refuse, rX4_coming, rX4_both, rX4_did, rX4_join]; omega)), (by first | exact Nat.le_of_ble_eq_true rfl | (simp only [rX4_isRow, rX4_isLet, rX4_room, rX4_refuse, rX4_coming, rX4_both, rX4_did, rX4_join]; omega))⟩ (fun v75 h76 n77 c78 => ?_) (fun _ _ _ hx => hx.elim)
              obtain ⟨c78a, c78b, c78c, c78d⟩ := c78
              rw [c78a, c78b]
              show mT _ _ _ _ 55 [.ref 27, .int (nI r3), .int (nI r16)] [.int (-9)] _ _ _ _
              refine mt_ireturn dX4_join_55 rfl rfl (by first | exact Nat.le_of_ble_eq_true rfl | (simp only [rX4_isRow, rX4_isLet, rX4_room, rX4_refuse, rX4_coming, rX4_both, rX4_did, rX4_join]; omega)) (by first | exact Nat.le_of_ble_eq_true rfl | (simp only [rX4_isRow, rX4_isLet, rX4_room, rX4_refuse, rX4_coming, rX4_both, rX4_did, rX4_join]; omega)) ?_
              exact mOk.of (x := .int (-9)) (S' := ((S).1, S.2.1, S.2.2.1, S.2.2.2.1 + nI 1, S.2.2.2.2)) (by simp only [mp_join, dAt_s (k := 4) hr3 (by first | decide | omega), dAt_s (k := 4) hr16 (by first | decide | omega), if_neg q37, if_neg q42, if_neg q47, if_pos q52, cSet_s] <;> first | rfl | simp_all) rfl (by omega) c78c (by omega) (mRows.fr (n' := n) HR (by omega) (fun j j1 j2 j3 => (c78d (j) (by omega)).trans (c46d (j) (by omega))) (by omega)) (fun j hj => (c78d j (by omega)).trans (c46d j (by omega)))
          · have q47 := (mI_eq0 (by omega)).mp q47
            exact absurd q47 (by decide)
set_option maxRecDepth 100000 in
set_option maxHeartbeats 2000000 in
theorem tX4_sort_44 {l : Launch} {R : Room} {K : mK} {cc sc : Nat} {h : mH} {n : Nat} {S : cS} {kx sx : Nat → Nat} {g ac rf kn th : Int32} {r : Nat} {A B m : Nat} {xs : List mIt} {f1 f2 : Nat → Int32} {r9 : Int32} (C0 : h 27 = .inr (.inr (6, [.ref 28, .ref 33, .int g, .int ac, .int rf, .int kn, .int th]))) (HR : mRows h n S kx sx) (h39 : 39 ≤ n) (hr : r < 4) (eA : h A = .inl (0, m, f1)) (eB : h B = .inl (0, m, f2)) (hA : ∀ i, i < m → f1 i = xk xs i) (hB : ∀ i, i < m → f2 i = xt xs i) (hm : (S.1 r).length = m) (kk0 : ∀ (acc : Int32) (i : Nat), (acc = r9) → mT l mX4_sort R K 99 [.ref 27, .int (nI r), .ref A, .ref B, .int acc, .int (nI i)] [] h n cc sc) : ∀ (N0 : Nat) (i : Nat) (acc : Int32), (m - i) < N0 → (mlp (srS xs (S.1 r)) (m - i) i acc = r9) → (i ≤ m) → mT l mX4_sort R K 44 [.ref 27, .int (nI r), .ref A, .ref B, .int acc, .int (nI i)] [] h n cc sc := by
  intro N0
  induction N0 with
  | zero => intro i acc hm; exact absurd hm (Nat.not_lt_zero _)
  | succ N0 ih =>
    intro i acc hm hr9 hi
    obtain ⟨⟨gk_1, G28_1, GK_1⟩, ⟨gs_1, G33_1, GS_1⟩, AK_1, AS_1, NE_1, NQ_1, LE_1⟩ := id HR
    obtain ⟨⟨ka_2, kb_2, kc_2, kd_2⟩, kf_2, ke_2, kg_2⟩ := AK_1 r hr
    obtain ⟨⟨sa_2, sb_2, sc_2, sd_2⟩, sf_2, se_2, sg_2⟩ := AS_1 r hr
    have kn_2 := NE_1 r r hr hr
    have kl_2 := LE_1 r hr
    have km_2 := rroom_le (r := r)
    refine mt_iload dX4_sort_44 rfl ?_
    refine mt_aload_n dX4_sort_46 rfl rfl ?_
    refine mt_alen dX4_sort_47 eA (by decide) ?_
    refine mt_icmp_ge dX4_sort_48 (tgt := 99) rfl (fun q3 => ?_) (fun q3 => ?_)
    · have q3 := Int32.not_lt.mpr q3
      have q3 := (not_congr (nI_ltI (by omega) (by omega))).mp q3
      exact kk0 acc i ((mlp_end (f := srS xs (S.1 r)) (by omega)).symm.trans hr9)
    · have q3 := Int32.not_le.mp q3
      have q3 := (nI_ltI (by omega) (by omega)).mp q3
      refine mt_iload dX4_sort_51 rfl ?_
      refine mt_aload_n dX4_sort_53 rfl rfl ?_
      refine mt_iload dX4_sort_54 rfl ?_
      refine mp_iaload dX4_sort_56 eA rfl (by omega) (by omega) (v := xk xs i) (hA _ (by omega)) ?_
      refine mt_aload_n dX4_sort_57 rfl rfl ?_
      refine mt_getfield mKX4 (i := 0) (by decide) mw_1053 dX4_sort_58 C0 rfl ?_
      refine mt_iload_n dX4_sort_61 rfl ?_
      refine mp_aaload dX4_sort_62 G28_1 (fun _ => rfl) rfl rfl (by omega) (by omega) (v := .ref (kx r)) (by rw [GK_1 _ (by omega)]; rfl) ?_
      refine mt_iload dX4_sort_63 rfl ?_
      refine mp_iaload dX4_sort_65 ke_2 rfl (by omega) (by omega) (v := xk (S.1 r) i) (kg_2 _ (by omega)) ?_
      refine mt_icmp_ne dX4_sort_66 (tgt := 89) rfl (fun q4 => ?_) (fun q4 => ?_)
      · refine mt_iconst dX4_sort_89 (v := nI 1) rfl ?_
        refine mp_iadd dX4_sort_90 (v := acc + (nI 1)) rfl ?_
        refine mp_istore dX4_sort_91 (ls' := [.ref 27, .int (nI r), .ref A, .ref B, .int (acc + (nI 1)), .int (nI i)]) rfl (by decide) rfl ?_
        refine mp_iinc dX4_sort_93 rfl (v := nI (i + 1)) mI_inc (ls' := [.ref 27, .int (nI r), .ref A, .ref B, .int (acc + (nI 1)), .int (nI (i + 1))]) rfl (by decide) rfl ?_
        refine mt_goto dX4_sort_96 (tgt := 44) rfl ?_
        exact ih (i + 1) (acc + (nI 1)) (by omega) ((mlp_go (f := srS xs (S.1 r)) (by omega) (by simp [srS, q4])).symm.trans hr9) (by omega)
      · refine mt_aload_n dX4_sort_69 rfl rfl ?_
        refine mt_iload dX4_sort_70 rfl ?_
        refine mp_iaload dX4_sort_72 eB rfl (by omega) (by omega) (v := xt xs i) (hB _ (by omega)) ?_
        refine mt_aload_n dX4_sort_73 rfl rfl ?_
        refine mt_getfield mKX4 (i := 1) (by decide) mw_1054 dX4_sort_74 C0 rfl ?_
        refine mt_iload_n dX4_sort_77 rfl ?_
        refine mp_aaload dX4_sort_78 G33_1 (fun _ => rfl) rfl rfl (by omega) (by omega) (v := .ref (sx r)) (by rw [GS_1 _ (by omega)]; rfl) ?_
        refine mt_iload dX4_sort_79 rfl ?_
        refine mp_iaload dX4_sort_81 se_2 rfl (by omega) (by omega) (v := xt (S.1 r) i) (sg_2 _ (by omega)) ?_
        refine mt_icmp_ne dX4_sort_82 (tgt := 89) rfl (fun q5 => ?_) (fun q5 => ?_)
        · refine mt_iconst dX4_sort_89 (v := nI 1) rfl ?_
          refine mp_iadd dX4_sort_90 (v := acc + (nI 1)) rfl ?_
          refine mp_istore dX4_sort_91 (ls' := [.ref 27, .int (nI r), .ref A, .ref B, .int (acc + (nI 1)), .int (nI i)]) rfl (by decide) rfl ?_
          refine mp_iinc dX4_sort_93 rfl (v := nI (i + 1)) mI_inc (ls' := [.ref 27, .int (nI r), .ref A, .ref B, .int (acc + (nI 1)), .int (nI (i + 1))]) rfl (by decide) rfl ?_
          refine mt_goto dX4_sort_96 (tgt := 44) rfl ?_
          exact ih (i + 1) (acc + (nI 1)) (by omega) ((mlp_go (f := srS xs (S.1 r)) (by omega) (by simp [srS, q4, q5])).symm.trans hr9) (by omega)
        · refine mt_iconst dX4_sort_85 (v := nI 0) rfl ?_
          refine mt_goto dX4_sort_86 (tgt := 90) rfl ?_
          refine mp_iadd dX4_sort_90 (v := acc + (nI 0)) rfl ?_
          refine mp_istore dX4_sort_91 (ls' := [.ref 27, .int (nI r), .ref A, .ref B, .int (acc + (nI 0)), .int (nI i)]) rfl (by decide) rfl ?_
          refine mp_iinc dX4_sort_93 rfl (v := nI (i + 1)) mI_inc (ls' := [.ref 27, .int (nI r), .ref A, .ref B, .int (acc + (nI 0)), .int (nI (i + 1))]) rfl (by decide) rfl ?_
          refine mt_goto dX4_sort_96 (tgt := 44) rfl ?_
          exact ih (i + 1) (acc + (nI 0)) (by omega) ((mlp_go (f := srS xs (S.1 r)) (by omega) (by simp [srS, q4, q5])).symm.trans hr9) (by omega)
abbrev rX4_sort : Room := { frames := 2, cells := 3, slots := 960, locals := 47 }
def mp_sort (S : cS) (row : Int32) : Nat × Value × cS := dAt S 4 row fun r => (0, .int (mlp (srS (S.1 r) (chF (S.1 r) (scat (S.1 r)) (S.1 r).length)) ((S.1 r).length - 0) 0 (nI 0)), cAct (cSet S r (chF (S.1 r) (scat (S.1 r)) (S.1 r).length)))
set_option maxRecDepth 100000 in
set_option maxHeartbeats 2000000 in
theorem kX4_sort {l : Launch} (hl : l.stackTraces = false) {h : mH} {n : Nat} {S : cS} {th : Int32} {row : Int32} (C : mAt h n S th) : mC l mX4_sort rX4_sort [.ref 27, .int row] h n (mOk (mp_sort S row) (.int (nI 0)) h n) (mNX) := by
  obtain ⟨C0, h39, kx, sx, HR⟩ := id C
  obtain ⟨⟨gk_1, G28_1, GK_1⟩, ⟨gs_1, G33_1, GS_1⟩, AK_1, AS_1, NE_1, NQ_1, LE_1⟩ := id HR
  refine mm_enter hl (by decide +kernel) rfl rfl rfl (Nat.le_of_ble_eq_true rfl) ?_
  show mT _ _ _ _ 0 [.ref 27, .int row, .double 0, .double 0, .double 0, .double 0] [] _ _ 0 0
  rcases hq2 : inN 4 row with _ | r3
  · refine mt_aload_n dX4_sort_0 rfl rfl ?_
    refine mt_iload_n dX4_sort_1 rfl ?_
    refine mt_callS (N := mX4_isRow) (Rc := rX4_isRow) (As := [.int row]) (st := [.ref 27]) dX4_sort_2 (kX4_isRow hl) sX4_isRow mw_1083 rfl (Nat.le_of_ble_eq_true rfl) ⟨⟨Nat.le_of_ble_eq_true rfl, Nat.le_of_ble_eq_true rfl⟩, (by first | exact Nat.le_of_ble_eq_true rfl | (simp only [rX4_isRow, rX4_isLet, rX4_sorted, rX4_choose, rX4_did, rX4_sort]; omega)), (by first | exact Nat.le_of_ble_eq_true rfl | (simp only [rX4_isRow, rX4_isLet, rX4_sorted, rX4_choose, rX4_did, rX4_sort]; omega))⟩ (fun v4 h5 n6 c7 => ?_) (fun _ _ _ hx => hx.elim)
    obtain ⟨c7a, c7b, c7c⟩ := c7
    rw [show (inN 4 row).isSome = false from by rw [hq2]; rfl] at c7a
    rw [c7a, c7b, c7c]
    show mT _ _ _ _ 5 [.ref 27, .int row, .double 0, .double 0, .double 0, .double 0] [.int (nI 0), .ref 27] _ _ _ _
    refine mt_iconst dX4_sort_5 (v := nI 1) rfl ?_
    refine mt_callV (N := mX4_isLet) (Rc := rX4_isLet) (As := [.int (nI 0), .int (nI 1)]) (st := []) dX4_sort_6 (kX4_isLet (t := false) (f := true) hl C0) sX4_isLet mw_1092 mKX4 rfl C0 rfl (Nat.le_of_ble_eq_true rfl) ⟨⟨Nat.le_of_ble_eq_true rfl, Nat.le_of_ble_eq_true rfl⟩, (by first | exact Nat.le_of_ble_eq_true rfl | (simp only [rX4_isRow, rX4_isLet, rX4_sorted, rX4_choose, rX4_did, rX4_sort]; omega)), (by first | exact Nat.le_of_ble_eq_true rfl | (simp only [rX4_isRow, rX4_isLet, rX4_sorted, rX4_choose, rX4_did, rX4_sort]; omega))⟩ (fun v8 h9 n10 c11 => ?_) (fun _ _ _ hx => hx.elim)
    obtain ⟨c11a, c11b, c11c, c11d⟩ := c11
    rw [c11a, c11b]
    show mT _ _ _ _ 9 [.ref 27, .int row, .double 0, .double 0, .double 0, .double 0] [.int (nI 0)] _ _ _ _
    refine mt_if_ne dX4_sort_9 (tgt := 14) rfl (fun q12 => ?_) (fun q12 => ?_)
    · have q12 := (not_congr (mI_eq0 (by omega))).mp q12
      exact absurd q12 (by decide)
    · have q12 := (mI_eq0 (by omega)).mp q12
      refine mt_iconst dX4_sort_12 (v := nI 0) rfl ?_
      refine mt_ireturn dX4_sort_13 rfl rfl (by first | exact Nat.le_of_ble_eq_true rfl | (simp only [rX4_isRow, rX4_isLet, rX4_sorted, rX4_choose, rX4_did, rX4_sort]; omega)) (by first | exact Nat.le_of_ble_eq_true rfl | (simp only [rX4_isRow, rX4_isLet, rX4_sorted, rX4_choose, rX4_did, rX4_sort]; omega)) ?_
      exact mOk.no (k := 1) (S' := S) (by simp only [mp_sort, dAt_n (k := 4) (x := row) hq2, if_pos q12]) (by decide) rfl (by omega) c11c (by omega) (mRows.fr (n' := n) HR (by omega) (fun j j1 j2 j3 => c11d (j) (by omega)) (by omega)) (fun j hj => c11d j (by omega))
  · obtain ⟨hr3, rfl⟩ := inN_of hq2 (by first | decide | omega)
    obtain ⟨⟨ka_13, kb_13, kc_13, kd_13⟩, kf_13, ke_13, kg_13⟩ := AK_1 r3 hr3
    obtain ⟨⟨sa_13, sb_13, sc_13, sd_13⟩, sf_13, se_13, sg_13⟩ := AS_1 r3 hr3
    have kn_13 := NE_1 r3 r3 hr3 hr3
    have kl_13 := LE_1 r3 hr3
    have km_13 := rroom_le (r := r3)
    refine mt_aload_n dX4_sort_0 rfl rfl ?_
    refine mt_iload_n dX4_sort_1 rfl ?_
    refine mt_callS (N := mX4_isRow) (Rc := rX4_isRow) (As := [.int (nI r3)]) (st := [.ref 27]) dX4_sort_2 (kX4_isRow hl) sX4_isRow mw_1083 rfl (Nat.le_of_ble_eq_true rfl) ⟨⟨Nat.le_of_ble_eq_true rfl, Nat.le_of_ble_eq_true rfl⟩, (by first | exact Nat.le_of_ble_eq_true rfl | (simp only [rX4_isRow, rX4_isLet, rX4_sorted, rX4_choose, rX4_did, rX4_sort]; omega)), (by first | exact Nat.le_of_ble_eq_true rfl | (simp only [rX4_isRow, rX4_isLet, rX4_sorted, rX4_choose, rX4_did, rX4_sort]; omega))⟩ (fun v14 h15 n16 c17 => ?_) (fun _ _ _ hx => hx.elim)
    obtain ⟨c17a, c17b, c17c⟩ := c17
    rw [show (inN 4 (nI r3)).isSome = true from by rw [inN_some hr3 (by decide)]; rfl] at c17a
    rw [c17a, c17b, c17c]
    show mT _ _ _ _ 5 [.ref 27, .int (nI r3), .double 0, .double 0, .double 0, .double 0] [.int (nI 1), .ref 27] _ _ _ _
    refine mt_iconst dX4_sort_5 (v := nI 1) rfl ?_
    refine mt_callV (N := mX4_isLet) (Rc := rX4_isLet) (As := [.int (nI 1), .int (nI 1)]) (st := []) dX4_sort_6 (kX4_isLet (t := true) (f := true) hl C0) sX4_isLet mw_1092 mKX4 rfl C0 rfl (Nat.le_of_ble_eq_true rfl) ⟨⟨Nat.le_of_ble_eq_true rfl, Nat.le_of_ble_eq_true rfl⟩, (by first | exact Nat.le_of_ble_eq_true rfl | (simp only [rX4_isRow, rX4_isLet, rX4_sorted, rX4_choose, rX4_did, rX4_sort]; omega)), (by first | exact Nat.le_of_ble_eq_true rfl | (simp only [rX4_isRow, rX4_isLet, rX4_sorted, rX4_choose, rX4_did, rX4_sort]; omega))⟩ (fun v18 h19 n20 c21 => ?_) (fun _ _ _ hx => hx.elim)
    obtain ⟨c21a, c21b, c21c, c21d⟩ := c21
    rw [c21a, c21b]
    show mT _ _ _ _ 9 [.ref 27, .int (nI r3), .double 0, .double 0, .double 0, .double 0] [.int (nI 1)] _ _ _ _
    refine mt_if_ne dX4_sort_9 (tgt := 14) rfl (fun q22 => ?_) (fun q22 => ?_)
    · have q22 := (not_congr (mI_eq0 (by omega))).mp q22
      refine mt_aload_n dX4_sort_14 rfl rfl ?_
      refine mt_getfield mKX4 (i := 0) (by decide) mw_1053 dX4_sort_15 c21c rfl ?_
      refine mt_iload_n dX4_sort_18 rfl ?_
      refine mp_aaload dX4_sort_19 ((c21d (28) (by omega)).trans G28_1) (fun _ => rfl) rfl rfl (by omega) (by omega) (v := .ref (kx r3)) (by rw [GK_1 _ (by omega)]; rfl) ?_
      refine mp_astore_n dX4_sort_20 (ls' := [.ref 27, .int (nI r3), .ref (kx r3), .double 0, .double 0, .double 0]) rfl rfl (by decide) rfl ?_
      refine mt_aload_n dX4_sort_21 rfl rfl ?_
      refine mt_getfield mKX4 (i := 1) (by decide) mw_1054 dX4_sort_22 c21c rfl ?_
      refine mt_iload_n dX4_sort_25 rfl ?_
      refine mp_aaload dX4_sort_26 ((c21d (33) (by omega)).trans G33_1) (fun _ => rfl) rfl rfl (by omega) (by omega) (v := .ref (sx r3)) (by rw [GS_1 _ (by omega)]; rfl) ?_
      refine mp_astore_n dX4_sort_27 (ls' := [.ref 27, .int (nI r3), .ref (kx r3), .ref (sx r3), .double 0, .double 0]) rfl rfl (by decide) rfl ?_
      refine mt_aload_n dX4_sort_28 rfl rfl ?_
      refine mt_iload_n dX4_sort_29 rfl ?_
      refine mt_aload_n dX4_sort_30 rfl rfl ?_
      refine mt_iload_n dX4_sort_31 rfl ?_
      refine mt_callV (N := mX4_sorted) (Rc := rX4_sorted) (As := [.int (nI r3)]) (st := [.int (nI r3), .ref 27]) dX4_sort_32 (kX4_sorted hl c21c (mRows.fr (n' := n) HR (by omega) (fun j j1 j2 j3 => c21d (j) (by omega)) (by omega)) (by omega) (by omega)) sX4_sorted mw_1187 mKX4 rfl c21c rfl (Nat.le_of_ble_eq_true rfl) ⟨⟨Nat.le_of_ble_eq_true rfl, Nat.le_of_ble_eq_true rfl⟩, (by first | exact Nat.le_of_ble_eq_true rfl | (simp only [rX4_isRow, rX4_isLet, rX4_sorted, rX4_choose, rX4_did, rX4_sort]; omega)), (by first | exact Nat.le_of_ble_eq_true rfl | (simp only [rX4_isRow, rX4_isLet, rX4_sorted, rX4_choose, rX4_did, rX4_sort]; omega))⟩ (fun v23 h24 n25 c26 => ?_) (fun _ _ _ hx => hx.elim)
      obtain ⟨c26a, c26b, ⟨c26g, c26c, c26d⟩, c26e⟩ := c26
      rw [c26a, c26b]
      show mT _ _ _ _ 35 [.ref 27, .int (nI r3), .ref (kx r3), .ref (sx r3), .double 0, .double 0] [.ref n, .int (nI r3), .ref 27] _ _ _ _
      refine mt_callV (N := mX4_choose) (Rc := rX4_choose) (As := [.int (nI r3), .ref n]) (st := []) dX4_sort_35 (kX4_choose (pl := scat (S.1 r3)) hl ((c26e (27) (by omega)).trans c21c) (mRows.fr (n' := n + 1) HR (by omega) (fun j j1 j2 j3 => (c26e (j) (by omega)).trans (c21d (j) (by omega))) (by omega)) (by omega) (by omega) c26c (fun i hi => ⟨c26d i hi, scat_lt (by omega) i⟩) (by omega) (by omega)) sX4_choose mw_1134 mKX4 rfl ((c26e (27) (by omega)).trans c21c) rfl (Nat.le_of_ble_eq_true rfl) ⟨⟨Nat.le_of_ble_eq_true rfl, Nat.le_of_ble_eq_true rfl⟩, (by first | exact Nat.le_of_ble_eq_true rfl | (simp only [rX4_isRow, rX4_isLet, rX4_sorted, rX4_choose, rX4_did, rX4_sort]; omega)), (by first | exact Nat.le_of_ble_eq_true rfl | (simp only [rX4_isRow, rX4_isLet, rX4_sorted, rX4_choose, rX4_did, rX4_sort]; omega))⟩ (fun v27 h28 n29 c30 => ?_) (fun _ _ _ hx => hx.elim)
      obtain ⟨c30a, c30b, c30c, c30d, c30e⟩ := c30
      rw [c30a, c30b]
      have c30k : ∀ j, j < n + 1 ∧ j ≠ 28 ∧ j ≠ 33 → h28 j = h24 j := fun j hj => c30e j hj.1 hj.2.1 hj.2.2
      obtain ⟨Sz31, eSz31⟩ : ∃ s9 : cS, s9 = cSet S r3 (chF (S.1 r3) (scat (S.1 r3)) ((S.1 r3).length)) := ⟨_, rfl⟩
      obtain ⟨kxz31, sxz31, HRz31⟩ : ∃ k9 s9, mRows h28 (n + 3) Sz31 k9 s9 := by rw [eSz31]; exact ⟨_, _, c30c⟩
      have eLz31 : (Sz31.1 r3).length = (S.1 r3).length := by rw [eSz31, cSet_s]; exact chF_l
      obtain ⟨⟨gk_32, G28_32, GK_32⟩, ⟨gs_32, G33_32, GS_32⟩, AK_32, AS_32, NE_32, NQ_32, LE_32⟩ := id HRz31
      obtain ⟨⟨ka_33, kb_33, kc_33, kd_33⟩, kf_33, ke_33, kg_33⟩ := AK_32 r3 (by omega)
      obtain ⟨⟨sa_33, sb_33, sc_33, sd_33⟩, sf_33, se_33, sg_33⟩ := AS_32 r3 (by omega)
      have kn_33 := NE_32 r3 r3 (by omega) (by omega)
      have kl_33 := LE_32 r3 (by omega)
      have km_33 := rroom_le (r := r3)
      show mT _ _ _ _ 38 [.ref 27, .int (nI r3), .ref (kx r3), .ref (sx r3), .double 0, .double 0] [] _ _ _ _
      refine mt_iconst dX4_sort_38 (v := nI 0) rfl ?_
      refine mp_istore dX4_sort_39 (ls' := [.ref 27, .int (nI r3), .ref (kx r3), .ref (sx r3), .int (nI 0), .double 0]) rfl (by decide) rfl ?_
      refine mt_iconst dX4_sort_41 (v := nI 0) rfl ?_
      refine mp_istore dX4_sort_42 (ls' := [.ref 27, .int (nI r3), .ref (kx r3), .ref (sx r3), .int (nI 0), .int (nI 0)]) rfl (by decide) rfl ?_
      refine tX4_sort_44 c30d HRz31 (by omega) hr3 ((c30k (kx r3) (by omega)).trans ((c26e (kx r3) (by omega)).trans ((c21d (kx r3) (by omega)).trans ke_13))) ((c30k (sx r3) (by omega)).trans ((c26e (sx r3) (by omega)).trans ((c21d (sx r3) (by omega)).trans se_13))) kg_13 sg_13 eLz31 (fun acc_34 i_35 z36 => ?_) _ 0 (nI 0) (Nat.lt_succ_self _) rfl (by omega)
      refine mt_aload_n dX4_sort_99 rfl rfl ?_
      refine mt_iload dX4_sort_100 rfl ?_
      refine mt_callV (N := mX4_did) (Rc := rX4_did) (As := [.int acc_34]) (st := []) dX4_sort_102 (kX4_did hl c30d) sX4_did mw_1105 mKX4 rfl c30d rfl (Nat.le_of_ble_eq_true rfl) ⟨⟨Nat.le_of_ble_eq_true rfl, Nat.le_of_ble_eq_true rfl⟩, (by first | exact Nat.le_of_ble_eq_true rfl | (simp only [rX4_isRow, rX4_isLet, rX4_sorted, rX4_choose, rX4_did, rX4_sort]; omega)), (by first | exact Nat.le_of_ble_eq_true rfl | (simp only [rX4_isRow, rX4_isLet, rX4_sorted, rX4_choose, rX4_did, rX4_sort]; omega))⟩ (fun v37 h38 n39 c40 => ?_) (fun _ _ _ hx => hx.elim)
      obtain ⟨c40a, c40b, c40c, c40d⟩ := c40
      rw [c40a, c40b]
      show mT _ _ _ _ 105 [.ref 27, .int (nI r3), .ref (kx r3), .ref (sx r3), .int acc_34, .int (nI i_35)] [.int acc_34] _ _ _ _
      refine mt_ireturn dX4_sort_105 rfl rfl (by first | exact Nat.le_of_ble_eq_true rfl | (simp only [rX4_isRow, rX4_isLet, rX4_sorted, rX4_choose, rX4_did, rX4_sort]; omega)) (by first | exact Nat.le_of_ble_eq_true rfl | (simp only [rX4_isRow, rX4_isLet, rX4_sorted, rX4_choose, rX4_did, rX4_sort]; omega)) ?_
      exact mOk.of (x := .int acc_34) (S' := ((Sz31).1, S.2.1, S.2.2.1 + nI 1, S.2.2.2.1, S.2.2.2.2)) (by rw [z36, eSz31]; simp only [mp_sort, dAt_s (k := 4) hr3 (by first | decide | omega), if_neg q22, cSet_s] <;> first | rfl | simp_all) rfl (by omega) c40c (by omega) (mRows.fr (n' := n + 3) HRz31 (by omega) (fun j j1 j2 j3 => c40d (j) (by omega)) (by omega)) (fun j hj => (c40d j (by omega)).trans ((c30k j (by omega)).trans ((c26e j (by omega)).trans (c21d j (by omega)))))
    · have q22 := (mI_eq0 (by omega)).mp q22
      exact absurd q22 (by decide)
