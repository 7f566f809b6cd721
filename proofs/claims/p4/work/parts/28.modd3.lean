/-! ===== the reference: more questions ===== -/
def mp_same (S : cS) (row : Int32) (other : Int32) : Nat × Value × cS := dAt S 4 row fun r => dAt S 4 other fun q => (0, .int (mb (decide ((S.1 r).length = (S.1 q).length) && decide (mlp (unlF (xk (S.1 r)) (xk (S.1 q))) ((S.1 r).length - 0) 0 (nI 0) = 0))), S)
abbrev rX4_same : Room := { frames := 2, cells := 0, slots := 0, locals := 42 }
set_option maxRecDepth 100000 in
set_option maxHeartbeats 2000000 in
theorem kX4_same {l : Launch} (hl : l.stackTraces = false) {h : mH} {n : Nat} {S : cS} {th : Int32} {row : Int32} {other : Int32} (C : mAt h n S th) : mC l mX4_same rX4_same [.ref 27, .int row, .int other] h n (mOkq (mp_same S row other) (.int (nI 0)) h n) (mNX) := by
  obtain ⟨C0, h39, kx, sx, HR⟩ := id C
  obtain ⟨⟨gk_1, G28_1, GK_1⟩, ⟨gs_1, G33_1, GS_1⟩, AK_1, AS_1, NE_1, NQ_1, LE_1⟩ := id HR
  refine mm_enter hl (by decide +kernel) rfl rfl rfl (Nat.le_of_ble_eq_true rfl) ?_
  show mT _ _ _ _ 0 [.ref 27, .int row, .int other] [] _ _ 0 0
  rcases hq2 : inN 4 row with _ | r3
  · refine mt_aload_n dX4_same_0 rfl rfl ?_
    refine mt_iload_n dX4_same_1 rfl ?_
    refine mt_callS (N := mX4_isRow) (Rc := rX4_isRow) (As := [.int row]) (st := [.ref 27]) dX4_same_2 (kX4_isRow hl) sX4_isRow mw_1083 rfl (Nat.le_of_ble_eq_true rfl) ⟨⟨Nat.le_of_ble_eq_true rfl, Nat.le_of_ble_eq_true rfl⟩, Nat.le_of_ble_eq_true rfl, Nat.le_of_ble_eq_true rfl⟩ (fun v4 h5 n6 c7 => ?_) (fun _ _ _ hx => hx.elim)
    obtain ⟨c7a, c7b, c7c⟩ := c7
    rw [show (inN 4 row).isSome = false from by rw [hq2]; rfl] at c7a
    rw [c7a, c7b, c7c]
    show mT _ _ _ _ 5 [.ref 27, .int row, .int other] [.int (nI 0), .ref 27] _ _ _ _
    refine mt_if_eq dX4_same_5 (tgt := 19) rfl (fun q8 => ?_) (fun q8 => ?_)
    · have q8 := (mI_eq0 (by omega)).mp q8
      refine mt_iconst dX4_same_19 (v := nI 0) rfl ?_
      refine mt_iconst dX4_same_20 (v := nI 1) rfl ?_
      refine mt_callV (N := mX4_isLet) (Rc := rX4_isLet) (As := [.int (nI 0), .int (nI 1)]) (st := []) dX4_same_21 (kX4_isLet (t := false) (f := true) hl C0) sX4_isLet mw_1092 mKX4 rfl C0 rfl (Nat.le_of_ble_eq_true rfl) ⟨⟨Nat.le_of_ble_eq_true rfl, Nat.le_of_ble_eq_true rfl⟩, Nat.le_of_ble_eq_true rfl, Nat.le_of_ble_eq_true rfl⟩ (fun v9 h10 n11 c12 => ?_) (fun _ _ _ hx => hx.elim)
      obtain ⟨c12a, c12b, c12c, c12d⟩ := c12
      rw [c12a, c12b]
      show mT _ _ _ _ 24 [.ref 27, .int row, .int other] [.int (nI 0)] _ _ _ _
      refine mt_if_eq dX4_same_24 (tgt := 66) rfl (fun q13 => ?_) (fun q13 => ?_)
      · have q13 := (mI_eq0 (by omega)).mp q13
        refine mt_iconst dX4_same_66 (v := nI 0) rfl ?_
        refine mt_ireturn dX4_same_67 rfl rfl (Nat.le_of_ble_eq_true rfl) (Nat.le_of_ble_eq_true rfl) ?_
        exact mOkq.no (k := 1) (S' := S) (by simp only [mp_same, dAt_n (k := 4) (x := row) hq2, if_pos q8, if_pos q13]) (by decide) rfl (by omega) c12c (by omega) (mRows.fr (n' := n) HR (by omega) (fun j j1 j2 j3 => c12d (j) (by omega)) (by omega)) (fun j hj => c12d j (by omega))
      · have q13 := (not_congr (mI_eq0 (by omega))).mp q13
        exact absurd q13 (by decide)
    · have q8 := (not_congr (mI_eq0 (by omega))).mp q8
      exact absurd q8 (by decide)
  · obtain ⟨hr3, rfl⟩ := inN_of hq2 (by first | decide | omega)
    obtain ⟨⟨ka_14, kb_14, kc_14, kd_14⟩, kf_14, ke_14, kg_14⟩ := AK_1 r3 hr3
    obtain ⟨⟨sa_14, sb_14, sc_14, sd_14⟩, sf_14, se_14, sg_14⟩ := AS_1 r3 hr3
    have kn_14 := NE_1 r3 r3 hr3 hr3
    have kl_14 := LE_1 r3 hr3
    have km_14 := rroom_le (r := r3)
    rcases hq15 : inN 4 other with _ | r16
    · refine mt_aload_n dX4_same_0 rfl rfl ?_
      refine mt_iload_n dX4_same_1 rfl ?_
      refine mt_callS (N := mX4_isRow) (Rc := rX4_isRow) (As := [.int (nI r3)]) (st := [.ref 27]) dX4_same_2 (kX4_isRow hl) sX4_isRow mw_1083 rfl (Nat.le_of_ble_eq_true rfl) ⟨⟨Nat.le_of_ble_eq_true rfl, Nat.le_of_ble_eq_true rfl⟩, Nat.le_of_ble_eq_true rfl, Nat.le_of_ble_eq_true rfl⟩ (fun v17 h18 n19 c20 => ?_) (fun _ _ _ hx => hx.elim)
      obtain ⟨c20a, c20b, c20c⟩ := c20
      rw [show (inN 4 (nI r3)).isSome = true from by rw [inN_some hr3 (by decide)]; rfl] at c20a
      rw [c20a, c20b, c20c]
      show mT _ _ _ _ 5 [.ref 27, .int (nI r3), .int other] [.int (nI 1), .ref 27] _ _ _ _
      refine mt_if_eq dX4_same_5 (tgt := 19) rfl (fun q21 => ?_) (fun q21 => ?_)
      · have q21 := (mI_eq0 (by omega)).mp q21
        exact absurd q21 (by decide)
      · have q21 := (not_congr (mI_eq0 (by omega))).mp q21
        refine mt_iload_n dX4_same_8 rfl ?_
        refine mt_callS (N := mX4_isRow) (Rc := rX4_isRow) (As := [.int other]) (st := [.ref 27]) dX4_same_9 (kX4_isRow hl) sX4_isRow mw_1083 rfl (Nat.le_of_ble_eq_true rfl) ⟨⟨Nat.le_of_ble_eq_true rfl, Nat.le_of_ble_eq_true rfl⟩, Nat.le_of_ble_eq_true rfl, Nat.le_of_ble_eq_true rfl⟩ (fun v22 h23 n24 c25 => ?_) (fun _ _ _ hx => hx.elim)
        obtain ⟨c25a, c25b, c25c⟩ := c25
        rw [show (inN 4 other).isSome = false from by rw [hq15]; rfl] at c25a
        rw [c25a, c25b, c25c]
        show mT _ _ _ _ 12 [.ref 27, .int (nI r3), .int other] [.int (nI 0), .ref 27] _ _ _ _
        refine mt_if_eq dX4_same_12 (tgt := 19) rfl (fun q26 => ?_) (fun q26 => ?_)
        · have q26 := (mI_eq0 (by omega)).mp q26
          refine mt_iconst dX4_same_19 (v := nI 0) rfl ?_
          refine mt_iconst dX4_same_20 (v := nI 1) rfl ?_
          refine mt_callV (N := mX4_isLet) (Rc := rX4_isLet) (As := [.int (nI 0), .int (nI 1)]) (st := []) dX4_same_21 (kX4_isLet (t := false) (f := true) hl C0) sX4_isLet mw_1092 mKX4 rfl C0 rfl (Nat.le_of_ble_eq_true rfl) ⟨⟨Nat.le_of_ble_eq_true rfl, Nat.le_of_ble_eq_true rfl⟩, Nat.le_of_ble_eq_true rfl, Nat.le_of_ble_eq_true rfl⟩ (fun v27 h28 n29 c30 => ?_) (fun _ _ _ hx => hx.elim)
          obtain ⟨c30a, c30b, c30c, c30d⟩ := c30
          rw [c30a, c30b]
          show mT _ _ _ _ 24 [.ref 27, .int (nI r3), .int other] [.int (nI 0)] _ _ _ _
          refine mt_if_eq dX4_same_24 (tgt := 66) rfl (fun q31 => ?_) (fun q31 => ?_)
          · have q31 := (mI_eq0 (by omega)).mp q31
            refine mt_iconst dX4_same_66 (v := nI 0) rfl ?_
            refine mt_ireturn dX4_same_67 rfl rfl (Nat.le_of_ble_eq_true rfl) (Nat.le_of_ble_eq_true rfl) ?_
            exact mOkq.no (k := 1) (S' := S) (by simp only [mp_same, dAt_s (k := 4) hr3 (by first | decide | omega), dAt_n (k := 4) (x := other) hq15, if_neg q21, if_pos q26, if_pos q31]) (by decide) rfl (by omega) c30c (by omega) (mRows.fr (n' := n) HR (by omega) (fun j j1 j2 j3 => c30d (j) (by omega)) (by omega)) (fun j hj => c30d j (by omega))
          · have q31 := (not_congr (mI_eq0 (by omega))).mp q31
            exact absurd q31 (by decide)
        · have q26 := (not_congr (mI_eq0 (by omega))).mp q26
          exact absurd q26 (by decide)
    · obtain ⟨hr16, rfl⟩ := inN_of hq15 (by first | decide | omega)
      obtain ⟨⟨ka_32, kb_32, kc_32, kd_32⟩, kf_32, ke_32, kg_32⟩ := AK_1 r16 hr16
      obtain ⟨⟨sa_32, sb_32, sc_32, sd_32⟩, sf_32, se_32, sg_32⟩ := AS_1 r16 hr16
      have kn_32 := NE_1 r16 r16 hr16 hr16
      have kl_32 := LE_1 r16 hr16
      have km_32 := rroom_le (r := r16)
      refine mt_aload_n dX4_same_0 rfl rfl ?_
      refine mt_iload_n dX4_same_1 rfl ?_
      refine mt_callS (N := mX4_isRow) (Rc := rX4_isRow) (As := [.int (nI r3)]) (st := [.ref 27]) dX4_same_2 (kX4_isRow hl) sX4_isRow mw_1083 rfl (Nat.le_of_ble_eq_true rfl) ⟨⟨Nat.le_of_ble_eq_true rfl, Nat.le_of_ble_eq_true rfl⟩, Nat.le_of_ble_eq_true rfl, Nat.le_of_ble_eq_true rfl⟩ (fun v33 h34 n35 c36 => ?_) (fun _ _ _ hx => hx.elim)
      obtain ⟨c36a, c36b, c36c⟩ := c36
      rw [show (inN 4 (nI r3)).isSome = true from by rw [inN_some hr3 (by decide)]; rfl] at c36a
      rw [c36a, c36b, c36c]
      show mT _ _ _ _ 5 [.ref 27, .int (nI r3), .int (nI r16)] [.int (nI 1), .ref 27] _ _ _ _
      refine mt_if_eq dX4_same_5 (tgt := 19) rfl (fun q37 => ?_) (fun q37 => ?_)
      · have q37 := (mI_eq0 (by omega)).mp q37
        exact absurd q37 (by decide)
      · have q37 := (not_congr (mI_eq0 (by omega))).mp q37
        refine mt_iload_n dX4_same_8 rfl ?_
        refine mt_callS (N := mX4_isRow) (Rc := rX4_isRow) (As := [.int (nI r16)]) (st := [.ref 27]) dX4_same_9 (kX4_isRow hl) sX4_isRow mw_1083 rfl (Nat.le_of_ble_eq_true rfl) ⟨⟨Nat.le_of_ble_eq_true rfl, Nat.le_of_ble_eq_true rfl⟩, Nat.le_of_ble_eq_true rfl, Nat.le_of_ble_eq_true rfl⟩ (fun v38 h39 n40 c41 => ?_) (fun _ _ _ hx => hx.elim)
        obtain ⟨c41a, c41b, c41c⟩ := c41
        rw [show (inN 4 (nI r16)).isSome = true from by rw [inN_some hr16 (by decide)]; rfl] at c41a
        rw [c41a, c41b, c41c]
        show mT _ _ _ _ 12 [.ref 27, .int (nI r3), .int (nI r16)] [.int (nI 1), .ref 27] _ _ _ _
        refine mt_if_eq dX4_same_12 (tgt := 19) rfl (fun q42 => ?_) (fun q42 => ?_)
        · have q42 := (mI_eq0 (by omega)).mp q42
          exact absurd q42 (by decide)
        · have q42 := (not_congr (mI_eq0 (by omega))).mp q42
          refine mt_iconst dX4_same_15 (v := nI 1) rfl ?_
          refine mt_goto dX4_same_16 (tgt := 20) rfl ?_
          refine mt_iconst dX4_same_20 (v := nI 1) rfl ?_
          refine mt_callV (N := mX4_isLet) (Rc := rX4_isLet) (As := [.int (nI 1), .int (nI 1)]) (st := []) dX4_same_21 (kX4_isLet (t := true) (f := true) hl C0) sX4_isLet mw_1092 mKX4 rfl C0 rfl (Nat.le_of_ble_eq_true rfl) ⟨⟨Nat.le_of_ble_eq_true rfl, Nat.le_of_ble_eq_true rfl⟩, Nat.le_of_ble_eq_true rfl, Nat.le_of_ble_eq_true rfl⟩ (fun v43 h44 n45 c46 => ?_) (fun _ _ _ hx => hx.elim)
          obtain ⟨c46a, c46b, c46c, c46d⟩ := c46
          rw [c46a, c46b]
          show mT _ _ _ _ 24 [.ref 27, .int (nI r3), .int (nI r16)] [.int (nI 1)] _ _ _ _
          refine mt_if_eq dX4_same_24 (tgt := 66) rfl (fun q47 => ?_) (fun q47 => ?_)
          · have q47 := (mI_eq0 (by omega)).mp q47
            exact absurd q47 (by decide)
          · have q47 := (not_congr (mI_eq0 (by omega))).mp q47
            refine mt_aload_n dX4_same_27 rfl rfl ?_
            refine mt_getfield mKX4 (i := 0) (by decide) mw_1053 dX4_same_28 c46c rfl ?_
            refine mt_iload_n dX4_same_31 rfl ?_
            refine mp_aaload dX4_same_32 ((c46d (28) (by omega)).trans G28_1) (fun _ => rfl) rfl rfl (by omega) (by omega) (v := .ref (kx r3)) (by rw [GK_1 _ (by omega)]; rfl) ?_
            refine mt_alen dX4_same_33 ((c46d (kx r3) (by omega)).trans ke_14) (by decide) ?_
            refine mt_aload_n dX4_same_34 rfl rfl ?_
            refine mt_getfield mKX4 (i := 0) (by decide) mw_1053 dX4_same_35 c46c rfl ?_
            refine mt_iload_n dX4_same_38 rfl ?_
            refine mp_aaload dX4_same_39 ((c46d (28) (by omega)).trans G28_1) (fun _ => rfl) rfl rfl (by omega) (by omega) (v := .ref (kx r16)) (by rw [GK_1 _ (by omega)]; rfl) ?_
            refine mt_alen dX4_same_40 ((c46d (kx r16) (by omega)).trans ke_32) (by decide) ?_
            refine mt_icmp_ne dX4_same_41 (tgt := 66) rfl (fun q48 => ?_) (fun q48 => ?_)
            · have q48 := (not_congr (nI_eq (by omega) (by omega))).mp q48
              refine mt_iconst dX4_same_66 (v := nI 0) rfl ?_
              refine mt_ireturn dX4_same_67 rfl rfl (Nat.le_of_ble_eq_true rfl) (Nat.le_of_ble_eq_true rfl) ?_
              exact mOkq.of (x := .int (nI 0)) (S' := ((S).1, S.2.1, S.2.2.1, S.2.2.2.1, S.2.2.2.2)) (by simp only [mp_same, dAt_s (k := 4) hr3 (by first | decide | omega), dAt_s (k := 4) hr16 (by first | decide | omega)]; exact congrArg (a₂ := false) (fun b => ((0 : Nat), Value.int (mb b), S)) (by simp only [decide_eq_false q47, decide_eq_false q48, Bool.and_true, Bool.true_and, Bool.and_false, Bool.false_and])) rfl (by omega) c46c (by omega) (mRows.fr (n' := n) HR (by omega) (fun j j1 j2 j3 => c46d (j) (by omega)) (by omega)) (fun j hj => c46d j (by omega))
            · have q48 := (nI_eq (by omega) (by omega)).mp q48
              refine mt_aload_n dX4_same_44 rfl rfl ?_
              refine mt_getfield mKX4 (i := 0) (by decide) mw_1053 dX4_same_45 c46c rfl ?_
              refine mt_iload_n dX4_same_48 rfl ?_
              refine mp_aaload dX4_same_49 ((c46d (28) (by omega)).trans G28_1) (fun _ => rfl) rfl rfl (by omega) (by omega) (v := .ref (kx r3)) (by rw [GK_1 _ (by omega)]; rfl) ?_
              refine mt_aload_n dX4_same_50 rfl rfl ?_
              refine mt_getfield mKX4 (i := 0) (by decide) mw_1053 dX4_same_51 c46c rfl ?_
              refine mt_iload_n dX4_same_54 rfl ?_
              refine mp_aaload dX4_same_55 ((c46d (28) (by omega)).trans G28_1) (fun _ => rfl) rfl rfl (by omega) (by omega) (v := .ref (kx r16)) (by rw [GK_1 _ (by omega)]; rfl) ?_
              refine mt_callS (N := mX4_unlike) (Rc := rX4_unlike) (As := [.ref (kx r3), .ref (kx r16)]) (st := []) dX4_same_56 (kX4_unlike hl ((c46d (kx r3) (by omega)).trans ke_14) ((c46d (kx r16) (by omega)).trans ke_32) (by omega) (by omega)) sX4_unlike mw_1169 rfl (Nat.le_of_ble_eq_true rfl) ⟨⟨Nat.le_of_ble_eq_true rfl, Nat.le_of_ble_eq_true rfl⟩, Nat.le_of_ble_eq_true rfl, Nat.le_of_ble_eq_true rfl⟩ (fun v49 h50 n51 c52 => ?_) (fun _ _ _ hx => hx.elim)
              obtain ⟨c52a, c52b, c52c⟩ := c52
              have c52u : mlp (unlF kf_14 kf_32) ((S.1 r3).length - 0) 0 (nI 0) = mlp (unlF (xk (S.1 r3)) (xk (S.1 r16))) ((S.1 r3).length - 0) 0 (nI 0) := mlp_congr (fun j b j1 j2 => by unfold unlF; rw [kg_14 j (by omega), kg_32 j (by omega)])
              rw [c52u] at c52a
              rw [c52a, c52b, c52c]
              show mT _ _ _ _ 59 [.ref 27, .int (nI r3), .int (nI r16)] [.int (mlp (unlF (xk (S.1 r3)) (xk (S.1 r16))) ((S.1 r3).length - 0) 0 (nI 0))] _ _ _ _
              refine mt_if_ne dX4_same_59 (tgt := 66) rfl (fun q53 => ?_) (fun q53 => ?_)
              · refine mt_iconst dX4_same_66 (v := nI 0) rfl ?_
                refine mt_ireturn dX4_same_67 rfl rfl (Nat.le_of_ble_eq_true rfl) (Nat.le_of_ble_eq_true rfl) ?_
                exact mOkq.of (x := .int (nI 0)) (S' := ((S).1, S.2.1, S.2.2.1, S.2.2.2.1, S.2.2.2.2)) (by simp only [mp_same, dAt_s (k := 4) hr3 (by first | decide | omega), dAt_s (k := 4) hr16 (by first | decide | omega)]; exact congrArg (a₂ := false) (fun b => ((0 : Nat), Value.int (mb b), S)) (by simp only [decide_eq_true q48, decide_eq_false q53, Bool.and_true, Bool.true_and, Bool.and_false, Bool.false_and])) rfl (by omega) c46c (by omega) (mRows.fr (n' := n) HR (by omega) (fun j j1 j2 j3 => c46d (j) (by omega)) (by omega)) (fun j hj => c46d j (by omega))
              · refine mt_iconst dX4_same_62 (v := nI 1) rfl ?_
                refine mt_goto dX4_same_63 (tgt := 67) rfl ?_
                refine mt_ireturn dX4_same_67 rfl rfl (Nat.le_of_ble_eq_true rfl) (Nat.le_of_ble_eq_true rfl) ?_
                exact mOkq.of (x := .int (nI 1)) (S' := ((S).1, S.2.1, S.2.2.1, S.2.2.2.1, S.2.2.2.2)) (by simp only [mp_same, dAt_s (k := 4) hr3 (by first | decide | omega), dAt_s (k := 4) hr16 (by first | decide | omega)]; exact congrArg (a₂ := true) (fun b => ((0 : Nat), Value.int (mb b), S)) (by simp only [decide_eq_true q48, decide_eq_true q53, Bool.and_true, Bool.true_and, Bool.and_false, Bool.false_and])) rfl (by omega) c46c (by omega) (mRows.fr (n' := n) HR (by omega) (fun j j1 j2 j3 => c46d (j) (by omega)) (by omega)) (fun j hj => c46d j (by omega))
abbrev rX4_bag : Room := { frames := 2, cells := 0, slots := 0, locals := 49 }
set_option maxRecDepth 100000 in
set_option maxHeartbeats 2000000 in
theorem tX4_bag_68 {l : Launch} {K : mK} {h : mH} {n : Nat} {S : cS} {kx sx : Nat → Nat} {g ac rf kn th : Int32} {r : Nat} {q : Nat} {r9 : Bool} (hl : l.stackTraces = false) (C0 : h 27 = .inr (.inr (6, [.ref 28, .ref 33, .int g, .int ac, .int rf, .int kn, .int th]))) (HR : mRows h n S kx sx) (h39 : 39 ≤ n) (hr : r < 4) (hq : q < 4) (kk0 : ∀ (is : Bool) (i : Nat), (is = r9) → mT l mX4_bag rX4_bag K 117 [.ref 27, .int (nI r), .int (nI q), .int (mb (is)), .ref (kx r), .int (nI ((S.1 r).length)), .int (nI i), .double 0] [] h n 0 0) : ∀ (N0 : Nat) (i : Nat) (is : Bool), ((S.1 r).length - i) < N0 → (mlp (bgS (S.1 r) (S.1 q)) ((S.1 r).length - i) i is = r9) → (i ≤ (S.1 r).length) → mT l mX4_bag rX4_bag K 68 [.ref 27, .int (nI r), .int (nI q), .int (mb (is)), .ref (kx r), .int (nI ((S.1 r).length)), .int (nI i), .double 0] [] h n 0 0 := by
  intro N0
  induction N0 with
  | zero => intro i is hm; exact absurd hm (Nat.not_lt_zero _)
  | succ N0 ih =>
    intro i is hm hr9 hi
    obtain ⟨⟨gk_1, G28_1, GK_1⟩, ⟨gs_1, G33_1, GS_1⟩, AK_1, AS_1, NE_1, NQ_1, LE_1⟩ := id HR
    obtain ⟨⟨ka_2, kb_2, kc_2, kd_2⟩, kf_2, ke_2, kg_2⟩ := AK_1 r hr
    obtain ⟨⟨sa_2, sb_2, sc_2, sd_2⟩, sf_2, se_2, sg_2⟩ := AS_1 r hr
    have kn_2 := NE_1 r r hr hr
    have kl_2 := LE_1 r hr
    have km_2 := rroom_le (r := r)
    refine mt_iload dX4_bag_68 rfl ?_
    refine mt_iload dX4_bag_70 rfl ?_
    refine mt_icmp_ge dX4_bag_72 (tgt := 117) rfl (fun q3 => ?_) (fun q3 => ?_)
    · have q3 := Int32.not_lt.mpr q3
      have q3 := (not_congr (nI_ltI (by omega) (by omega))).mp q3
      exact kk0 is i ((mlp_end (f := bgS (S.1 r) (S.1 q)) (by omega)).symm.trans hr9)
    · have q3 := Int32.not_le.mp q3
      have q3 := (nI_ltI (by omega) (by omega)).mp q3
      refine mt_aload dX4_bag_75 rfl rfl ?_
      refine mt_iload dX4_bag_77 rfl ?_
      refine mp_iaload dX4_bag_79 ke_2 rfl (by omega) (by omega) (v := xk (S.1 r) i) (kg_2 _ (by omega)) ?_
      refine mp_istore dX4_bag_80 (ls' := [.ref 27, .int (nI r), .int (nI q), .int (mb (is)), .ref (kx r), .int (nI ((S.1 r).length)), .int (nI i), .int (xk (S.1 r) i)]) rfl (by decide) rfl ?_
      refine mt_iload_n dX4_bag_82 rfl ?_
      refine mt_if_eq dX4_bag_83 (tgt := 109) rfl (fun q4 => ?_) (fun q4 => ?_)
      · have q4 : is = false := mb_0.mp q4
        refine mt_iconst dX4_bag_109 (v := nI 0) rfl ?_
        refine mp_istore_n dX4_bag_110 (ls' := [.ref 27, .int (nI r), .int (nI q), .int (nI 0), .ref (kx r), .int (nI ((S.1 r).length)), .int (nI i), .int (xk (S.1 r) i)]) rfl (by decide) rfl ?_
        refine mp_iinc dX4_bag_111 rfl (v := nI (i + 1)) mI_inc (ls' := [.ref 27, .int (nI r), .int (nI q), .int (nI 0), .ref (kx r), .int (nI ((S.1 r).length)), .int (nI (i + 1)), .int (xk (S.1 r) i)]) rfl (by decide) rfl ?_
        refine mt_goto dX4_bag_114 (tgt := 68) rfl ?_
        refine mt_drop 7 (ls' := [.ref 27, .int (nI r), .int (nI q), .int (nI 0), .ref (kx r), .int (nI ((S.1 r).length)), .int (nI (i + 1)), .double 0]) rfl ?_
        exact ih (i + 1) false (by omega) ((mlp_go (f := bgS (S.1 r) (S.1 q)) (by omega) (by simp only [bgS, q4] <;> rfl)).symm.trans hr9) (by omega)
      · have q4 : is = true := mb_1.mp q4
        refine mt_aload_n dX4_bag_86 rfl rfl ?_
        refine mt_iload_n dX4_bag_87 rfl ?_
        refine mt_iload dX4_bag_88 rfl ?_
        refine mt_iconst dX4_bag_90 (v := nI 0) rfl ?_
        refine mt_callV (N := mX4_often) (Rc := rX4_often) (As := [.int (nI r), .int (xk (S.1 r) i), .int (nI 0)]) (st := []) dX4_bag_91 (kX4_often hl C0 HR (by omega)) sX4_often mw_1299 mKX4 rfl C0 rfl (Nat.le_of_ble_eq_true rfl) ⟨⟨Nat.le_of_ble_eq_true rfl, Nat.le_of_ble_eq_true rfl⟩, Nat.le_of_ble_eq_true rfl, Nat.le_of_ble_eq_true rfl⟩ (fun v5 h6 n7 c8 => ?_) (fun _ _ _ hx => hx.elim)
        obtain ⟨c8a, c8b, c8c⟩ := c8
        rw [c8a, c8b, c8c]
        show mT _ _ _ _ 94 [.ref 27, .int (nI r), .int (nI q), .int (mb (is)), .ref (kx r), .int (nI ((S.1 r).length)), .int (nI i), .int (xk (S.1 r) i)] [.int (mq_often (S.1 r) (xk (S.1 r) i) (nI 0))] _ _ _ _
        refine mt_aload_n dX4_bag_94 rfl rfl ?_
        refine mt_iload_n dX4_bag_95 rfl ?_
        refine mt_iload dX4_bag_96 rfl ?_
        refine mt_iconst dX4_bag_98 (v := nI 0) rfl ?_
        refine mt_callV (N := mX4_often) (Rc := rX4_often) (As := [.int (nI q), .int (xk (S.1 r) i), .int (nI 0)]) (st := [.int (mq_often (S.1 r) (xk (S.1 r) i) (nI 0))]) dX4_bag_99 (kX4_often hl C0 HR (by omega)) sX4_often mw_1299 mKX4 rfl C0 rfl (Nat.le_of_ble_eq_true rfl) ⟨⟨Nat.le_of_ble_eq_true rfl, Nat.le_of_ble_eq_true rfl⟩, Nat.le_of_ble_eq_true rfl, Nat.le_of_ble_eq_true rfl⟩ (fun v9 h10 n11 c12 => ?_) (fun _ _ _ hx => hx.elim)
        obtain ⟨c12a, c12b, c12c⟩ := c12
        rw [c12a, c12b, c12c]
        show mT _ _ _ _ 102 [.ref 27, .int (nI r), .int (nI q), .int (mb (is)), .ref (kx r), .int (nI ((S.1 r).length)), .int (nI i), .int (xk (S.1 r) i)] [.int (mq_often (S.1 q) (xk (S.1 r) i) (nI 0)), .int (mq_often (S.1 r) (xk (S.1 r) i) (nI 0))] _ _ _ _
        refine mt_icmp_ne dX4_bag_102 (tgt := 109) rfl (fun q13 => ?_) (fun q13 => ?_)
        · refine mt_iconst dX4_bag_109 (v := nI 0) rfl ?_
          refine mp_istore_n dX4_bag_110 (ls' := [.ref 27, .int (nI r), .int (nI q), .int (nI 0), .ref (kx r), .int (nI ((S.1 r).length)), .int (nI i), .int (xk (S.1 r) i)]) rfl (by decide) rfl ?_
          refine mp_iinc dX4_bag_111 rfl (v := nI (i + 1)) mI_inc (ls' := [.ref 27, .int (nI r), .int (nI q), .int (nI 0), .ref (kx r), .int (nI ((S.1 r).length)), .int (nI (i + 1)), .int (xk (S.1 r) i)]) rfl (by decide) rfl ?_
          refine mt_goto dX4_bag_114 (tgt := 68) rfl ?_
          refine mt_drop 7 (ls' := [.ref 27, .int (nI r), .int (nI q), .int (nI 0), .ref (kx r), .int (nI ((S.1 r).length)), .int (nI (i + 1)), .double 0]) rfl ?_
          exact ih (i + 1) false (by omega) ((mlp_go (f := bgS (S.1 r) (S.1 q)) (by omega) (by simp only [bgS, q4, decide_eq_false q13] <;> rfl)).symm.trans hr9) (by omega)
        · refine mt_iconst dX4_bag_105 (v := nI 1) rfl ?_
          refine mt_goto dX4_bag_106 (tgt := 110) rfl ?_
          refine mp_istore_n dX4_bag_110 (ls' := [.ref 27, .int (nI r), .int (nI q), .int (nI 1), .ref (kx r), .int (nI ((S.1 r).length)), .int (nI i), .int (xk (S.1 r) i)]) rfl (by decide) rfl ?_
          refine mp_iinc dX4_bag_111 rfl (v := nI (i + 1)) mI_inc (ls' := [.ref 27, .int (nI r), .int (nI q), .int (nI 1), .ref (kx r), .int (nI ((S.1 r).length)), .int (nI (i + 1)), .int (xk (S.1 r) i)]) rfl (by decide) rfl ?_
          refine mt_goto dX4_bag_114 (tgt := 68) rfl ?_
          refine mt_drop 7 (ls' := [.ref 27, .int (nI r), .int (nI q), .int (nI 1), .ref (kx r), .int (nI ((S.1 r).length)), .int (nI (i + 1)), .double 0]) rfl ?_
          exact ih (i + 1) true (by omega) ((mlp_go (f := bgS (S.1 r) (S.1 q)) (by omega) (by simp only [bgS, q4, decide_eq_true q13] <;> rfl)).symm.trans hr9) (by omega)
def mp_bag (S : cS) (row : Int32) (other : Int32) : Nat × Value × cS := dAt S 4 row fun r => dAt S 4 other fun q => (0, .int (mb (mlp (bgS (S.1 r) (S.1 q)) ((S.1 r).length - 0) 0 (decide ((S.1 r).length = (S.1 q).length)))), S)
set_option maxRecDepth 100000 in
set_option maxHeartbeats 2000000 in
theorem kX4_bag {l : Launch} (hl : l.stackTraces = false) {h : mH} {n : Nat} {S : cS} {th : Int32} {row : Int32} {other : Int32} (C : mAt h n S th) : mC l mX4_bag rX4_bag [.ref 27, .int row, .int other] h n (mOkq (mp_bag S row other) (.int (nI 0)) h n) (mNX) := by
  obtain ⟨C0, h39, kx, sx, HR⟩ := id C
  obtain ⟨⟨gk_1, G28_1, GK_1⟩, ⟨gs_1, G33_1, GS_1⟩, AK_1, AS_1, NE_1, NQ_1, LE_1⟩ := id HR
  refine mm_enter hl (by decide +kernel) rfl rfl rfl (Nat.le_of_ble_eq_true rfl) ?_
  show mT _ _ _ _ 0 [.ref 27, .int row, .int other, .double 0, .double 0, .double 0, .double 0, .double 0] [] _ _ 0 0
  rcases hq2 : inN 4 row with _ | r3
  · refine mt_aload_n dX4_bag_0 rfl rfl ?_
    refine mt_iload_n dX4_bag_1 rfl ?_
    refine mt_callS (N := mX4_isRow) (Rc := rX4_isRow) (As := [.int row]) (st := [.ref 27]) dX4_bag_2 (kX4_isRow hl) sX4_isRow mw_1083 rfl (Nat.le_of_ble_eq_true rfl) ⟨⟨Nat.le_of_ble_eq_true rfl, Nat.le_of_ble_eq_true rfl⟩, Nat.le_of_ble_eq_true rfl, Nat.le_of_ble_eq_true rfl⟩ (fun v4 h5 n6 c7 => ?_) (fun _ _ _ hx => hx.elim)
    obtain ⟨c7a, c7b, c7c⟩ := c7
    rw [show (inN 4 row).isSome = false from by rw [hq2]; rfl] at c7a
    rw [c7a, c7b, c7c]
    show mT _ _ _ _ 5 [.ref 27, .int row, .int other, .double 0, .double 0, .double 0, .double 0, .double 0] [.int (nI 0), .ref 27] _ _ _ _
    refine mt_if_eq dX4_bag_5 (tgt := 19) rfl (fun q8 => ?_) (fun q8 => ?_)
    · have q8 := (mI_eq0 (by omega)).mp q8
      refine mt_iconst dX4_bag_19 (v := nI 0) rfl ?_
      refine mt_iconst dX4_bag_20 (v := nI 1) rfl ?_
      refine mt_callV (N := mX4_isLet) (Rc := rX4_isLet) (As := [.int (nI 0), .int (nI 1)]) (st := []) dX4_bag_21 (kX4_isLet (t := false) (f := true) hl C0) sX4_isLet mw_1092 mKX4 rfl C0 rfl (Nat.le_of_ble_eq_true rfl) ⟨⟨Nat.le_of_ble_eq_true rfl, Nat.le_of_ble_eq_true rfl⟩, Nat.le_of_ble_eq_true rfl, Nat.le_of_ble_eq_true rfl⟩ (fun v9 h10 n11 c12 => ?_) (fun _ _ _ hx => hx.elim)
      obtain ⟨c12a, c12b, c12c, c12d⟩ := c12
      rw [c12a, c12b]
      show mT _ _ _ _ 24 [.ref 27, .int row, .int other, .double 0, .double 0, .double 0, .double 0, .double 0] [.int (nI 0)] _ _ _ _
      refine mt_if_ne dX4_bag_24 (tgt := 29) rfl (fun q13 => ?_) (fun q13 => ?_)
      · have q13 := (not_congr (mI_eq0 (by omega))).mp q13
        exact absurd q13 (by decide)
      · have q13 := (mI_eq0 (by omega)).mp q13
        refine mt_iconst dX4_bag_27 (v := nI 0) rfl ?_
        refine mt_ireturn dX4_bag_28 rfl rfl (Nat.le_of_ble_eq_true rfl) (Nat.le_of_ble_eq_true rfl) ?_
        exact mOkq.no (k := 1) (S' := S) (by simp only [mp_bag, dAt_n (k := 4) (x := row) hq2, if_pos q8, if_pos q13]) (by decide) rfl (by omega) c12c (by omega) (mRows.fr (n' := n) HR (by omega) (fun j j1 j2 j3 => c12d (j) (by omega)) (by omega)) (fun j hj => c12d j (by omega))
    · have q8 := (not_congr (mI_eq0 (by omega))).mp q8
      exact absurd q8 (by decide)
  · obtain ⟨hr3, rfl⟩ := inN_of hq2 (by first | decide | omega)
    obtain ⟨⟨ka_14, kb_14, kc_14, kd_14⟩, kf_14, ke_14, kg_14⟩ := AK_1 r3 hr3
    obtain ⟨⟨sa_14, sb_14, sc_14, sd_14⟩, sf_14, se_14, sg_14⟩ := AS_1 r3 hr3
    have kn_14 := NE_1 r3 r3 hr3 hr3
    have kl_14 := LE_1 r3 hr3
    have km_14 := rroom_le (r := r3)
    rcases hq15 : inN 4 other with _ | r16
    · refine mt_aload_n dX4_bag_0 rfl rfl ?_
      refine mt_iload_n dX4_bag_1 rfl ?_
      refine mt_callS (N := mX4_isRow) (Rc := rX4_isRow) (As := [.int (nI r3)]) (st := [.ref 27]) dX4_bag_2 (kX4_isRow hl) sX4_isRow mw_1083 rfl (Nat.le_of_ble_eq_true rfl) ⟨⟨Nat.le_of_ble_eq_true rfl, Nat.le_of_ble_eq_true rfl⟩, Nat.le_of_ble_eq_true rfl, Nat.le_of_ble_eq_true rfl⟩ (fun v17 h18 n19 c20 => ?_) (fun _ _ _ hx => hx.elim)
      obtain ⟨c20a, c20b, c20c⟩ := c20
      rw [show (inN 4 (nI r3)).isSome = true from by rw [inN_some hr3 (by decide)]; rfl] at c20a
      rw [c20a, c20b, c20c]
      show mT _ _ _ _ 5 [.ref 27, .int (nI r3), .int other, .double 0, .double 0, .double 0, .double 0, .double 0] [.int (nI 1), .ref 27] _ _ _ _
      refine mt_if_eq dX4_bag_5 (tgt := 19) rfl (fun q21 => ?_) (fun q21 => ?_)
      · have q21 := (mI_eq0 (by omega)).mp q21
        exact absurd q21 (by decide)
      · have q21 := (not_congr (mI_eq0 (by omega))).mp q21
        refine mt_iload_n dX4_bag_8 rfl ?_
        refine mt_callS (N := mX4_isRow) (Rc := rX4_isRow) (As := [.int other]) (st := [.ref 27]) dX4_bag_9 (kX4_isRow hl) sX4_isRow mw_1083 rfl (Nat.le_of_ble_eq_true rfl) ⟨⟨Nat.le_of_ble_eq_true rfl, Nat.le_of_ble_eq_true rfl⟩, Nat.le_of_ble_eq_true rfl, Nat.le_of_ble_eq_true rfl⟩ (fun v22 h23 n24 c25 => ?_) (fun _ _ _ hx => hx.elim)
        obtain ⟨c25a, c25b, c25c⟩ := c25
        rw [show (inN 4 other).isSome = false from by rw [hq15]; rfl] at c25a
        rw [c25a, c25b, c25c]
        show mT _ _ _ _ 12 [.ref 27, .int (nI r3), .int other, .double 0, .double 0, .double 0, .double 0, .double 0] [.int (nI 0), .ref 27] _ _ _ _
        refine mt_if_eq dX4_bag_12 (tgt := 19) rfl (fun q26 => ?_) (fun q26 => ?_)
        · have q26 := (mI_eq0 (by omega)).mp q26
          refine mt_iconst dX4_bag_19 (v := nI 0) rfl ?_
          refine mt_iconst dX4_bag_20 (v := nI 1) rfl ?_
          refine mt_callV (N := mX4_isLet) (Rc := rX4_isLet) (As := [.int (nI 0), .int (nI 1)]) (st := []) dX4_bag_21 (kX4_isLet (t := false) (f := true) hl C0) sX4_isLet mw_1092 mKX4 rfl C0 rfl (Nat.le_of_ble_eq_true rfl) ⟨⟨Nat.le_of_ble_eq_true rfl, Nat.le_of_ble_eq_true rfl⟩, Nat.le_of_ble_eq_true rfl, Nat.le_of_ble_eq_true rfl⟩ (fun v27 h28 n29 c30 => ?_) (fun _ _ _ hx => hx.elim)
          obtain ⟨c30a, c30b, c30c, c30d⟩ := c30
          rw [c30a, c30b]
          show mT _ _ _ _ 24 [.ref 27, .int (nI r3), .int other, .double 0, .double 0, .double 0, .double 0, .double 0] [.int (nI 0)] _ _ _ _
          refine mt_if_ne dX4_bag_24 (tgt := 29) rfl (fun q31 => ?_) (fun q31 => ?_)
          · have q31 := (not_congr (mI_eq0 (by omega))).mp q31
            exact absurd q31 (by decide)
          · have q31 := (mI_eq0 (by omega)).mp q31
            refine mt_iconst dX4_bag_27 (v := nI 0) rfl ?_
            refine mt_ireturn dX4_bag_28 rfl rfl (Nat.le_of_ble_eq_true rfl) (Nat.le_of_ble_eq_true rfl) ?_
            exact mOkq.no (k := 1) (S' := S) (by simp only [mp_bag, dAt_s (k := 4) hr3 (by first | decide | omega), dAt_n (k := 4) (x := other) hq15, if_neg q21, if_pos q26, if_pos q31]) (by decide) rfl (by omega) c30c (by omega) (mRows.fr (n' := n) HR (by omega) (fun j j1 j2 j3 => c30d (j) (by omega)) (by omega)) (fun j hj => c30d j (by omega))
        · have q26 := (not_congr (mI_eq0 (by omega))).mp q26
          exact absurd q26 (by decide)
    · obtain ⟨hr16, rfl⟩ := inN_of hq15 (by first | decide | omega)
      obtain ⟨⟨ka_32, kb_32, kc_32, kd_32⟩, kf_32, ke_32, kg_32⟩ := AK_1 r16 hr16
      obtain ⟨⟨sa_32, sb_32, sc_32, sd_32⟩, sf_32, se_32, sg_32⟩ := AS_1 r16 hr16
      have kn_32 := NE_1 r16 r16 hr16 hr16
      have kl_32 := LE_1 r16 hr16
      have km_32 := rroom_le (r := r16)
      refine mt_aload_n dX4_bag_0 rfl rfl ?_
      refine mt_iload_n dX4_bag_1 rfl ?_
      refine mt_callS (N := mX4_isRow) (Rc := rX4_isRow) (As := [.int (nI r3)]) (st := [.ref 27]) dX4_bag_2 (kX4_isRow hl) sX4_isRow mw_1083 rfl (Nat.le_of_ble_eq_true rfl) ⟨⟨Nat.le_of_ble_eq_true rfl, Nat.le_of_ble_eq_true rfl⟩, Nat.le_of_ble_eq_true rfl, Nat.le_of_ble_eq_true rfl⟩ (fun v33 h34 n35 c36 => ?_) (fun _ _ _ hx => hx.elim)
      obtain ⟨c36a, c36b, c36c⟩ := c36
      rw [show (inN 4 (nI r3)).isSome = true from by rw [inN_some hr3 (by decide)]; rfl] at c36a
      rw [c36a, c36b, c36c]
      show mT _ _ _ _ 5 [.ref 27, .int (nI r3), .int (nI r16), .double 0, .double 0, .double 0, .double 0, .double 0] [.int (nI 1), .ref 27] _ _ _ _
      refine mt_if_eq dX4_bag_5 (tgt := 19) rfl (fun q37 => ?_) (fun q37 => ?_)
      · have q37 := (mI_eq0 (by omega)).mp q37
        exact absurd q37 (by decide)
      · have q37 := (not_congr (mI_eq0 (by omega))).mp q37
        refine mt_iload_n dX4_bag_8 rfl ?_
        refine mt_callS (N := mX4_isRow) (Rc := rX4_isRow) (As := [.int (nI r16)]) (st := [.ref 27]) dX4_bag_9 (kX4_isRow hl) sX4_isRow mw_1083 rfl (Nat.le_of_ble_eq_true rfl) ⟨⟨Nat.le_of_ble_eq_true rfl, Nat.le_of_ble_eq_true rfl⟩, Nat.le_of_ble_eq_true rfl, Nat.le_of_ble_eq_true rfl⟩ (fun v38 h39 n40 c41 => ?_) (fun _ _ _ hx => hx.elim)
        obtain ⟨c41a, c41b, c41c⟩ := c41
        rw [show (inN 4 (nI r16)).isSome = true from by rw [inN_some hr16 (by decide)]; rfl] at c41a
        rw [c41a, c41b, c41c]
        show mT _ _ _ _ 12 [.ref 27, .int (nI r3), .int (nI r16), .double 0, .double 0, .double 0, .double 0, .double 0] [.int (nI 1), .ref 27] _ _ _ _
        refine mt_if_eq dX4_bag_12 (tgt := 19) rfl (fun q42 => ?_) (fun q42 => ?_)
        · have q42 := (mI_eq0 (by omega)).mp q42
          exact absurd q42 (by decide)
        · have q42 := (not_congr (mI_eq0 (by omega))).mp q42
          refine mt_iconst dX4_bag_15 (v := nI 1) rfl ?_
          refine mt_goto dX4_bag_16 (tgt := 20) rfl ?_
          refine mt_iconst dX4_bag_20 (v := nI 1) rfl ?_
          refine mt_callV (N := mX4_isLet) (Rc := rX4_isLet) (As := [.int (nI 1), .int (nI 1)]) (st := []) dX4_bag_21 (kX4_isLet (t := true) (f := true) hl C0) sX4_isLet mw_1092 mKX4 rfl C0 rfl (Nat.le_of_ble_eq_true rfl) ⟨⟨Nat.le_of_ble_eq_true rfl, Nat.le_of_ble_eq_true rfl⟩, Nat.le_of_ble_eq_true rfl, Nat.le_of_ble_eq_true rfl⟩ (fun v43 h44 n45 c46 => ?_) (fun _ _ _ hx => hx.elim)
          obtain ⟨c46a, c46b, c46c, c46d⟩ := c46
          rw [c46a, c46b]
          show mT _ _ _ _ 24 [.ref 27, .int (nI r3), .int (nI r16), .double 0, .double 0, .double 0, .double 0, .double 0] [.int (nI 1)] _ _ _ _
          refine mt_if_ne dX4_bag_24 (tgt := 29) rfl (fun q47 => ?_) (fun q47 => ?_)
          · have q47 := (not_congr (mI_eq0 (by omega))).mp q47
            refine mt_aload_n dX4_bag_29 rfl rfl ?_
            refine mt_getfield mKX4 (i := 0) (by decide) mw_1053 dX4_bag_30 c46c rfl ?_
            refine mt_iload_n dX4_bag_33 rfl ?_
            refine mp_aaload dX4_bag_34 ((c46d (28) (by omega)).trans G28_1) (fun _ => rfl) rfl rfl (by omega) (by omega) (v := .ref (kx r3)) (by rw [GK_1 _ (by omega)]; rfl) ?_
            refine mt_alen dX4_bag_35 ((c46d (kx r3) (by omega)).trans ke_14) (by decide) ?_
            refine mt_aload_n dX4_bag_36 rfl rfl ?_
            refine mt_getfield mKX4 (i := 0) (by decide) mw_1053 dX4_bag_37 c46c rfl ?_
            refine mt_iload_n dX4_bag_40 rfl ?_
            refine mp_aaload dX4_bag_41 ((c46d (28) (by omega)).trans G28_1) (fun _ => rfl) rfl rfl (by omega) (by omega) (v := .ref (kx r16)) (by rw [GK_1 _ (by omega)]; rfl) ?_
            refine mt_alen dX4_bag_42 ((c46d (kx r16) (by omega)).trans ke_32) (by decide) ?_
            refine mt_icmp_ne dX4_bag_43 (tgt := 50) rfl (fun q48 => ?_) (fun q48 => ?_)
            · have q48 := (not_congr (nI_eq (by omega) (by omega))).mp q48
              refine mt_iconst dX4_bag_50 (v := nI 0) rfl ?_
              refine mp_istore_n dX4_bag_51 (ls' := [.ref 27, .int (nI r3), .int (nI r16), .int (nI 0), .double 0, .double 0, .double 0, .double 0]) rfl (by decide) rfl ?_
              refine mt_aload_n dX4_bag_52 rfl rfl ?_
              refine mt_getfield mKX4 (i := 0) (by decide) mw_1053 dX4_bag_53 c46c rfl ?_
              refine mt_iload_n dX4_bag_56 rfl ?_
              refine mp_aaload dX4_bag_57 ((c46d (28) (by omega)).trans G28_1) (fun _ => rfl) rfl rfl (by omega) (by omega) (v := .ref (kx r3)) (by rw [GK_1 _ (by omega)]; rfl) ?_
              refine mp_astore dX4_bag_58 (ls' := [.ref 27, .int (nI r3), .int (nI r16), .int (nI 0), .ref (kx r3), .double 0, .double 0, .double 0]) rfl rfl (by decide) rfl ?_
              refine mt_aload dX4_bag_60 rfl rfl ?_
              refine mt_alen dX4_bag_62 ((c46d (kx r3) (by omega)).trans ke_14) (by decide) ?_
              refine mp_istore dX4_bag_63 (ls' := [.ref 27, .int (nI r3), .int (nI r16), .int (nI 0), .ref (kx r3), .int (nI ((S.1 r3).length)), .double 0, .double 0]) rfl (by decide) rfl ?_
              refine mt_iconst dX4_bag_65 (v := nI 0) rfl ?_
              refine mp_istore dX4_bag_66 (ls' := [.ref 27, .int (nI r3), .int (nI r16), .int (nI 0), .ref (kx r3), .int (nI ((S.1 r3).length)), .int (nI 0), .double 0]) rfl (by decide) rfl ?_
              refine tX4_bag_68 hl c46c (mRows.fr (n' := n) HR (by omega) (fun j j1 j2 j3 => c46d (j) (by omega)) (by omega)) (by omega) hr3 hr16 (fun is_49 i_50 z51 => ?_) _ 0 false (Nat.lt_succ_self _) rfl (by omega)
              refine mt_iload_n dX4_bag_117 rfl ?_
              refine mt_ireturn dX4_bag_118 rfl narrow_mb (Nat.le_of_ble_eq_true rfl) (Nat.le_of_ble_eq_true rfl) ?_
              exact mOkq.of (x := .int (mb (is_49))) (S' := ((S).1, S.2.1, S.2.2.1, S.2.2.2.1, S.2.2.2.2)) (by simp only [mp_bag, dAt_s (k := 4) hr3 (by first | decide | omega), dAt_s (k := 4) hr16 (by first | decide | omega), decide_eq_false q48]; exact congrArg (fun x => ((0 : Nat), Value.int (mb x), S)) z51.symm) rfl (by omega) c46c (by omega) (mRows.fr (n' := n) HR (by omega) (fun j j1 j2 j3 => c46d (j) (by omega)) (by omega)) (fun j hj => c46d j (by omega))
            · have q48 := (nI_eq (by omega) (by omega)).mp q48
              refine mt_iconst dX4_bag_46 (v := nI 1) rfl ?_
              refine mt_goto dX4_bag_47 (tgt := 51) rfl ?_
              refine mp_istore_n dX4_bag_51 (ls' := [.ref 27, .int (nI r3), .int (nI r16), .int (nI 1), .double 0, .double 0, .double 0, .double 0]) rfl (by decide) rfl ?_
              refine mt_aload_n dX4_bag_52 rfl rfl ?_
              refine mt_getfield mKX4 (i := 0) (by decide) mw_1053 dX4_bag_53 c46c rfl ?_
              refine mt_iload_n dX4_bag_56 rfl ?_
              refine mp_aaload dX4_bag_57 ((c46d (28) (by omega)).trans G28_1) (fun _ => rfl) rfl rfl (by omega) (by omega) (v := .ref (kx r3)) (by rw [GK_1 _ (by omega)]; rfl) ?_
              refine mp_astore dX4_bag_58 (ls' := [.ref 27, .int (nI r3), .int (nI r16), .int (nI 1), .ref (kx r3), .double 0, .double 0, .double 0]) rfl rfl (by decide) rfl ?_
              refine mt_aload dX4_bag_60 rfl rfl ?_
              refine mt_alen dX4_bag_62 ((c46d (kx r3) (by omega)).trans ke_14) (by decide) ?_
              refine mp_istore dX4_bag_63 (ls' := [.ref 27, .int (nI r3), .int (nI r16), .int (nI 1), .ref (kx r3), .int (nI ((S.1 r3).length)), .double 0, .double 0]) rfl (by decide) rfl ?_
              refine mt_iconst dX4_bag_65 (v := nI 0) rfl ?_
              refine mp_istore dX4_bag_66 (ls' := [.ref 27, .int (nI r3), .int (nI r16), .int (nI 1), .ref (kx r3), .int (nI ((S.1 r3).length)), .int (nI 0), .double 0]) rfl (by decide) rfl ?_
              refine tX4_bag_68 hl c46c (mRows.fr (n' := n) HR (by omega) (fun j j1 j2 j3 => c46d (j) (by omega)) (by omega)) (by omega) hr3 hr16 (fun is_52 i_53 z54 => ?_) _ 0 true (Nat.lt_succ_self _) rfl (by omega)
              refine mt_iload_n dX4_bag_117 rfl ?_
              refine mt_ireturn dX4_bag_118 rfl narrow_mb (Nat.le_of_ble_eq_true rfl) (Nat.le_of_ble_eq_true rfl) ?_
              exact mOkq.of (x := .int (mb (is_52))) (S' := ((S).1, S.2.1, S.2.2.1, S.2.2.2.1, S.2.2.2.2)) (by simp only [mp_bag, dAt_s (k := 4) hr3 (by first | decide | omega), dAt_s (k := 4) hr16 (by first | decide | omega), decide_eq_true q48]; exact congrArg (fun x => ((0 : Nat), Value.int (mb x), S)) z54.symm) rfl (by omega) c46c (by omega) (mRows.fr (n' := n) HR (by omega) (fun j j1 j2 j3 => c46d (j) (by omega)) (by omega)) (fun j hj => c46d j (by omega))
          · have q47 := (mI_eq0 (by omega)).mp q47
            exact absurd q47 (by decide)
abbrev rX4_mark : Room := { frames := 2, cells := 0, slots := 0, locals := 42 }
set_option maxRecDepth 100000 in
set_option maxHeartbeats 2000000 in
theorem tX4_mark_k {l : Launch} {R : Room} {K : mK} {cc sc : Nat} {h : mH} {n : Nat} {S : cS} {kx sx : Nat → Nat} {g ac rf kn th : Int32} {r : Nat} {r9 : Int32} (C0 : h 27 = .inr (.inr (6, [.ref 28, .ref 33, .int g, .int ac, .int rf, .int kn, .int th]))) (HR : mRows h n S kx sx) (h39 : 39 ≤ n) (hr : r < 4) (kk0 : ∀ (e : Int32) (i : Nat), (e = r9) → mT l mX4_mark R K 74 [.ref 27, .int (nI r), .int (mb (false)), .int e, .ref (kx r), .int (nI ((S.1 r).length)), .int (nI i), .double 0] [] h n cc sc) : ∀ (N0 : Nat) (i : Nat) (e : Int32), ((S.1 r).length - i) < N0 → (mlp (fun i e => e * nI 31 + (if false = false then xk (S.1 r) i else xt (S.1 r) i)) ((S.1 r).length - i) i e = r9) → (i ≤ (S.1 r).length) → mT l mX4_mark R K 46 [.ref 27, .int (nI r), .int (mb (false)), .int e, .ref (kx r), .int (nI ((S.1 r).length)), .int (nI i), .double 0] [] h n cc sc := by
  intro N0
  induction N0 with
  | zero => intro i e hm; exact absurd hm (Nat.not_lt_zero _)
  | succ N0 ih =>
    intro i e hm hr9 hi
    obtain ⟨⟨gk_1, G28_1, GK_1⟩, ⟨gs_1, G33_1, GS_1⟩, AK_1, AS_1, NE_1, NQ_1, LE_1⟩ := id HR
    obtain ⟨⟨ka_2, kb_2, kc_2, kd_2⟩, kf_2, ke_2, kg_2⟩ := AK_1 r hr
    obtain ⟨⟨sa_2, sb_2, sc_2, sd_2⟩, sf_2, se_2, sg_2⟩ := AS_1 r hr
    have kn_2 := NE_1 r r hr hr
    have kl_2 := LE_1 r hr
    have km_2 := rroom_le (r := r)
    refine mt_iload dX4_mark_46 rfl ?_
    refine mt_iload dX4_mark_48 rfl ?_
    refine mt_icmp_ge dX4_mark_50 (tgt := 74) rfl (fun q3 => ?_) (fun q3 => ?_)
    · have q3 := Int32.not_lt.mpr q3
      have q3 := (not_congr (nI_ltI (by omega) (by omega))).mp q3
      exact kk0 e i ((mlp_end (f := fun i e => e * nI 31 + (if false = false then xk (S.1 r) i else xt (S.1 r) i)) (by omega)).symm.trans hr9)
    · have q3 := Int32.not_le.mp q3
      have q3 := (nI_ltI (by omega) (by omega)).mp q3
      refine mt_aload dX4_mark_53 rfl rfl ?_
      refine mt_iload dX4_mark_55 rfl ?_
      refine mp_iaload dX4_mark_57 ke_2 rfl (by omega) (by omega) (v := xk (S.1 r) i) (kg_2 _ (by omega)) ?_
      refine mp_istore dX4_mark_58 (ls' := [.ref 27, .int (nI r), .int (mb (false)), .int e, .ref (kx r), .int (nI ((S.1 r).length)), .int (nI i), .int (xk (S.1 r) i)]) rfl (by decide) rfl ?_
      refine mt_iload_n dX4_mark_60 rfl ?_
      refine mt_bipush dX4_mark_61 (v := nI 31) (by decide) ?_
      refine mp_imul dX4_mark_63 (v := e * (nI 31)) rfl ?_
      refine mt_iload dX4_mark_64 rfl ?_
      refine mp_iadd dX4_mark_66 (v := (e * (nI 31)) + (xk (S.1 r) i)) rfl ?_
      refine mp_istore_n dX4_mark_67 (ls' := [.ref 27, .int (nI r), .int (mb (false)), .int ((e * (nI 31)) + (xk (S.1 r) i)), .ref (kx r), .int (nI ((S.1 r).length)), .int (nI i), .int (xk (S.1 r) i)]) rfl (by decide) rfl ?_
      refine mp_iinc dX4_mark_68 rfl (v := nI (i + 1)) mI_inc (ls' := [.ref 27, .int (nI r), .int (mb (false)), .int ((e * (nI 31)) + (xk (S.1 r) i)), .ref (kx r), .int (nI ((S.1 r).length)), .int (nI (i + 1)), .int (xk (S.1 r) i)]) rfl (by decide) rfl ?_
      refine mt_goto dX4_mark_71 (tgt := 46) rfl ?_
      refine mt_drop 7 (ls' := [.ref 27, .int (nI r), .int (mb (false)), .int ((e * (nI 31)) + (xk (S.1 r) i)), .ref (kx r), .int (nI ((S.1 r).length)), .int (nI (i + 1)), .double 0]) rfl ?_
      exact ih (i + 1) ((e * (nI 31)) + (xk (S.1 r) i)) (by omega) ((mlp_go (f := fun i e => e * nI 31 + (if false = false then xk (S.1 r) i else xt (S.1 r) i)) (by omega) rfl).symm.trans hr9) (by omega)
set_option maxRecDepth 100000 in
set_option maxHeartbeats 2000000 in
theorem tX4_mark_s {l : Launch} {R : Room} {K : mK} {cc sc : Nat} {h : mH} {n : Nat} {S : cS} {kx sx : Nat → Nat} {g ac rf kn th : Int32} {r : Nat} {r9 : Int32} (C0 : h 27 = .inr (.inr (6, [.ref 28, .ref 33, .int g, .int ac, .int rf, .int kn, .int th]))) (HR : mRows h n S kx sx) (h39 : 39 ≤ n) (hr : r < 4) (kk0 : ∀ (e : Int32) (i : Nat), (e = r9) → mT l mX4_mark R K 74 [.ref 27, .int (nI r), .int (mb (true)), .int e, .ref (sx r), .int (nI ((S.1 r).length)), .int (nI i), .double 0] [] h n cc sc) : ∀ (N0 : Nat) (i : Nat) (e : Int32), ((S.1 r).length - i) < N0 → (mlp (fun i e => e * nI 31 + (if true = false then xk (S.1 r) i else xt (S.1 r) i)) ((S.1 r).length - i) i e = r9) → (i ≤ (S.1 r).length) → mT l mX4_mark R K 46 [.ref 27, .int (nI r), .int (mb (true)), .int e, .ref (sx r), .int (nI ((S.1 r).length)), .int (nI i), .double 0] [] h n cc sc := by
  intro N0
  induction N0 with
  | zero => intro i e hm; exact absurd hm (Nat.not_lt_zero _)
  | succ N0 ih =>
    intro i e hm hr9 hi
    obtain ⟨⟨gk_1, G28_1, GK_1⟩, ⟨gs_1, G33_1, GS_1⟩, AK_1, AS_1, NE_1, NQ_1, LE_1⟩ := id HR
    obtain ⟨⟨ka_2, kb_2, kc_2, kd_2⟩, kf_2, ke_2, kg_2⟩ := AK_1 r hr
    obtain ⟨⟨sa_2, sb_2, sc_2, sd_2⟩, sf_2, se_2, sg_2⟩ := AS_1 r hr
    have kn_2 := NE_1 r r hr hr
    have kl_2 := LE_1 r hr
    have km_2 := rroom_le (r := r)
    refine mt_iload dX4_mark_46 rfl ?_
    refine mt_iload dX4_mark_48 rfl ?_
    refine mt_icmp_ge dX4_mark_50 (tgt := 74) rfl (fun q3 => ?_) (fun q3 => ?_)
    · have q3 := Int32.not_lt.mpr q3
      have q3 := (not_congr (nI_ltI (by omega) (by omega))).mp q3
      exact kk0 e i ((mlp_end (f := fun i e => e * nI 31 + (if true = false then xk (S.1 r) i else xt (S.1 r) i)) (by omega)).symm.trans hr9)
    · have q3 := Int32.not_le.mp q3
      have q3 := (nI_ltI (by omega) (by omega)).mp q3
      refine mt_aload dX4_mark_53 rfl rfl ?_
      refine mt_iload dX4_mark_55 rfl ?_
      refine mp_iaload dX4_mark_57 se_2 rfl (by omega) (by omega) (v := xt (S.1 r) i) (sg_2 _ (by omega)) ?_
      refine mp_istore dX4_mark_58 (ls' := [.ref 27, .int (nI r), .int (mb (true)), .int e, .ref (sx r), .int (nI ((S.1 r).length)), .int (nI i), .int (xt (S.1 r) i)]) rfl (by decide) rfl ?_
      refine mt_iload_n dX4_mark_60 rfl ?_
      refine mt_bipush dX4_mark_61 (v := nI 31) (by decide) ?_
      refine mp_imul dX4_mark_63 (v := e * (nI 31)) rfl ?_
      refine mt_iload dX4_mark_64 rfl ?_
      refine mp_iadd dX4_mark_66 (v := (e * (nI 31)) + (xt (S.1 r) i)) rfl ?_
      refine mp_istore_n dX4_mark_67 (ls' := [.ref 27, .int (nI r), .int (mb (true)), .int ((e * (nI 31)) + (xt (S.1 r) i)), .ref (sx r), .int (nI ((S.1 r).length)), .int (nI i), .int (xt (S.1 r) i)]) rfl (by decide) rfl ?_
      refine mp_iinc dX4_mark_68 rfl (v := nI (i + 1)) mI_inc (ls' := [.ref 27, .int (nI r), .int (mb (true)), .int ((e * (nI 31)) + (xt (S.1 r) i)), .ref (sx r), .int (nI ((S.1 r).length)), .int (nI (i + 1)), .int (xt (S.1 r) i)]) rfl (by decide) rfl ?_
      refine mt_goto dX4_mark_71 (tgt := 46) rfl ?_
      refine mt_drop 7 (ls' := [.ref 27, .int (nI r), .int (mb (true)), .int ((e * (nI 31)) + (xt (S.1 r) i)), .ref (sx r), .int (nI ((S.1 r).length)), .int (nI (i + 1)), .double 0]) rfl ?_
      exact ih (i + 1) ((e * (nI 31)) + (xt (S.1 r) i)) (by omega) ((mlp_go (f := fun i e => e * nI 31 + (if true = false then xk (S.1 r) i else xt (S.1 r) i)) (by omega) rfl).symm.trans hr9) (by omega)
set_option maxRecDepth 100000 in
set_option maxHeartbeats 2000000 in
theorem kX4_mark {l : Launch} (hl : l.stackTraces = false) {h : mH} {n : Nat} {S : cS} {th : Int32} {row : Int32} {isStamps : Bool} (C : mAt h n S th) : mC l mX4_mark rX4_mark [.ref 27, .int row, .int (mb (isStamps))] h n (mOkq (sp_mark S row isStamps) (.int (nI 0)) h n) (mNX) := by
  obtain ⟨C0, h39, kx, sx, HR⟩ := id C
  obtain ⟨⟨gk_1, G28_1, GK_1⟩, ⟨gs_1, G33_1, GS_1⟩, AK_1, AS_1, NE_1, NQ_1, LE_1⟩ := id HR
  refine mm_enter hl (by decide +kernel) rfl rfl rfl (Nat.le_of_ble_eq_true rfl) ?_
  show mT _ _ _ _ 0 [.ref 27, .int row, .int (mb (isStamps)), .double 0, .double 0, .double 0, .double 0, .double 0] [] _ _ 0 0
  rcases hq2 : inN 4 row with _ | r3
  · refine mt_aload_n dX4_mark_0 rfl rfl ?_
    refine mt_iload_n dX4_mark_1 rfl ?_
    refine mt_callS (N := mX4_isRow) (Rc := rX4_isRow) (As := [.int row]) (st := [.ref 27]) dX4_mark_2 (kX4_isRow hl) sX4_isRow mw_1083 rfl (Nat.le_of_ble_eq_true rfl) ⟨⟨Nat.le_of_ble_eq_true rfl, Nat.le_of_ble_eq_true rfl⟩, Nat.le_of_ble_eq_true rfl, Nat.le_of_ble_eq_true rfl⟩ (fun v4 h5 n6 c7 => ?_) (fun _ _ _ hx => hx.elim)
    obtain ⟨c7a, c7b, c7c⟩ := c7
    rw [show (inN 4 row).isSome = false from by rw [hq2]; rfl] at c7a
    rw [c7a, c7b, c7c]
    show mT _ _ _ _ 5 [.ref 27, .int row, .int (mb (isStamps)), .double 0, .double 0, .double 0, .double 0, .double 0] [.int (nI 0), .ref 27] _ _ _ _
    refine mt_iconst dX4_mark_5 (v := nI 1) rfl ?_
    refine mt_callV (N := mX4_isLet) (Rc := rX4_isLet) (As := [.int (nI 0), .int (nI 1)]) (st := []) dX4_mark_6 (kX4_isLet (t := false) (f := true) hl C0) sX4_isLet mw_1092 mKX4 rfl C0 rfl (Nat.le_of_ble_eq_true rfl) ⟨⟨Nat.le_of_ble_eq_true rfl, Nat.le_of_ble_eq_true rfl⟩, Nat.le_of_ble_eq_true rfl, Nat.le_of_ble_eq_true rfl⟩ (fun v8 h9 n10 c11 => ?_) (fun _ _ _ hx => hx.elim)
    obtain ⟨c11a, c11b, c11c, c11d⟩ := c11
    rw [c11a, c11b]
    show mT _ _ _ _ 9 [.ref 27, .int row, .int (mb (isStamps)), .double 0, .double 0, .double 0, .double 0, .double 0] [.int (nI 0)] _ _ _ _
    refine mt_if_ne dX4_mark_9 (tgt := 14) rfl (fun q12 => ?_) (fun q12 => ?_)
    · have q12 := (not_congr (mI_eq0 (by omega))).mp q12
      exact absurd q12 (by decide)
    · have q12 := (mI_eq0 (by omega)).mp q12
      refine mt_iconst dX4_mark_12 (v := nI 0) rfl ?_
      refine mt_ireturn dX4_mark_13 rfl rfl (Nat.le_of_ble_eq_true rfl) (Nat.le_of_ble_eq_true rfl) ?_
      exact mOkq.no (k := 1) (S' := S) (by simp only [sp_mark, dAt_n (k := 4) (x := row) hq2, if_pos q12]) (by decide) rfl (by omega) c11c (by omega) (mRows.fr (n' := n) HR (by omega) (fun j j1 j2 j3 => c11d (j) (by omega)) (by omega)) (fun j hj => c11d j (by omega))
  · obtain ⟨hr3, rfl⟩ := inN_of hq2 (by first | decide | omega)
    obtain ⟨⟨ka_13, kb_13, kc_13, kd_13⟩, kf_13, ke_13, kg_13⟩ := AK_1 r3 hr3
    obtain ⟨⟨sa_13, sb_13, sc_13, sd_13⟩, sf_13, se_13, sg_13⟩ := AS_1 r3 hr3
    have kn_13 := NE_1 r3 r3 hr3 hr3
    have kl_13 := LE_1 r3 hr3
    have km_13 := rroom_le (r := r3)
    refine mt_aload_n dX4_mark_0 rfl rfl ?_
    refine mt_iload_n dX4_mark_1 rfl ?_
    refine mt_callS (N := mX4_isRow) (Rc := rX4_isRow) (As := [.int (nI r3)]) (st := [.ref 27]) dX4_mark_2 (kX4_isRow hl) sX4_isRow mw_1083 rfl (Nat.le_of_ble_eq_true rfl) ⟨⟨Nat.le_of_ble_eq_true rfl, Nat.le_of_ble_eq_true rfl⟩, Nat.le_of_ble_eq_true rfl, Nat.le_of_ble_eq_true rfl⟩ (fun v14 h15 n16 c17 => ?_) (fun _ _ _ hx => hx.elim)
    obtain ⟨c17a, c17b, c17c⟩ := c17
    rw [show (inN 4 (nI r3)).isSome = true from by rw [inN_some hr3 (by decide)]; rfl] at c17a
    rw [c17a, c17b, c17c]
    show mT _ _ _ _ 5 [.ref 27, .int (nI r3), .int (mb (isStamps)), .double 0, .double 0, .double 0, .double 0, .double 0] [.int (nI 1), .ref 27] _ _ _ _
    refine mt_iconst dX4_mark_5 (v := nI 1) rfl ?_
    refine mt_callV (N := mX4_isLet) (Rc := rX4_isLet) (As := [.int (nI 1), .int (nI 1)]) (st := []) dX4_mark_6 (kX4_isLet (t := true) (f := true) hl C0) sX4_isLet mw_1092 mKX4 rfl C0 rfl (Nat.le_of_ble_eq_true rfl) ⟨⟨Nat.le_of_ble_eq_true rfl, Nat.le_of_ble_eq_true rfl⟩, Nat.le_of_ble_eq_true rfl, Nat.le_of_ble_eq_true rfl⟩ (fun v18 h19 n20 c21 => ?_) (fun _ _ _ hx => hx.elim)
    obtain ⟨c21a, c21b, c21c, c21d⟩ := c21
    rw [c21a, c21b]
    show mT _ _ _ _ 9 [.ref 27, .int (nI r3), .int (mb (isStamps)), .double 0, .double 0, .double 0, .double 0, .double 0] [.int (nI 1)] _ _ _ _
    refine mt_if_ne dX4_mark_9 (tgt := 14) rfl (fun q22 => ?_) (fun q22 => ?_)
    · have q22 := (not_congr (mI_eq0 (by omega))).mp q22
      refine mt_bipush dX4_mark_14 (v := nI 17) (by decide) ?_
      refine mp_istore_n dX4_mark_16 (ls' := [.ref 27, .int (nI r3), .int (mb (isStamps)), .int (nI 17), .double 0, .double 0, .double 0, .double 0]) rfl (by decide) rfl ?_
      refine mt_iload_n dX4_mark_17 rfl ?_
      refine mt_if_eq dX4_mark_18 (tgt := 30) rfl (fun q23 => ?_) (fun q23 => ?_)
      · have q23 : isStamps = false := mb_0.mp q23
        refine mt_aload_n dX4_mark_30 rfl rfl ?_
        refine mt_getfield mKX4 (i := 0) (by decide) mw_1053 dX4_mark_31 c21c rfl ?_
        refine mt_iload_n dX4_mark_34 rfl ?_
        refine mp_aaload dX4_mark_35 ((c21d (28) (by omega)).trans G28_1) (fun _ => rfl) rfl rfl (by omega) (by omega) (v := .ref (kx r3)) (by rw [GK_1 _ (by omega)]; rfl) ?_
        refine mp_astore dX4_mark_36 (ls' := [.ref 27, .int (nI r3), .int (mb (isStamps)), .int (nI 17), .ref (kx r3), .double 0, .double 0, .double 0]) rfl rfl (by decide) rfl ?_
        refine mt_aload dX4_mark_38 rfl rfl ?_
        refine mt_alen dX4_mark_40 ((c21d (kx r3) (by omega)).trans ke_13) (by decide) ?_
        refine mp_istore dX4_mark_41 (ls' := [.ref 27, .int (nI r3), .int (mb (isStamps)), .int (nI 17), .ref (kx r3), .int (nI ((S.1 r3).length)), .double 0, .double 0]) rfl (by decide) rfl ?_
        subst q23
        refine mt_iconst dX4_mark_43 (v := nI 0) rfl ?_
        refine mp_istore dX4_mark_44 (ls' := [.ref 27, .int (nI r3), .int (mb (false)), .int (nI 17), .ref (kx r3), .int (nI ((S.1 r3).length)), .int (nI 0), .double 0]) rfl (by decide) rfl ?_
        refine tX4_mark_k c21c (mRows.fr (n' := n) HR (by omega) (fun j j1 j2 j3 => c21d (j) (by omega)) (by omega)) (by omega) hr3 (fun e_24 i_25 z26 => ?_) _ 0 (nI 17) (Nat.lt_succ_self _) rfl (by omega)
        refine mt_iload_n dX4_mark_74 rfl ?_
        refine mt_ireturn dX4_mark_75 rfl rfl (Nat.le_of_ble_eq_true rfl) (Nat.le_of_ble_eq_true rfl) ?_
        exact mOkq.of (x := .int e_24) (S' := ((S).1, S.2.1, S.2.2.1, S.2.2.2.1, S.2.2.2.2)) (by simp only [sp_mark, dAt_s (k := 4) hr3 (by first | decide | omega)]; exact congrArg (fun x => ((0 : Nat), Value.int (x), S)) z26.symm) rfl (by omega) c21c (by omega) (mRows.fr (n' := n) HR (by omega) (fun j j1 j2 j3 => c21d (j) (by omega)) (by omega)) (fun j hj => c21d j (by omega))
      · have q23 : isStamps = true := mb_1.mp q23
        refine mt_aload_n dX4_mark_21 rfl rfl ?_
        refine mt_getfield mKX4 (i := 1) (by decide) mw_1054 dX4_mark_22 c21c rfl ?_
        refine mt_iload_n dX4_mark_25 rfl ?_
        refine mp_aaload dX4_mark_26 ((c21d (33) (by omega)).trans G33_1) (fun _ => rfl) rfl rfl (by omega) (by omega) (v := .ref (sx r3)) (by rw [GS_1 _ (by omega)]; rfl) ?_
        refine mt_goto dX4_mark_27 (tgt := 36) rfl ?_
        refine mp_astore dX4_mark_36 (ls' := [.ref 27, .int (nI r3), .int (mb (isStamps)), .int (nI 17), .ref (sx r3), .double 0, .double 0, .double 0]) rfl rfl (by decide) rfl ?_
        refine mt_aload dX4_mark_38 rfl rfl ?_
        refine mt_alen dX4_mark_40 ((c21d (sx r3) (by omega)).trans se_13) (by decide) ?_
        refine mp_istore dX4_mark_41 (ls' := [.ref 27, .int (nI r3), .int (mb (isStamps)), .int (nI 17), .ref (sx r3), .int (nI ((S.1 r3).length)), .double 0, .double 0]) rfl (by decide) rfl ?_
        subst q23
        refine mt_iconst dX4_mark_43 (v := nI 0) rfl ?_
        refine mp_istore dX4_mark_44 (ls' := [.ref 27, .int (nI r3), .int (mb (true)), .int (nI 17), .ref (sx r3), .int (nI ((S.1 r3).length)), .int (nI 0), .double 0]) rfl (by decide) rfl ?_
        refine tX4_mark_s c21c (mRows.fr (n' := n) HR (by omega) (fun j j1 j2 j3 => c21d (j) (by omega)) (by omega)) (by omega) hr3 (fun e_27 i_28 z29 => ?_) _ 0 (nI 17) (Nat.lt_succ_self _) rfl (by omega)
        refine mt_iload_n dX4_mark_74 rfl ?_
        refine mt_ireturn dX4_mark_75 rfl rfl (Nat.le_of_ble_eq_true rfl) (Nat.le_of_ble_eq_true rfl) ?_
        exact mOkq.of (x := .int e_27) (S' := ((S).1, S.2.1, S.2.2.1, S.2.2.2.1, S.2.2.2.2)) (by simp only [sp_mark, dAt_s (k := 4) hr3 (by first | decide | omega)]; exact congrArg (fun x => ((0 : Nat), Value.int (x), S)) z29.symm) rfl (by omega) c21c (by omega) (mRows.fr (n' := n) HR (by omega) (fun j j1 j2 j3 => c21d (j) (by omega)) (by omega)) (fun j hj => c21d j (by omega))
    · have q22 := (mI_eq0 (by omega)).mp q22
      exact absurd q22 (by decide)
abbrev rX4_knock : Room := { frames := 0, cells := 0, slots := 0, locals := 0 }
set_option maxRecDepth 100000 in
set_option maxHeartbeats 2000000 in
theorem kX4_knock {l : Launch} (hl : l.stackTraces = false) {h : mH} {n : Nat} {S : cS} {th : Int32} (C : mAt h n S th) : mC l mX4_knock rX4_knock [.ref 27] h n (mOkq (sp_knock S ) (.int (nI 0)) h n) (mNX) := by
  obtain ⟨C0, h39, kx, sx, HR⟩ := id C
  obtain ⟨⟨gk_1, G28_1, GK_1⟩, ⟨gs_1, G33_1, GS_1⟩, AK_1, AS_1, NE_1, NQ_1, LE_1⟩ := id HR
  refine mm_enter hl (by decide +kernel) rfl rfl rfl (Nat.le_of_ble_eq_true rfl) ?_
  show mT _ _ _ _ 0 [.ref 27] [] _ _ 0 0
  refine mt_aload_n dX4_knock_0 rfl rfl ?_
  refine mt_iconst dX4_knock_1 (v := nI 0) rfl ?_
  refine mp_putfield mKX4 (i := 6) (fs' := [.ref 28, .ref 33, .int S.2.1, .int S.2.2.1, .int S.2.2.2.1, .int S.2.2.2.2, .int (nI 0)]) (by decide) mw_1059 rfl dX4_knock_2 C0 (Nat.le_of_ble_eq_true rfl) rfl rfl (fun h2 e3 f4 => ?_)
  refine mt_aload_n dX4_knock_5 rfl rfl ?_
  refine mt_dup dX4_knock_6 rfl ?_
  refine mt_getfield mKX4 (i := 5) (by decide) mw_1058 dX4_knock_7 e3 rfl ?_
  refine mt_iconst dX4_knock_10 (v := nI 1) rfl ?_
  refine mp_iadd dX4_knock_11 (v := S.2.2.2.2 + (nI 1)) rfl ?_
  refine mp_putfield mKX4 (i := 5) (fs' := [.ref 28, .ref 33, .int S.2.1, .int S.2.2.1, .int S.2.2.2.1, .int (S.2.2.2.2 + (nI 1)), .int (nI 0)]) (by decide) mw_1058 rfl dX4_knock_12 e3 (Nat.le_of_ble_eq_true rfl) rfl rfl (fun h5 e6 f7 => ?_)
  refine mt_aload_n dX4_knock_15 rfl rfl ?_
  refine mt_getfield mKX4 (i := 5) (by decide) mw_1058 dX4_knock_16 e6 rfl ?_
  refine mt_ireturn dX4_knock_19 rfl rfl (Nat.le_of_ble_eq_true rfl) (Nat.le_of_ble_eq_true rfl) ?_
  exact mOkq.of (x := .int (S.2.2.2.2 + (nI 1))) (S' := ((S).1, S.2.1, S.2.2.1, S.2.2.2.1, S.2.2.2.2 + (nI 1))) (by simp only [sp_knock] <;> first | rfl | simp_all) rfl (by omega) e6 (by omega) (mRows.fr (n' := n) HR (by omega) (fun j j1 j2 j3 => (f7 (j) (by omega)).trans (f4 (j) (by omega))) (by omega)) (fun j hj => (f7 j (by omega)).trans (f4 j (by omega)))
def mp_isSound (S : cS)  : Nat × Value × cS := (0, .int (mb true), S)
abbrev rX4_isSound : Room := { frames := 0, cells := 0, slots := 0, locals := 0 }
set_option maxRecDepth 100000 in
set_option maxHeartbeats 2000000 in
theorem kX4_isSound {l : Launch} (hl : l.stackTraces = false) {h : mH} {n : Nat} {S : cS} {th : Int32} (C : mAt h n S th) : mC l mX4_isSound rX4_isSound [.ref 27] h n (mOkq (mp_isSound S ) (.int (nI 0)) h n) (mNX) := by
  obtain ⟨C0, h39, kx, sx, HR⟩ := id C
  obtain ⟨⟨gk_1, G28_1, GK_1⟩, ⟨gs_1, G33_1, GS_1⟩, AK_1, AS_1, NE_1, NQ_1, LE_1⟩ := id HR
  refine mm_enter hl (by decide +kernel) rfl rfl rfl (Nat.le_of_ble_eq_true rfl) ?_
  show mT _ _ _ _ 0 [.ref 27] [] _ _ 0 0
  refine mt_aload_n dX4_isSound_0 rfl rfl ?_
  refine mt_iconst dX4_isSound_1 (v := nI 0) rfl ?_
  refine mp_putfield mKX4 (i := 6) (fs' := [.ref 28, .ref 33, .int S.2.1, .int S.2.2.1, .int S.2.2.2.1, .int S.2.2.2.2, .int (nI 0)]) (by decide) mw_1059 rfl dX4_isSound_2 C0 (Nat.le_of_ble_eq_true rfl) rfl rfl (fun h2 e3 f4 => ?_)
  refine mt_iconst dX4_isSound_5 (v := nI 1) rfl ?_
  refine mt_ireturn dX4_isSound_6 rfl rfl (Nat.le_of_ble_eq_true rfl) (Nat.le_of_ble_eq_true rfl) ?_
  exact mOkq.of (x := .int (nI 1)) (S' := ((S).1, S.2.1, S.2.2.1, S.2.2.2.1, S.2.2.2.2)) (by simp only [mp_isSound] <;> first | rfl | simp_all) rfl (by omega) e3 (by omega) (mRows.fr (n' := n) HR (by omega) (fun j j1 j2 j3 => f4 (j) (by omega)) (by omega)) (fun j hj => f4 j (by omega))
