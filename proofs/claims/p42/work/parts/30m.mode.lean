/-! ===== the reference: acts ===== -/
abbrev rX4_clear : Room := { frames := 2, cells := 3, slots := 640, locals := 42 }
def mp_clear (S : cS) (row : Int32) : Nat × Value × cS := dAt S 4 row fun r => (0, .int (nI (S.1 r).length), cAct (cSet S r (chF (S.1 r) (fun _ => 0) 0)))
set_option maxRecDepth 100000 in
set_option maxHeartbeats 2000000 in
theorem kX4_clear {l : Launch} (hl : l.stackTraces = false) {h : mH} {n : Nat} {S : cS} {th : Int32} {row : Int32} (C : mAt h n S th) : mC l mX4_clear rX4_clear [.ref 27, .int row] h n (mOk (mp_clear S row) (.int (nI 0)) h n) (mNX) := by
  obtain ⟨C0, h39, kx, sx, HR⟩ := id C
  obtain ⟨⟨gk_1, G28_1, GK_1⟩, ⟨gs_1, G33_1, GS_1⟩, AK_1, AS_1, NE_1, NQ_1, LE_1⟩ := id HR
  refine mm_enter hl (by decide +kernel) rfl rfl rfl (Nat.le_of_ble_eq_true rfl) ?_
  show mT _ _ _ _ 0 [.ref 27, .int row, .double 0] [] _ _ 0 0
  rcases hq2 : inN 4 row with _ | r3
  · refine mt_aload_n dX4_clear_0 rfl rfl ?_
    refine mt_iload_n dX4_clear_1 rfl ?_
    refine mt_callS (N := mX4_isRow) (Rc := rX4_isRow) (As := [.int row]) (st := [.ref 27]) dX4_clear_2 (kX4_isRow hl) sX4_isRow mw_1083 rfl (Nat.le_of_ble_eq_true rfl) ⟨⟨Nat.le_of_ble_eq_true rfl, Nat.le_of_ble_eq_true rfl⟩, (by first | exact Nat.le_of_ble_eq_true rfl | (simp only [rX4_isRow, rX4_isLet, rX4_choose, rX4_did, rX4_clear]; omega)), (by first | exact Nat.le_of_ble_eq_true rfl | (simp only [rX4_isRow, rX4_isLet, rX4_choose, rX4_did, rX4_clear]; omega))⟩ (fun v4 h5 n6 c7 => ?_) (fun _ _ _ hx => hx.elim)
    obtain ⟨c7a, c7b, c7c⟩ := c7
    rw [show (inN 4 row).isSome = false from by rw [hq2]; rfl] at c7a
    rw [c7a, c7b, c7c]
    show mT _ _ _ _ 5 [.ref 27, .int row, .double 0] [.int (nI 0), .ref 27] _ _ _ _
    refine mt_iconst dX4_clear_5 (v := nI 1) rfl ?_
    refine mt_callV (N := mX4_isLet) (Rc := rX4_isLet) (As := [.int (nI 0), .int (nI 1)]) (st := []) dX4_clear_6 (kX4_isLet (t := false) (f := true) hl C0) sX4_isLet mw_1092 mKX4 rfl C0 rfl (Nat.le_of_ble_eq_true rfl) ⟨⟨Nat.le_of_ble_eq_true rfl, Nat.le_of_ble_eq_true rfl⟩, (by first | exact Nat.le_of_ble_eq_true rfl | (simp only [rX4_isRow, rX4_isLet, rX4_choose, rX4_did, rX4_clear]; omega)), (by first | exact Nat.le_of_ble_eq_true rfl | (simp only [rX4_isRow, rX4_isLet, rX4_choose, rX4_did, rX4_clear]; omega))⟩ (fun v8 h9 n10 c11 => ?_) (fun _ _ _ hx => hx.elim)
    obtain ⟨c11a, c11b, c11c, c11d⟩ := c11
    rw [c11a, c11b]
    show mT _ _ _ _ 9 [.ref 27, .int row, .double 0] [.int (nI 0)] _ _ _ _
    refine mt_if_ne dX4_clear_9 (tgt := 14) rfl (fun q12 => ?_) (fun q12 => ?_)
    · have q12 := (not_congr (mI_eq0 (by omega))).mp q12
      exact absurd q12 (by decide)
    · have q12 := (mI_eq0 (by omega)).mp q12
      refine mt_iconst dX4_clear_12 (v := nI 0) rfl ?_
      refine mt_ireturn dX4_clear_13 rfl rfl (by first | exact Nat.le_of_ble_eq_true rfl | (simp only [rX4_isRow, rX4_isLet, rX4_choose, rX4_did, rX4_clear]; omega)) (by first | exact Nat.le_of_ble_eq_true rfl | (simp only [rX4_isRow, rX4_isLet, rX4_choose, rX4_did, rX4_clear]; omega)) ?_
      exact mOk.no (k := 1) (S' := S) (by simp only [mp_clear, dAt_n (k := 4) (x := row) hq2, if_pos q12]) (by decide) rfl (by omega) c11c (by omega) (mRows.fr (n' := n) HR (by omega) (fun j j1 j2 j3 => c11d (j) (by omega)) (by omega)) (fun j hj => c11d j (by omega))
  · obtain ⟨hr3, rfl⟩ := inN_of hq2 (by first | decide | omega)
    obtain ⟨⟨ka_13, kb_13, kc_13, kd_13⟩, kf_13, ke_13, kg_13⟩ := AK_1 r3 hr3
    obtain ⟨⟨sa_13, sb_13, sc_13, sd_13⟩, sf_13, se_13, sg_13⟩ := AS_1 r3 hr3
    have kn_13 := NE_1 r3 r3 hr3 hr3
    have kl_13 := LE_1 r3 hr3
    have km_13 := rroom_le (r := r3)
    refine mt_aload_n dX4_clear_0 rfl rfl ?_
    refine mt_iload_n dX4_clear_1 rfl ?_
    refine mt_callS (N := mX4_isRow) (Rc := rX4_isRow) (As := [.int (nI r3)]) (st := [.ref 27]) dX4_clear_2 (kX4_isRow hl) sX4_isRow mw_1083 rfl (Nat.le_of_ble_eq_true rfl) ⟨⟨Nat.le_of_ble_eq_true rfl, Nat.le_of_ble_eq_true rfl⟩, (by first | exact Nat.le_of_ble_eq_true rfl | (simp only [rX4_isRow, rX4_isLet, rX4_choose, rX4_did, rX4_clear]; omega)), (by first | exact Nat.le_of_ble_eq_true rfl | (simp only [rX4_isRow, rX4_isLet, rX4_choose, rX4_did, rX4_clear]; omega))⟩ (fun v14 h15 n16 c17 => ?_) (fun _ _ _ hx => hx.elim)
    obtain ⟨c17a, c17b, c17c⟩ := c17
    rw [show (inN 4 (nI r3)).isSome = true from by rw [inN_some hr3 (by decide)]; rfl] at c17a
    rw [c17a, c17b, c17c]
    show mT _ _ _ _ 5 [.ref 27, .int (nI r3), .double 0] [.int (nI 1), .ref 27] _ _ _ _
    refine mt_iconst dX4_clear_5 (v := nI 1) rfl ?_
    refine mt_callV (N := mX4_isLet) (Rc := rX4_isLet) (As := [.int (nI 1), .int (nI 1)]) (st := []) dX4_clear_6 (kX4_isLet (t := true) (f := true) hl C0) sX4_isLet mw_1092 mKX4 rfl C0 rfl (Nat.le_of_ble_eq_true rfl) ⟨⟨Nat.le_of_ble_eq_true rfl, Nat.le_of_ble_eq_true rfl⟩, (by first | exact Nat.le_of_ble_eq_true rfl | (simp only [rX4_isRow, rX4_isLet, rX4_choose, rX4_did, rX4_clear]; omega)), (by first | exact Nat.le_of_ble_eq_true rfl | (simp only [rX4_isRow, rX4_isLet, rX4_choose, rX4_did, rX4_clear]; omega))⟩ (fun v18 h19 n20 c21 => ?_) (fun _ _ _ hx => hx.elim)
    obtain ⟨c21a, c21b, c21c, c21d⟩ := c21
    rw [c21a, c21b]
    show mT _ _ _ _ 9 [.ref 27, .int (nI r3), .double 0] [.int (nI 1)] _ _ _ _
    refine mt_if_ne dX4_clear_9 (tgt := 14) rfl (fun q22 => ?_) (fun q22 => ?_)
    · have q22 := (not_congr (mI_eq0 (by omega))).mp q22
      refine mt_aload_n dX4_clear_14 rfl rfl ?_
      refine mt_getfield mKX4 (i := 0) (by decide) mw_1053 dX4_clear_15 c21c rfl ?_
      refine mt_iload_n dX4_clear_18 rfl ?_
      refine mp_aaload dX4_clear_19 ((c21d (28) (by omega)).trans G28_1) (fun _ => rfl) rfl rfl (by omega) (by omega) (v := .ref (kx r3)) (by rw [GK_1 _ (by omega)]; rfl) ?_
      refine mt_alen dX4_clear_20 ((c21d (kx r3) (by omega)).trans ke_13) (by decide) ?_
      refine mp_istore_n dX4_clear_21 (ls' := [.ref 27, .int (nI r3), .int (nI ((S.1 r3).length))]) rfl (by decide) rfl ?_
      refine mt_aload_n dX4_clear_22 rfl rfl ?_
      refine mt_iload_n dX4_clear_23 rfl ?_
      refine mt_iconst dX4_clear_24 (v := nI 0) rfl ?_
      refine mp_newarray dX4_clear_25 mw_87 rfl (by omega) (by simp only [rX4_clear]; omega) (by simp only [rX4_clear]; omega) (fun h23 e24 f25 => ?_)
      refine mt_callV (N := mX4_choose) (Rc := rX4_choose) (As := [.int (nI r3), .ref n]) (st := []) dX4_clear_27 (kX4_choose (pl := (fun _ => 0)) hl ((f25 (27) (by omega)).trans c21c) (mRows.fr (n' := n + 1) HR (by omega) (fun j j1 j2 j3 => (f25 (j) (by omega)).trans (c21d (j) (by omega))) (by omega)) (by omega) (by omega) e24 (fun i hi => absurd hi (by omega)) (by omega) (by omega)) sX4_choose mw_1134 mKX4 rfl ((f25 (27) (by omega)).trans c21c) rfl (Nat.le_of_ble_eq_true rfl) ⟨⟨Nat.le_of_ble_eq_true rfl, Nat.le_of_ble_eq_true rfl⟩, (by first | exact Nat.le_of_ble_eq_true rfl | (simp only [rX4_isRow, rX4_isLet, rX4_choose, rX4_did, rX4_clear]; omega)), (by first | exact Nat.le_of_ble_eq_true rfl | (simp only [rX4_isRow, rX4_isLet, rX4_choose, rX4_did, rX4_clear]; omega))⟩ (fun v26 h27 n28 c29 => ?_) (fun _ _ _ hx => hx.elim)
      obtain ⟨c29a, c29b, c29c, c29d, c29e⟩ := c29
      rw [c29a, c29b]
      have c29k : ∀ j, j < n + 1 ∧ j ≠ 28 ∧ j ≠ 33 → h27 j = h23 j := fun j hj => c29e j hj.1 hj.2.1 hj.2.2
      obtain ⟨Sz30, eSz30⟩ : ∃ s9 : cS, s9 = cSet S r3 (chF (S.1 r3) (fun _ => 0) 0) := ⟨_, rfl⟩
      obtain ⟨kxz30, sxz30, HRz30⟩ : ∃ k9 s9, mRows h27 (n + 3) Sz30 k9 s9 := by rw [eSz30]; exact ⟨_, _, c29c⟩
      have eLz30 : (Sz30.1 r3).length = 0 := by rw [eSz30, cSet_s]; exact chF_l
      obtain ⟨⟨gk_31, G28_31, GK_31⟩, ⟨gs_31, G33_31, GS_31⟩, AK_31, AS_31, NE_31, NQ_31, LE_31⟩ := id HRz30
      obtain ⟨⟨ka_32, kb_32, kc_32, kd_32⟩, kf_32, ke_32, kg_32⟩ := AK_31 r3 (by omega)
      obtain ⟨⟨sa_32, sb_32, sc_32, sd_32⟩, sf_32, se_32, sg_32⟩ := AS_31 r3 (by omega)
      have kn_32 := NE_31 r3 r3 (by omega) (by omega)
      have kl_32 := LE_31 r3 (by omega)
      have km_32 := rroom_le (r := r3)
      show mT _ _ _ _ 30 [.ref 27, .int (nI r3), .int (nI ((S.1 r3).length))] [] _ _ _ _
      refine mt_aload_n dX4_clear_30 rfl rfl ?_
      refine mt_iload_n dX4_clear_31 rfl ?_
      refine mt_callV (N := mX4_did) (Rc := rX4_did) (As := [.int (nI ((S.1 r3).length))]) (st := []) dX4_clear_32 (kX4_did hl c29d) sX4_did mw_1105 mKX4 rfl c29d rfl (Nat.le_of_ble_eq_true rfl) ⟨⟨Nat.le_of_ble_eq_true rfl, Nat.le_of_ble_eq_true rfl⟩, (by first | exact Nat.le_of_ble_eq_true rfl | (simp only [rX4_isRow, rX4_isLet, rX4_choose, rX4_did, rX4_clear]; omega)), (by first | exact Nat.le_of_ble_eq_true rfl | (simp only [rX4_isRow, rX4_isLet, rX4_choose, rX4_did, rX4_clear]; omega))⟩ (fun v33 h34 n35 c36 => ?_) (fun _ _ _ hx => hx.elim)
      obtain ⟨c36a, c36b, c36c, c36d⟩ := c36
      rw [c36a, c36b]
      show mT _ _ _ _ 35 [.ref 27, .int (nI r3), .int (nI ((S.1 r3).length))] [.int (nI ((S.1 r3).length))] _ _ _ _
      refine mt_ireturn dX4_clear_35 rfl rfl (by first | exact Nat.le_of_ble_eq_true rfl | (simp only [rX4_isRow, rX4_isLet, rX4_choose, rX4_did, rX4_clear]; omega)) (by first | exact Nat.le_of_ble_eq_true rfl | (simp only [rX4_isRow, rX4_isLet, rX4_choose, rX4_did, rX4_clear]; omega)) ?_
      exact mOk.of (x := .int (nI ((S.1 r3).length))) (S' := ((Sz30).1, S.2.1, S.2.2.1 + nI 1, S.2.2.2.1, S.2.2.2.2)) (by rw [eSz30]; simp only [mp_clear, dAt_s (k := 4) hr3 (by first | decide | omega), if_neg q22, cSet_s] <;> first | rfl | simp_all) rfl (by omega) c36c (by omega) (mRows.fr (n' := n + 3) HRz30 (by omega) (fun j j1 j2 j3 => c36d (j) (by omega)) (by omega)) (fun j hj => (c36d j (by omega)).trans ((c29k j (by omega)).trans ((f25 j (by omega)).trans (c21d j (by omega)))))
    · have q22 := (mI_eq0 (by omega)).mp q22
      exact absurd q22 (by decide)
set_option maxRecDepth 100000 in
set_option maxHeartbeats 2000000 in
theorem tX4_drop_41 {l : Launch} {R : Room} {K : mK} {cc sc : Nat} {n len : Nat} {h0 : mH} {r p : Nat} {ky : Int32} (hL : len ≤ 320) (hp : p < len + 1) (kk0 : ∀ (k : Nat) (h : mH) (g9 : Nat → Int32), (h n = .inl (0, len, g9)) → (∀ i, i < len → g9 i = nI (drF p i)) → (∀ j, j ≠ n → h j = h0 j) → mT l mX4_drop R K 75 [.ref 27, .int (nI r), .int (nI p), .int ky, .ref n, .int (nI k)] [] h (n + 1) cc sc) : ∀ (N0 : Nat) (k : Nat) (h : mH) (g9 : Nat → Int32), (len - k) < N0 → (h n = .inl (0, len, g9)) → (∀ i, i < k → g9 i = nI (drF p i)) → (∀ j, j ≠ n → h j = h0 j) → (k ≤ len) → mT l mX4_drop R K 41 [.ref 27, .int (nI r), .int (nI p), .int ky, .ref n, .int (nI k)] [] h (n + 1) cc sc := by
  intro N0
  induction N0 with
  | zero => intro k h g9 hm; exact absurd hm (Nat.not_lt_zero _)
  | succ N0 ih =>
    intro k h g9 hm eN hg hfr hk
    refine mt_iload dX4_drop_41 rfl ?_
    refine mt_aload dX4_drop_43 rfl rfl ?_
    refine mt_alen dX4_drop_45 eN (by decide) ?_
    refine mt_icmp_ge dX4_drop_46 (tgt := 75) rfl (fun q1 => ?_) (fun q1 => ?_)
    · have q1 := Int32.not_lt.mpr q1
      have q1 := (not_congr (nI_ltI (by omega) (by omega))).mp q1
      exact kk0 k h g9 eN (fun i hi => hg i (by omega)) hfr
    · have q1 := Int32.not_le.mp q1
      have q1 := (nI_ltI (by omega) (by omega)).mp q1
      refine mt_aload dX4_drop_49 rfl rfl ?_
      refine mt_iload dX4_drop_51 rfl ?_
      refine mt_iload dX4_drop_53 rfl ?_
      refine mt_iload_n dX4_drop_55 rfl ?_
      refine mt_icmp_ge dX4_drop_56 (tgt := 64) rfl (fun q2 => ?_) (fun q2 => ?_)
      · have q2 := Int32.not_lt.mpr q2
        have q2 := (not_congr (nI_ltI (by omega) (by omega))).mp q2
        refine mt_iload dX4_drop_64 rfl ?_
        refine mt_iconst dX4_drop_66 (v := nI 1) rfl ?_
        refine mp_iadd dX4_drop_67 (v := nI (k + 1)) (nI_add _ _) ?_
        refine mp_iastore dX4_drop_68 eN rfl (by omega) (by omega) (fun h3 e4 f5 => ?_)
        refine mp_iinc dX4_drop_69 rfl (v := nI (k + 1)) mI_inc (ls' := [.ref 27, .int (nI r), .int (nI p), .int ky, .ref n, .int (nI (k + 1))]) rfl (by decide) rfl ?_
        refine mt_goto dX4_drop_72 (tgt := 41) rfl ?_
        exact ih (k + 1) h3 (upd g9 k (nI (k + 1))) (by omega) e4 (arr_step (F := fun i => nI (drF p i)) hg ((congrArg nI (if_neg q2)).symm)) (fun j hj => (f5 j (by omega)).trans (hfr j hj)) (by omega)
      · have q2 := Int32.not_le.mp q2
        have q2 := (nI_ltI (by omega) (by omega)).mp q2
        refine mt_iload dX4_drop_59 rfl ?_
        refine mt_goto dX4_drop_61 (tgt := 68) rfl ?_
        refine mp_iastore dX4_drop_68 eN rfl (by omega) (by omega) (fun h6 e7 f8 => ?_)
        refine mp_iinc dX4_drop_69 rfl (v := nI (k + 1)) mI_inc (ls' := [.ref 27, .int (nI r), .int (nI p), .int ky, .ref n, .int (nI (k + 1))]) rfl (by decide) rfl ?_
        refine mt_goto dX4_drop_72 (tgt := 41) rfl ?_
        exact ih (k + 1) h6 (upd g9 k (nI k)) (by omega) e7 (arr_step (F := fun i => nI (drF p i)) hg ((congrArg nI (if_pos q2)).symm)) (fun j hj => (f8 j (by omega)).trans (hfr j hj)) (by omega)
abbrev rX4_drop : Room := { frames := 3, cells := 3, slots := 960, locals := 64 }
def mp_drop (S : cS) (row : Int32) (place : Int32) : Nat × Value × cS := dAt S 4 row fun r => dAt S (S.1 r).length place fun p => (0, .int (xk (S.1 r) p), cAct (cSet S r (chF (S.1 r) (drF p) ((S.1 r).length - 1))))
set_option maxRecDepth 100000 in
set_option maxHeartbeats 2000000 in
theorem kX4_drop {l : Launch} (hl : l.stackTraces = false) {h : mH} {n : Nat} {S : cS} {th : Int32} {row : Int32} {place : Int32} (C : mAt h n S th) : mC l mX4_drop rX4_drop [.ref 27, .int row, .int place] h n (mOk (mp_drop S row place) (.int (nI 0)) h n) (mNX) := by
  obtain ⟨C0, h39, kx, sx, HR⟩ := id C
  obtain ⟨⟨gk_1, G28_1, GK_1⟩, ⟨gs_1, G33_1, GS_1⟩, AK_1, AS_1, NE_1, NQ_1, LE_1⟩ := id HR
  refine mm_enter hl (by decide +kernel) rfl rfl rfl (Nat.le_of_ble_eq_true rfl) ?_
  show mT _ _ _ _ 0 [.ref 27, .int row, .int place, .double 0, .double 0, .double 0] [] _ _ 0 0
  rcases hq2 : inN 4 row with _ | r3
  · refine mt_aload_n dX4_drop_0 rfl rfl ?_
    refine mt_aload_n dX4_drop_1 rfl rfl ?_
    refine mt_iload_n dX4_drop_2 rfl ?_
    refine mt_iload_n dX4_drop_3 rfl ?_
    refine mt_callV (N := mX4_isPlace) (Rc := rX4_isPlace) (As := [.int row, .int place]) (st := [.ref 27]) dX4_drop_4 (kX4_isPlace_f hl hq2) sX4_isPlace mw_1126 mKX4 rfl C0 rfl (Nat.le_of_ble_eq_true rfl) ⟨⟨Nat.le_of_ble_eq_true rfl, Nat.le_of_ble_eq_true rfl⟩, (by first | exact Nat.le_of_ble_eq_true rfl | (simp only [rX4_isPlace, rX4_isLet, rX4_choose, rX4_did, rX4_drop]; omega)), (by first | exact Nat.le_of_ble_eq_true rfl | (simp only [rX4_isPlace, rX4_isLet, rX4_choose, rX4_did, rX4_drop]; omega))⟩ (fun v4 h5 n6 c7 => ?_) (fun _ _ _ hx => hx.elim)
    obtain ⟨c7a, c7b, c7c⟩ := c7
    rw [c7a, c7b, c7c]
    show mT _ _ _ _ 7 [.ref 27, .int row, .int place, .double 0, .double 0, .double 0] [.int (nI 0), .ref 27] _ _ _ _
    refine mt_iconst dX4_drop_7 (v := nI 1) rfl ?_
    refine mt_callV (N := mX4_isLet) (Rc := rX4_isLet) (As := [.int (nI 0), .int (nI 1)]) (st := []) dX4_drop_8 (kX4_isLet (t := false) (f := true) hl C0) sX4_isLet mw_1092 mKX4 rfl C0 rfl (Nat.le_of_ble_eq_true rfl) ⟨⟨Nat.le_of_ble_eq_true rfl, Nat.le_of_ble_eq_true rfl⟩, (by first | exact Nat.le_of_ble_eq_true rfl | (simp only [rX4_isPlace, rX4_isLet, rX4_choose, rX4_did, rX4_drop]; omega)), (by first | exact Nat.le_of_ble_eq_true rfl | (simp only [rX4_isPlace, rX4_isLet, rX4_choose, rX4_did, rX4_drop]; omega))⟩ (fun v8 h9 n10 c11 => ?_) (fun _ _ _ hx => hx.elim)
    obtain ⟨c11a, c11b, c11c, c11d⟩ := c11
    rw [c11a, c11b]
    show mT _ _ _ _ 11 [.ref 27, .int row, .int place, .double 0, .double 0, .double 0] [.int (nI 0)] _ _ _ _
    refine mt_if_ne dX4_drop_11 (tgt := 16) rfl (fun q12 => ?_) (fun q12 => ?_)
    · have q12 := (not_congr (mI_eq0 (by omega))).mp q12
      exact absurd q12 (by decide)
    · have q12 := (mI_eq0 (by omega)).mp q12
      refine mt_iconst dX4_drop_14 (v := nI 0) rfl ?_
      refine mt_ireturn dX4_drop_15 rfl rfl (by first | exact Nat.le_of_ble_eq_true rfl | (simp only [rX4_isPlace, rX4_isLet, rX4_choose, rX4_did, rX4_drop]; omega)) (by first | exact Nat.le_of_ble_eq_true rfl | (simp only [rX4_isPlace, rX4_isLet, rX4_choose, rX4_did, rX4_drop]; omega)) ?_
      exact mOk.no (k := 1) (S' := S) (by simp only [mp_drop, dAt_n (k := 4) (x := row) hq2, if_pos q12]) (by decide) rfl (by omega) c11c (by omega) (mRows.fr (n' := n) HR (by omega) (fun j j1 j2 j3 => c11d (j) (by omega)) (by omega)) (fun j hj => c11d j (by omega))
  · obtain ⟨hr3, rfl⟩ := inN_of hq2 (by first | decide | omega)
    obtain ⟨⟨ka_13, kb_13, kc_13, kd_13⟩, kf_13, ke_13, kg_13⟩ := AK_1 r3 hr3
    obtain ⟨⟨sa_13, sb_13, sc_13, sd_13⟩, sf_13, se_13, sg_13⟩ := AS_1 r3 hr3
    have kn_13 := NE_1 r3 r3 hr3 hr3
    have kl_13 := LE_1 r3 hr3
    have km_13 := rroom_le (r := r3)
    rcases hq14 : inN (S.1 r3).length place with _ | p15
    · refine mt_aload_n dX4_drop_0 rfl rfl ?_
      refine mt_aload_n dX4_drop_1 rfl rfl ?_
      refine mt_iload_n dX4_drop_2 rfl ?_
      refine mt_iload_n dX4_drop_3 rfl ?_
      refine mt_callV (N := mX4_isPlace) (Rc := rX4_isPlace) (As := [.int (nI r3), .int place]) (st := [.ref 27]) dX4_drop_4 (kX4_isPlace hl C0 HR (by omega) (by omega)) sX4_isPlace mw_1126 mKX4 rfl C0 rfl (Nat.le_of_ble_eq_true rfl) ⟨⟨Nat.le_of_ble_eq_true rfl, Nat.le_of_ble_eq_true rfl⟩, (by first | exact Nat.le_of_ble_eq_true rfl | (simp only [rX4_isPlace, rX4_isLet, rX4_choose, rX4_did, rX4_drop]; omega)), (by first | exact Nat.le_of_ble_eq_true rfl | (simp only [rX4_isPlace, rX4_isLet, rX4_choose, rX4_did, rX4_drop]; omega))⟩ (fun v16 h17 n18 c19 => ?_) (fun _ _ _ hx => hx.elim)
      obtain ⟨c19a, c19b, c19c⟩ := c19
      rw [show (inN (S.1 r3).length place).isSome = false from by rw [hq14]; rfl] at c19a
      rw [c19a, c19b, c19c]
      show mT _ _ _ _ 7 [.ref 27, .int (nI r3), .int place, .double 0, .double 0, .double 0] [.int (nI 0), .ref 27] _ _ _ _
      refine mt_iconst dX4_drop_7 (v := nI 1) rfl ?_
      refine mt_callV (N := mX4_isLet) (Rc := rX4_isLet) (As := [.int (nI 0), .int (nI 1)]) (st := []) dX4_drop_8 (kX4_isLet (t := false) (f := true) hl C0) sX4_isLet mw_1092 mKX4 rfl C0 rfl (Nat.le_of_ble_eq_true rfl) ⟨⟨Nat.le_of_ble_eq_true rfl, Nat.le_of_ble_eq_true rfl⟩, (by first | exact Nat.le_of_ble_eq_true rfl | (simp only [rX4_isPlace, rX4_isLet, rX4_choose, rX4_did, rX4_drop]; omega)), (by first | exact Nat.le_of_ble_eq_true rfl | (simp only [rX4_isPlace, rX4_isLet, rX4_choose, rX4_did, rX4_drop]; omega))⟩ (fun v20 h21 n22 c23 => ?_) (fun _ _ _ hx => hx.elim)
      obtain ⟨c23a, c23b, c23c, c23d⟩ := c23
      rw [c23a, c23b]
      show mT _ _ _ _ 11 [.ref 27, .int (nI r3), .int place, .double 0, .double 0, .double 0] [.int (nI 0)] _ _ _ _
      refine mt_if_ne dX4_drop_11 (tgt := 16) rfl (fun q24 => ?_) (fun q24 => ?_)
      · have q24 := (not_congr (mI_eq0 (by omega))).mp q24
        exact absurd q24 (by decide)
      · have q24 := (mI_eq0 (by omega)).mp q24
        refine mt_iconst dX4_drop_14 (v := nI 0) rfl ?_
        refine mt_ireturn dX4_drop_15 rfl rfl (by first | exact Nat.le_of_ble_eq_true rfl | (simp only [rX4_isPlace, rX4_isLet, rX4_choose, rX4_did, rX4_drop]; omega)) (by first | exact Nat.le_of_ble_eq_true rfl | (simp only [rX4_isPlace, rX4_isLet, rX4_choose, rX4_did, rX4_drop]; omega)) ?_
        exact mOk.no (k := 1) (S' := S) (by simp only [mp_drop, dAt_s (k := 4) hr3 (by first | decide | omega), dAt_n (k := (S.1 r3).length) (x := place) hq14, if_pos q24]) (by decide) rfl (by omega) c23c (by omega) (mRows.fr (n' := n) HR (by omega) (fun j j1 j2 j3 => c23d (j) (by omega)) (by omega)) (fun j hj => c23d j (by omega))
    · obtain ⟨hp15, rfl⟩ := inN_of hq14 (by first | decide | omega)
      refine mt_aload_n dX4_drop_0 rfl rfl ?_
      refine mt_aload_n dX4_drop_1 rfl rfl ?_
      refine mt_iload_n dX4_drop_2 rfl ?_
      refine mt_iload_n dX4_drop_3 rfl ?_
      refine mt_callV (N := mX4_isPlace) (Rc := rX4_isPlace) (As := [.int (nI r3), .int (nI p15)]) (st := [.ref 27]) dX4_drop_4 (kX4_isPlace hl C0 HR (by omega) (by omega)) sX4_isPlace mw_1126 mKX4 rfl C0 rfl (Nat.le_of_ble_eq_true rfl) ⟨⟨Nat.le_of_ble_eq_true rfl, Nat.le_of_ble_eq_true rfl⟩, (by first | exact Nat.le_of_ble_eq_true rfl | (simp only [rX4_isPlace, rX4_isLet, rX4_choose, rX4_did, rX4_drop]; omega)), (by first | exact Nat.le_of_ble_eq_true rfl | (simp only [rX4_isPlace, rX4_isLet, rX4_choose, rX4_did, rX4_drop]; omega))⟩ (fun v25 h26 n27 c28 => ?_) (fun _ _ _ hx => hx.elim)
      obtain ⟨c28a, c28b, c28c⟩ := c28
      rw [show (inN (S.1 r3).length (nI p15)).isSome = true from by rw [inN_some hp15 (by omega)]; rfl] at c28a
      rw [c28a, c28b, c28c]
      show mT _ _ _ _ 7 [.ref 27, .int (nI r3), .int (nI p15), .double 0, .double 0, .double 0] [.int (nI 1), .ref 27] _ _ _ _
      refine mt_iconst dX4_drop_7 (v := nI 1) rfl ?_
      refine mt_callV (N := mX4_isLet) (Rc := rX4_isLet) (As := [.int (nI 1), .int (nI 1)]) (st := []) dX4_drop_8 (kX4_isLet (t := true) (f := true) hl C0) sX4_isLet mw_1092 mKX4 rfl C0 rfl (Nat.le_of_ble_eq_true rfl) ⟨⟨Nat.le_of_ble_eq_true rfl, Nat.le_of_ble_eq_true rfl⟩, (by first | exact Nat.le_of_ble_eq_true rfl | (simp only [rX4_isPlace, rX4_isLet, rX4_choose, rX4_did, rX4_drop]; omega)), (by first | exact Nat.le_of_ble_eq_true rfl | (simp only [rX4_isPlace, rX4_isLet, rX4_choose, rX4_did, rX4_drop]; omega))⟩ (fun v29 h30 n31 c32 => ?_) (fun _ _ _ hx => hx.elim)
      obtain ⟨c32a, c32b, c32c, c32d⟩ := c32
      rw [c32a, c32b]
      show mT _ _ _ _ 11 [.ref 27, .int (nI r3), .int (nI p15), .double 0, .double 0, .double 0] [.int (nI 1)] _ _ _ _
      refine mt_if_ne dX4_drop_11 (tgt := 16) rfl (fun q33 => ?_) (fun q33 => ?_)
      · have q33 := (not_congr (mI_eq0 (by omega))).mp q33
        refine mt_aload_n dX4_drop_16 rfl rfl ?_
        refine mt_getfield mKX4 (i := 0) (by decide) mw_1053 dX4_drop_17 c32c rfl ?_
        refine mt_iload_n dX4_drop_20 rfl ?_
        refine mp_aaload dX4_drop_21 ((c32d (28) (by omega)).trans G28_1) (fun _ => rfl) rfl rfl (by omega) (by omega) (v := .ref (kx r3)) (by rw [GK_1 _ (by omega)]; rfl) ?_
        refine mt_iload_n dX4_drop_22 rfl ?_
        refine mp_iaload dX4_drop_23 ((c32d (kx r3) (by omega)).trans ke_13) rfl (by omega) (by omega) (v := xk (S.1 r3) p15) (kg_13 _ (by omega)) ?_
        refine mp_istore_n dX4_drop_24 (ls' := [.ref 27, .int (nI r3), .int (nI p15), .int (xk (S.1 r3) p15), .double 0, .double 0]) rfl (by decide) rfl ?_
        refine mt_aload_n dX4_drop_25 rfl rfl ?_
        refine mt_getfield mKX4 (i := 0) (by decide) mw_1053 dX4_drop_26 c32c rfl ?_
        refine mt_iload_n dX4_drop_29 rfl ?_
        refine mp_aaload dX4_drop_30 ((c32d (28) (by omega)).trans G28_1) (fun _ => rfl) rfl rfl (by omega) (by omega) (v := .ref (kx r3)) (by rw [GK_1 _ (by omega)]; rfl) ?_
        refine mt_alen dX4_drop_31 ((c32d (kx r3) (by omega)).trans ke_13) (by decide) ?_
        refine mt_iconst dX4_drop_32 (v := nI 1) rfl ?_
        refine mp_isub dX4_drop_33 (v := nI (((S.1 r3).length) - 1)) (pk_sub (by omega)) ?_
        refine mp_newarray dX4_drop_34 mw_87 rfl (by omega) (by simp only [rX4_drop]; omega) (by simp only [rX4_drop]; omega) (fun h34 e35 f36 => ?_)
        refine mp_astore dX4_drop_36 (ls' := [.ref 27, .int (nI r3), .int (nI p15), .int (xk (S.1 r3) p15), .ref n, .double 0]) rfl rfl (by decide) rfl ?_
        refine mt_iconst dX4_drop_38 (v := nI 0) rfl ?_
        refine mp_istore dX4_drop_39 (ls' := [.ref 27, .int (nI r3), .int (nI p15), .int (xk (S.1 r3) p15), .ref n, .int (nI 0)]) rfl (by decide) rfl ?_
        refine tX4_drop_41 (by omega) (by omega) (fun k_37 h_38 g9_39 z40 z41 z42 => ?_) _ 0 h34 (fun _ => (0 : Int32)) (Nat.lt_succ_self _) e35 (fun i hi => absurd hi (by omega)) (fun _ _ => rfl) (by omega)
        refine mt_aload_n dX4_drop_75 rfl rfl ?_
        refine mt_iload_n dX4_drop_76 rfl ?_
        refine mt_aload dX4_drop_77 rfl rfl ?_
        refine mt_callV (N := mX4_choose) (Rc := rX4_choose) (As := [.int (nI r3), .ref n]) (st := []) dX4_drop_79 (kX4_choose (pl := drF p15) hl ((z42 (27) (by omega)).trans ((f36 (27) (by omega)).trans c32c)) (mRows.fr (n' := n + 1) HR (by omega) (fun j j1 j2 j3 => (z42 (j) (by omega)).trans ((f36 (j) (by omega)).trans (c32d (j) (by omega)))) (by omega)) (by omega) (by omega) z40 (fun i hi => ⟨z41 i hi, by unfold drF; split <;> omega⟩) (by omega) (by omega)) sX4_choose mw_1134 mKX4 rfl ((z42 (27) (by omega)).trans ((f36 (27) (by omega)).trans c32c)) rfl (Nat.le_of_ble_eq_true rfl) ⟨⟨Nat.le_of_ble_eq_true rfl, Nat.le_of_ble_eq_true rfl⟩, (by first | exact Nat.le_of_ble_eq_true rfl | (simp only [rX4_isPlace, rX4_isLet, rX4_choose, rX4_did, rX4_drop]; omega)), (by first | exact Nat.le_of_ble_eq_true rfl | (simp only [rX4_isPlace, rX4_isLet, rX4_choose, rX4_did, rX4_drop]; omega))⟩ (fun v43 h44 n45 c46 => ?_) (fun _ _ _ hx => hx.elim)
        obtain ⟨c46a, c46b, c46c, c46d, c46e⟩ := c46
        rw [c46a, c46b]
        have c46k : ∀ j, j < n + 1 ∧ j ≠ 28 ∧ j ≠ 33 → h44 j = h_38 j := fun j hj => c46e j hj.1 hj.2.1 hj.2.2
        obtain ⟨Sz47, eSz47⟩ : ∃ s9 : cS, s9 = cSet S r3 (chF (S.1 r3) (drF p15) (((S.1 r3).length) - 1)) := ⟨_, rfl⟩
        obtain ⟨kxz47, sxz47, HRz47⟩ : ∃ k9 s9, mRows h44 (n + 3) Sz47 k9 s9 := by rw [eSz47]; exact ⟨_, _, c46c⟩
        have eLz47 : (Sz47.1 r3).length = ((S.1 r3).length) - 1 := by rw [eSz47, cSet_s]; exact chF_l
        obtain ⟨⟨gk_48, G28_48, GK_48⟩, ⟨gs_48, G33_48, GS_48⟩, AK_48, AS_48, NE_48, NQ_48, LE_48⟩ := id HRz47
        obtain ⟨⟨ka_49, kb_49, kc_49, kd_49⟩, kf_49, ke_49, kg_49⟩ := AK_48 r3 (by omega)
        obtain ⟨⟨sa_49, sb_49, sc_49, sd_49⟩, sf_49, se_49, sg_49⟩ := AS_48 r3 (by omega)
        have kn_49 := NE_48 r3 r3 (by omega) (by omega)
        have kl_49 := LE_48 r3 (by omega)
        have km_49 := rroom_le (r := r3)
        show mT _ _ _ _ 82 [.ref 27, .int (nI r3), .int (nI p15), .int (xk (S.1 r3) p15), .ref n, .int (nI k_37)] [] _ _ _ _
        refine mt_aload_n dX4_drop_82 rfl rfl ?_
        refine mt_iload_n dX4_drop_83 rfl ?_
        refine mt_callV (N := mX4_did) (Rc := rX4_did) (As := [.int (xk (S.1 r3) p15)]) (st := []) dX4_drop_84 (kX4_did hl c46d) sX4_did mw_1105 mKX4 rfl c46d rfl (Nat.le_of_ble_eq_true rfl) ⟨⟨Nat.le_of_ble_eq_true rfl, Nat.le_of_ble_eq_true rfl⟩, (by first | exact Nat.le_of_ble_eq_true rfl | (simp only [rX4_isPlace, rX4_isLet, rX4_choose, rX4_did, rX4_drop]; omega)), (by first | exact Nat.le_of_ble_eq_true rfl | (simp only [rX4_isPlace, rX4_isLet, rX4_choose, rX4_did, rX4_drop]; omega))⟩ (fun v50 h51 n52 c53 => ?_) (fun _ _ _ hx => hx.elim)
        obtain ⟨c53a, c53b, c53c, c53d⟩ := c53
        rw [c53a, c53b]
        show mT _ _ _ _ 87 [.ref 27, .int (nI r3), .int (nI p15), .int (xk (S.1 r3) p15), .ref n, .int (nI k_37)] [.int (xk (S.1 r3) p15)] _ _ _ _
        refine mt_ireturn dX4_drop_87 rfl rfl (by first | exact Nat.le_of_ble_eq_true rfl | (simp only [rX4_isPlace, rX4_isLet, rX4_choose, rX4_did, rX4_drop]; omega)) (by first | exact Nat.le_of_ble_eq_true rfl | (simp only [rX4_isPlace, rX4_isLet, rX4_choose, rX4_did, rX4_drop]; omega)) ?_
        exact mOk.of (x := .int (xk (S.1 r3) p15)) (S' := ((Sz47).1, S.2.1, S.2.2.1 + nI 1, S.2.2.2.1, S.2.2.2.2)) (by rw [eSz47]; simp only [mp_drop, dAt_s (k := 4) hr3 (by first | decide | omega), dAt_s (k := (S.1 r3).length) hp15 (by first | decide | omega), if_neg q33, cSet_s] <;> first | rfl | simp_all) rfl (by omega) c53c (by omega) (mRows.fr (n' := n + 3) HRz47 (by omega) (fun j j1 j2 j3 => c53d (j) (by omega)) (by omega)) (fun j hj => (c53d j (by omega)).trans ((c46k j (by omega)).trans ((z42 j (by omega)).trans ((f36 j (by omega)).trans (c32d j (by omega))))))
      · have q33 := (mI_eq0 (by omega)).mp q33
        exact absurd q33 (by decide)
abbrev rX4_put : Room := { frames := 3, cells := 1, slots := 640, locals := 64 }
def mp_put (S : cS) (row : Int32) (place : Int32) (key : Int32) : Nat × Value × cS := dAt S 4 row fun r => dAt S (S.1 r).length place fun p => dFit S (keyOk key) (0, .int (xk (S.1 r) p), cAct (cGiv (cSet S r ((S.1 r).set p (key, madeF r S.2.1 0))) (madeG r 1 S.2.1)))
set_option maxRecDepth 100000 in
set_option maxHeartbeats 2000000 in
theorem kX4_put {l : Launch} (hl : l.stackTraces = false) {h : mH} {n : Nat} {S : cS} {th : Int32} {row : Int32} {place : Int32} {key : Int32} (C : mAt h n S th) : mC l mX4_put rX4_put [.ref 27, .int row, .int place, .int key] h n (mOk (mp_put S row place key) (.int (nI 0)) h n) (mNX) := by
  obtain ⟨C0, h39, kx, sx, HR⟩ := id C
  obtain ⟨⟨gk_1, G28_1, GK_1⟩, ⟨gs_1, G33_1, GS_1⟩, AK_1, AS_1, NE_1, NQ_1, LE_1⟩ := id HR
  refine mm_enter hl (by decide +kernel) rfl rfl rfl (Nat.le_of_ble_eq_true rfl) ?_
  show mT _ _ _ _ 0 [.ref 27, .int row, .int place, .int key, .double 0] [] _ _ 0 0
  rcases hq2 : inN 4 row with _ | r3
  · refine mt_aload_n dX4_put_0 rfl rfl ?_
    refine mt_aload_n dX4_put_1 rfl rfl ?_
    refine mt_iload_n dX4_put_2 rfl ?_
    refine mt_iload_n dX4_put_3 rfl ?_
    refine mt_callV (N := mX4_isPlace) (Rc := rX4_isPlace) (As := [.int row, .int place]) (st := [.ref 27]) dX4_put_4 (kX4_isPlace_f hl hq2) sX4_isPlace mw_1126 mKX4 rfl C0 rfl (Nat.le_of_ble_eq_true rfl) ⟨⟨Nat.le_of_ble_eq_true rfl, Nat.le_of_ble_eq_true rfl⟩, (by first | exact Nat.le_of_ble_eq_true rfl | (simp only [rX4_isPlace, rX4_isIn, rX4_isLet, rX4_made, rX4_did, rX4_put]; omega)), (by first | exact Nat.le_of_ble_eq_true rfl | (simp only [rX4_isPlace, rX4_isIn, rX4_isLet, rX4_made, rX4_did, rX4_put]; omega))⟩ (fun v4 h5 n6 c7 => ?_) (fun _ _ _ hx => hx.elim)
    obtain ⟨c7a, c7b, c7c⟩ := c7
    rw [c7a, c7b, c7c]
    show mT _ _ _ _ 7 [.ref 27, .int row, .int place, .int key, .double 0] [.int (nI 0), .ref 27] _ _ _ _
    refine mt_iload_n dX4_put_7 rfl ?_
    refine mt_ldc (v := (-99999)) dX4_put_8 mw_1113 ?_
    refine mt_ldc (v := nI 99999) dX4_put_10 mw_1114 ?_
    refine mt_callS (N := mX4_isIn) (Rc := rX4_isIn) (As := [.int key, .int (-99999), .int (nI 99999)]) (st := [.int (nI 0), .ref 27]) dX4_put_12 (kX4_isIn hl) sX4_isIn mw_1086 rfl (Nat.le_of_ble_eq_true rfl) ⟨⟨Nat.le_of_ble_eq_true rfl, Nat.le_of_ble_eq_true rfl⟩, (by first | exact Nat.le_of_ble_eq_true rfl | (simp only [rX4_isPlace, rX4_isIn, rX4_isLet, rX4_made, rX4_did, rX4_put]; omega)), (by first | exact Nat.le_of_ble_eq_true rfl | (simp only [rX4_isPlace, rX4_isIn, rX4_isLet, rX4_made, rX4_did, rX4_put]; omega))⟩ (fun v8 h9 n10 c11 => ?_) (fun _ _ _ hx => hx.elim)
    obtain ⟨c11a, c11b, c11c⟩ := c11
    rw [c11a, c11b, c11c]
    show mT _ _ _ _ 15 [.ref 27, .int row, .int place, .int key, .double 0] [.int (mb (inR key (-99999) (nI 99999))), .int (nI 0), .ref 27] _ _ _ _
    refine mt_callV (N := mX4_isLet) (Rc := rX4_isLet) (As := [.int (nI 0), .int (mb (inR key (-99999) (nI 99999)))]) (st := []) dX4_put_15 (kX4_isLet (t := false) (f := inR key (-99999) (nI 99999)) hl C0) sX4_isLet mw_1092 mKX4 rfl C0 rfl (Nat.le_of_ble_eq_true rfl) ⟨⟨Nat.le_of_ble_eq_true rfl, Nat.le_of_ble_eq_true rfl⟩, (by first | exact Nat.le_of_ble_eq_true rfl | (simp only [rX4_isPlace, rX4_isIn, rX4_isLet, rX4_made, rX4_did, rX4_put]; omega)), (by first | exact Nat.le_of_ble_eq_true rfl | (simp only [rX4_isPlace, rX4_isIn, rX4_isLet, rX4_made, rX4_did, rX4_put]; omega))⟩ (fun v12 h13 n14 c15 => ?_) (fun _ _ _ hx => hx.elim)
    obtain ⟨c15a, c15b, c15c, c15d⟩ := c15
    rw [c15a, c15b]
    show mT _ _ _ _ 18 [.ref 27, .int row, .int place, .int key, .double 0] [.int (nI 0)] _ _ _ _
    refine mt_if_ne dX4_put_18 (tgt := 23) rfl (fun q16 => ?_) (fun q16 => ?_)
    · have q16 := (not_congr (mI_eq0 (by omega))).mp q16
      exact absurd q16 (by decide)
    · have q16 := (mI_eq0 (by omega)).mp q16
      refine mt_iconst dX4_put_21 (v := nI 0) rfl ?_
      refine mt_ireturn dX4_put_22 rfl rfl (by first | exact Nat.le_of_ble_eq_true rfl | (simp only [rX4_isPlace, rX4_isIn, rX4_isLet, rX4_made, rX4_did, rX4_put]; omega)) (by first | exact Nat.le_of_ble_eq_true rfl | (simp only [rX4_isPlace, rX4_isIn, rX4_isLet, rX4_made, rX4_did, rX4_put]; omega)) ?_
      exact mOk.no (k := 1) (S' := S) (by simp only [mp_put, dAt_n (k := 4) (x := row) hq2, if_pos q16]) (by decide) rfl (by omega) c15c (by omega) (mRows.fr (n' := n) HR (by omega) (fun j j1 j2 j3 => c15d (j) (by omega)) (by omega)) (fun j hj => c15d j (by omega))
  · obtain ⟨hr3, rfl⟩ := inN_of hq2 (by first | decide | omega)
    obtain ⟨⟨ka_17, kb_17, kc_17, kd_17⟩, kf_17, ke_17, kg_17⟩ := AK_1 r3 hr3
    obtain ⟨⟨sa_17, sb_17, sc_17, sd_17⟩, sf_17, se_17, sg_17⟩ := AS_1 r3 hr3
    have kn_17 := NE_1 r3 r3 hr3 hr3
    have kl_17 := LE_1 r3 hr3
    have km_17 := rroom_le (r := r3)
    rcases hq18 : inN (S.1 r3).length place with _ | p19
    · refine mt_aload_n dX4_put_0 rfl rfl ?_
      refine mt_aload_n dX4_put_1 rfl rfl ?_
      refine mt_iload_n dX4_put_2 rfl ?_
      refine mt_iload_n dX4_put_3 rfl ?_
      refine mt_callV (N := mX4_isPlace) (Rc := rX4_isPlace) (As := [.int (nI r3), .int place]) (st := [.ref 27]) dX4_put_4 (kX4_isPlace hl C0 HR (by omega) (by omega)) sX4_isPlace mw_1126 mKX4 rfl C0 rfl (Nat.le_of_ble_eq_true rfl) ⟨⟨Nat.le_of_ble_eq_true rfl, Nat.le_of_ble_eq_true rfl⟩, (by first | exact Nat.le_of_ble_eq_true rfl | (simp only [rX4_isPlace, rX4_isIn, rX4_isLet, rX4_made, rX4_did, rX4_put]; omega)), (by first | exact Nat.le_of_ble_eq_true rfl | (simp only [rX4_isPlace, rX4_isIn, rX4_isLet, rX4_made, rX4_did, rX4_put]; omega))⟩ (fun v20 h21 n22 c23 => ?_) (fun _ _ _ hx => hx.elim)
      obtain ⟨c23a, c23b, c23c⟩ := c23
      rw [show (inN (S.1 r3).length place).isSome = false from by rw [hq18]; rfl] at c23a
      rw [c23a, c23b, c23c]
      show mT _ _ _ _ 7 [.ref 27, .int (nI r3), .int place, .int key, .double 0] [.int (nI 0), .ref 27] _ _ _ _
      refine mt_iload_n dX4_put_7 rfl ?_
      refine mt_ldc (v := (-99999)) dX4_put_8 mw_1113 ?_
      refine mt_ldc (v := nI 99999) dX4_put_10 mw_1114 ?_
      refine mt_callS (N := mX4_isIn) (Rc := rX4_isIn) (As := [.int key, .int (-99999), .int (nI 99999)]) (st := [.int (nI 0), .ref 27]) dX4_put_12 (kX4_isIn hl) sX4_isIn mw_1086 rfl (Nat.le_of_ble_eq_true rfl) ⟨⟨Nat.le_of_ble_eq_true rfl, Nat.le_of_ble_eq_true rfl⟩, (by first | exact Nat.le_of_ble_eq_true rfl | (simp only [rX4_isPlace, rX4_isIn, rX4_isLet, rX4_made, rX4_did, rX4_put]; omega)), (by first | exact Nat.le_of_ble_eq_true rfl | (simp only [rX4_isPlace, rX4_isIn, rX4_isLet, rX4_made, rX4_did, rX4_put]; omega))⟩ (fun v24 h25 n26 c27 => ?_) (fun _ _ _ hx => hx.elim)
      obtain ⟨c27a, c27b, c27c⟩ := c27
      rw [c27a, c27b, c27c]
      show mT _ _ _ _ 15 [.ref 27, .int (nI r3), .int place, .int key, .double 0] [.int (mb (inR key (-99999) (nI 99999))), .int (nI 0), .ref 27] _ _ _ _
      refine mt_callV (N := mX4_isLet) (Rc := rX4_isLet) (As := [.int (nI 0), .int (mb (inR key (-99999) (nI 99999)))]) (st := []) dX4_put_15 (kX4_isLet (t := false) (f := inR key (-99999) (nI 99999)) hl C0) sX4_isLet mw_1092 mKX4 rfl C0 rfl (Nat.le_of_ble_eq_true rfl) ⟨⟨Nat.le_of_ble_eq_true rfl, Nat.le_of_ble_eq_true rfl⟩, (by first | exact Nat.le_of_ble_eq_true rfl | (simp only [rX4_isPlace, rX4_isIn, rX4_isLet, rX4_made, rX4_did, rX4_put]; omega)), (by first | exact Nat.le_of_ble_eq_true rfl | (simp only [rX4_isPlace, rX4_isIn, rX4_isLet, rX4_made, rX4_did, rX4_put]; omega))⟩ (fun v28 h29 n30 c31 => ?_) (fun _ _ _ hx => hx.elim)
      obtain ⟨c31a, c31b, c31c, c31d⟩ := c31
      rw [c31a, c31b]
      show mT _ _ _ _ 18 [.ref 27, .int (nI r3), .int place, .int key, .double 0] [.int (nI 0)] _ _ _ _
      refine mt_if_ne dX4_put_18 (tgt := 23) rfl (fun q32 => ?_) (fun q32 => ?_)
      · have q32 := (not_congr (mI_eq0 (by omega))).mp q32
        exact absurd q32 (by decide)
      · have q32 := (mI_eq0 (by omega)).mp q32
        refine mt_iconst dX4_put_21 (v := nI 0) rfl ?_
        refine mt_ireturn dX4_put_22 rfl rfl (by first | exact Nat.le_of_ble_eq_true rfl | (simp only [rX4_isPlace, rX4_isIn, rX4_isLet, rX4_made, rX4_did, rX4_put]; omega)) (by first | exact Nat.le_of_ble_eq_true rfl | (simp only [rX4_isPlace, rX4_isIn, rX4_isLet, rX4_made, rX4_did, rX4_put]; omega)) ?_
        exact mOk.no (k := 1) (S' := S) (by simp only [mp_put, dAt_s (k := 4) hr3 (by first | decide | omega), dAt_n (k := (S.1 r3).length) (x := place) hq18, if_pos q32]) (by decide) rfl (by omega) c31c (by omega) (mRows.fr (n' := n) HR (by omega) (fun j j1 j2 j3 => c31d (j) (by omega)) (by omega)) (fun j hj => c31d j (by omega))
    · obtain ⟨hp19, rfl⟩ := inN_of hq18 (by first | decide | omega)
      rcases hk33 : keyOk key with _ | _
      · refine mt_aload_n dX4_put_0 rfl rfl ?_
        refine mt_aload_n dX4_put_1 rfl rfl ?_
        refine mt_iload_n dX4_put_2 rfl ?_
        refine mt_iload_n dX4_put_3 rfl ?_
        refine mt_callV (N := mX4_isPlace) (Rc := rX4_isPlace) (As := [.int (nI r3), .int (nI p19)]) (st := [.ref 27]) dX4_put_4 (kX4_isPlace hl C0 HR (by omega) (by omega)) sX4_isPlace mw_1126 mKX4 rfl C0 rfl (Nat.le_of_ble_eq_true rfl) ⟨⟨Nat.le_of_ble_eq_true rfl, Nat.le_of_ble_eq_true rfl⟩, (by first | exact Nat.le_of_ble_eq_true rfl | (simp only [rX4_isPlace, rX4_isIn, rX4_isLet, rX4_made, rX4_did, rX4_put]; omega)), (by first | exact Nat.le_of_ble_eq_true rfl | (simp only [rX4_isPlace, rX4_isIn, rX4_isLet, rX4_made, rX4_did, rX4_put]; omega))⟩ (fun v34 h35 n36 c37 => ?_) (fun _ _ _ hx => hx.elim)
        obtain ⟨c37a, c37b, c37c⟩ := c37
        rw [show (inN (S.1 r3).length (nI p19)).isSome = true from by rw [inN_some hp19 (by omega)]; rfl] at c37a
        rw [c37a, c37b, c37c]
        show mT _ _ _ _ 7 [.ref 27, .int (nI r3), .int (nI p19), .int key, .double 0] [.int (nI 1), .ref 27] _ _ _ _
        refine mt_iload_n dX4_put_7 rfl ?_
        refine mt_ldc (v := (-99999)) dX4_put_8 mw_1113 ?_
        refine mt_ldc (v := nI 99999) dX4_put_10 mw_1114 ?_
        refine mt_callS (N := mX4_isIn) (Rc := rX4_isIn) (As := [.int key, .int (-99999), .int (nI 99999)]) (st := [.int (nI 1), .ref 27]) dX4_put_12 (kX4_isIn hl) sX4_isIn mw_1086 rfl (Nat.le_of_ble_eq_true rfl) ⟨⟨Nat.le_of_ble_eq_true rfl, Nat.le_of_ble_eq_true rfl⟩, (by first | exact Nat.le_of_ble_eq_true rfl | (simp only [rX4_isPlace, rX4_isIn, rX4_isLet, rX4_made, rX4_did, rX4_put]; omega)), (by first | exact Nat.le_of_ble_eq_true rfl | (simp only [rX4_isPlace, rX4_isIn, rX4_isLet, rX4_made, rX4_did, rX4_put]; omega))⟩ (fun v38 h39 n40 c41 => ?_) (fun _ _ _ hx => hx.elim)
        obtain ⟨c41a, c41b, c41c⟩ := c41
        rw [show inR key (-99999) (nI 99999) = false from hk33] at c41a
        rw [c41a, c41b, c41c]
        show mT _ _ _ _ 15 [.ref 27, .int (nI r3), .int (nI p19), .int key, .double 0] [.int (nI 0), .int (nI 1), .ref 27] _ _ _ _
        refine mt_callV (N := mX4_isLet) (Rc := rX4_isLet) (As := [.int (nI 1), .int (nI 0)]) (st := []) dX4_put_15 (kX4_isLet (t := true) (f := false) hl C0) sX4_isLet mw_1092 mKX4 rfl C0 rfl (Nat.le_of_ble_eq_true rfl) ⟨⟨Nat.le_of_ble_eq_true rfl, Nat.le_of_ble_eq_true rfl⟩, (by first | exact Nat.le_of_ble_eq_true rfl | (simp only [rX4_isPlace, rX4_isIn, rX4_isLet, rX4_made, rX4_did, rX4_put]; omega)), (by first | exact Nat.le_of_ble_eq_true rfl | (simp only [rX4_isPlace, rX4_isIn, rX4_isLet, rX4_made, rX4_did, rX4_put]; omega))⟩ (fun v42 h43 n44 c45 => ?_) (fun _ _ _ hx => hx.elim)
        obtain ⟨c45a, c45b, c45c, c45d⟩ := c45
        rw [c45a, c45b]
        show mT _ _ _ _ 18 [.ref 27, .int (nI r3), .int (nI p19), .int key, .double 0] [.int (nI 0)] _ _ _ _
        refine mt_if_ne dX4_put_18 (tgt := 23) rfl (fun q46 => ?_) (fun q46 => ?_)
        · have q46 := (not_congr (mI_eq0 (by omega))).mp q46
          exact absurd q46 (by decide)
        · have q46 := (mI_eq0 (by omega)).mp q46
          refine mt_iconst dX4_put_21 (v := nI 0) rfl ?_
          refine mt_ireturn dX4_put_22 rfl rfl (by first | exact Nat.le_of_ble_eq_true rfl | (simp only [rX4_isPlace, rX4_isIn, rX4_isLet, rX4_made, rX4_did, rX4_put]; omega)) (by first | exact Nat.le_of_ble_eq_true rfl | (simp only [rX4_isPlace, rX4_isIn, rX4_isLet, rX4_made, rX4_did, rX4_put]; omega)) ?_
          exact mOk.no (k := 2) (S' := S) (by simp only [mp_put, dAt_s (k := 4) hr3 (by first | decide | omega), dAt_s (k := (S.1 r3).length) hp19 (by first | decide | omega), dFit_n hk33, if_pos q46]) (by decide) rfl (by omega) c45c (by omega) (mRows.fr (n' := n) HR (by omega) (fun j j1 j2 j3 => c45d (j) (by omega)) (by omega)) (fun j hj => c45d j (by omega))
      · refine mt_aload_n dX4_put_0 rfl rfl ?_
        refine mt_aload_n dX4_put_1 rfl rfl ?_
        refine mt_iload_n dX4_put_2 rfl ?_
        refine mt_iload_n dX4_put_3 rfl ?_
        refine mt_callV (N := mX4_isPlace) (Rc := rX4_isPlace) (As := [.int (nI r3), .int (nI p19)]) (st := [.ref 27]) dX4_put_4 (kX4_isPlace hl C0 HR (by omega) (by omega)) sX4_isPlace mw_1126 mKX4 rfl C0 rfl (Nat.le_of_ble_eq_true rfl) ⟨⟨Nat.le_of_ble_eq_true rfl, Nat.le_of_ble_eq_true rfl⟩, (by first | exact Nat.le_of_ble_eq_true rfl | (simp only [rX4_isPlace, rX4_isIn, rX4_isLet, rX4_made, rX4_did, rX4_put]; omega)), (by first | exact Nat.le_of_ble_eq_true rfl | (simp only [rX4_isPlace, rX4_isIn, rX4_isLet, rX4_made, rX4_did, rX4_put]; omega))⟩ (fun v47 h48 n49 c50 => ?_) (fun _ _ _ hx => hx.elim)
        obtain ⟨c50a, c50b, c50c⟩ := c50
        rw [show (inN (S.1 r3).length (nI p19)).isSome = true from by rw [inN_some hp19 (by omega)]; rfl] at c50a
        rw [c50a, c50b, c50c]
        show mT _ _ _ _ 7 [.ref 27, .int (nI r3), .int (nI p19), .int key, .double 0] [.int (nI 1), .ref 27] _ _ _ _
        refine mt_iload_n dX4_put_7 rfl ?_
        refine mt_ldc (v := (-99999)) dX4_put_8 mw_1113 ?_
        refine mt_ldc (v := nI 99999) dX4_put_10 mw_1114 ?_
        refine mt_callS (N := mX4_isIn) (Rc := rX4_isIn) (As := [.int key, .int (-99999), .int (nI 99999)]) (st := [.int (nI 1), .ref 27]) dX4_put_12 (kX4_isIn hl) sX4_isIn mw_1086 rfl (Nat.le_of_ble_eq_true rfl) ⟨⟨Nat.le_of_ble_eq_true rfl, Nat.le_of_ble_eq_true rfl⟩, (by first | exact Nat.le_of_ble_eq_true rfl | (simp only [rX4_isPlace, rX4_isIn, rX4_isLet, rX4_made, rX4_did, rX4_put]; omega)), (by first | exact Nat.le_of_ble_eq_true rfl | (simp only [rX4_isPlace, rX4_isIn, rX4_isLet, rX4_made, rX4_did, rX4_put]; omega))⟩ (fun v51 h52 n53 c54 => ?_) (fun _ _ _ hx => hx.elim)
        obtain ⟨c54a, c54b, c54c⟩ := c54
        rw [show inR key (-99999) (nI 99999) = true from hk33] at c54a
        rw [c54a, c54b, c54c]
        show mT _ _ _ _ 15 [.ref 27, .int (nI r3), .int (nI p19), .int key, .double 0] [.int (nI 1), .int (nI 1), .ref 27] _ _ _ _
        refine mt_callV (N := mX4_isLet) (Rc := rX4_isLet) (As := [.int (nI 1), .int (nI 1)]) (st := []) dX4_put_15 (kX4_isLet (t := true) (f := true) hl C0) sX4_isLet mw_1092 mKX4 rfl C0 rfl (Nat.le_of_ble_eq_true rfl) ⟨⟨Nat.le_of_ble_eq_true rfl, Nat.le_of_ble_eq_true rfl⟩, (by first | exact Nat.le_of_ble_eq_true rfl | (simp only [rX4_isPlace, rX4_isIn, rX4_isLet, rX4_made, rX4_did, rX4_put]; omega)), (by first | exact Nat.le_of_ble_eq_true rfl | (simp only [rX4_isPlace, rX4_isIn, rX4_isLet, rX4_made, rX4_did, rX4_put]; omega))⟩ (fun v55 h56 n57 c58 => ?_) (fun _ _ _ hx => hx.elim)
        obtain ⟨c58a, c58b, c58c, c58d⟩ := c58
        rw [c58a, c58b]
        show mT _ _ _ _ 18 [.ref 27, .int (nI r3), .int (nI p19), .int key, .double 0] [.int (nI 1)] _ _ _ _
        refine mt_if_ne dX4_put_18 (tgt := 23) rfl (fun q59 => ?_) (fun q59 => ?_)
        · have q59 := (not_congr (mI_eq0 (by omega))).mp q59
          refine mt_aload_n dX4_put_23 rfl rfl ?_
          refine mt_getfield mKX4 (i := 0) (by decide) mw_1053 dX4_put_24 c58c rfl ?_
          refine mt_iload_n dX4_put_27 rfl ?_
          refine mp_aaload dX4_put_28 ((c58d (28) (by omega)).trans G28_1) (fun _ => rfl) rfl rfl (by omega) (by omega) (v := .ref (kx r3)) (by rw [GK_1 _ (by omega)]; rfl) ?_
          refine mt_iload_n dX4_put_29 rfl ?_
          refine mp_iaload dX4_put_30 ((c58d (kx r3) (by omega)).trans ke_17) rfl (by omega) (by omega) (v := xk (S.1 r3) p19) (kg_17 _ (by omega)) ?_
          refine mp_istore dX4_put_31 (ls' := [.ref 27, .int (nI r3), .int (nI p19), .int key, .int (xk (S.1 r3) p19)]) rfl (by decide) rfl ?_
          refine mt_aload_n dX4_put_33 rfl rfl ?_
          refine mt_getfield mKX4 (i := 0) (by decide) mw_1053 dX4_put_34 c58c rfl ?_
          refine mt_iload_n dX4_put_37 rfl ?_
          refine mp_aaload dX4_put_38 ((c58d (28) (by omega)).trans G28_1) (fun _ => rfl) rfl rfl (by omega) (by omega) (v := .ref (kx r3)) (by rw [GK_1 _ (by omega)]; rfl) ?_
          refine mt_iload_n dX4_put_39 rfl ?_
          refine mt_iload_n dX4_put_40 rfl ?_
          refine mp_iastore dX4_put_41 ((c58d (kx r3) (by omega)).trans ke_17) rfl (by omega) (by omega) (fun h60 e61 f62 => ?_)
          refine mt_aload_n dX4_put_42 rfl rfl ?_
          refine mt_getfield mKX4 (i := 1) (by decide) mw_1054 dX4_put_43 ((f62 (27) (by omega)).trans c58c) rfl ?_
          refine mt_iload_n dX4_put_46 rfl ?_
          refine mp_aaload dX4_put_47 ((f62 (33) (by omega)).trans ((c58d (33) (by omega)).trans G33_1)) (fun _ => rfl) rfl rfl (by omega) (by omega) (v := .ref (sx r3)) (by rw [GS_1 _ (by omega)]; rfl) ?_
          refine mt_iload_n dX4_put_48 rfl ?_
          refine mt_aload_n dX4_put_49 rfl rfl ?_
          refine mt_iload_n dX4_put_50 rfl ?_
          refine mt_iconst dX4_put_51 (v := nI 1) rfl ?_
          refine mt_callV (N := mX4_made) (Rc := rX4_made) (As := [.int (nI r3), .int (nI 1)]) (st := [.int (nI p19), .ref (sx r3)]) dX4_put_52 (kX4_made hl ((f62 (27) (by omega)).trans c58c) (by omega) (by omega) (by omega)) sX4_made mw_1101 mKX4 rfl ((f62 (27) (by omega)).trans c58c) rfl (Nat.le_of_ble_eq_true rfl) ⟨⟨Nat.le_of_ble_eq_true rfl, Nat.le_of_ble_eq_true rfl⟩, (by first | exact Nat.le_of_ble_eq_true rfl | (simp only [rX4_isPlace, rX4_isIn, rX4_isLet, rX4_made, rX4_did, rX4_put]; omega)), (by first | exact Nat.le_of_ble_eq_true rfl | (simp only [rX4_isPlace, rX4_isIn, rX4_isLet, rX4_made, rX4_did, rX4_put]; omega))⟩ (fun v63 h64 n65 c66 => ?_) (fun _ _ _ hx => hx.elim)
          obtain ⟨c66a, c66b, ⟨c66g, c66c, c66d⟩, c66f, c66e⟩ := c66
          rw [c66a, c66b]
          have c66k : ∀ j, j ≠ n ∧ j ≠ 27 → h64 j = h60 j := fun j hj => c66e j hj.1 hj.2
          show mT _ _ _ _ 55 [.ref 27, .int (nI r3), .int (nI p19), .int key, .int (xk (S.1 r3) p19)] [.ref n, .int (nI p19), .ref (sx r3)] _ _ _ _
          refine mt_iconst dX4_put_55 (v := nI 0) rfl ?_
          refine mp_iaload dX4_put_56 c66c rfl (by omega) (by omega) (v := madeF r3 S.2.1 0) (c66d _ (by omega)) ?_
          refine mp_iastore dX4_put_57 ((c66k (sx r3) (by omega)).trans ((f62 (sx r3) (by omega)).trans ((c58d (sx r3) (by omega)).trans se_17))) rfl (by omega) (by omega) (fun h67 e68 f69 => ?_)
          refine mt_aload_n dX4_put_58 rfl rfl ?_
          refine mt_iload dX4_put_59 rfl ?_
          refine mt_callV (N := mX4_did) (Rc := rX4_did) (As := [.int (xk (S.1 r3) p19)]) (st := []) dX4_put_61 (kX4_did hl ((f69 (27) (by omega)).trans c66f)) sX4_did mw_1105 mKX4 rfl ((f69 (27) (by omega)).trans c66f) rfl (Nat.le_of_ble_eq_true rfl) ⟨⟨Nat.le_of_ble_eq_true rfl, Nat.le_of_ble_eq_true rfl⟩, (by first | exact Nat.le_of_ble_eq_true rfl | (simp only [rX4_isPlace, rX4_isIn, rX4_isLet, rX4_made, rX4_did, rX4_put]; omega)), (by first | exact Nat.le_of_ble_eq_true rfl | (simp only [rX4_isPlace, rX4_isIn, rX4_isLet, rX4_made, rX4_did, rX4_put]; omega))⟩ (fun v70 h71 n72 c73 => ?_) (fun _ _ _ hx => hx.elim)
          obtain ⟨c73a, c73b, c73c, c73d⟩ := c73
          rw [c73a, c73b]
          show mT _ _ _ _ 64 [.ref 27, .int (nI r3), .int (nI p19), .int key, .int (xk (S.1 r3) p19)] [.int (xk (S.1 r3) p19)] _ _ _ _
          refine mt_ireturn dX4_put_64 rfl rfl (by first | exact Nat.le_of_ble_eq_true rfl | (simp only [rX4_isPlace, rX4_isIn, rX4_isLet, rX4_made, rX4_did, rX4_put]; omega)) (by first | exact Nat.le_of_ble_eq_true rfl | (simp only [rX4_isPlace, rX4_isIn, rX4_isLet, rX4_made, rX4_did, rX4_put]; omega)) ?_
          exact mOk.ofE (x := .int (xk (S.1 r3) p19)) (S' := ((cSet S r3 ((S.1 r3).set p19 (key, madeF r3 S.2.1 0))).1, madeG r3 1 S.2.1, S.2.2.1 + nI 1, S.2.2.2.1, S.2.2.2.2)) (by simp only [mp_put, dAt_s (k := 4) hr3 (by first | decide | omega), dAt_s (k := (S.1 r3).length) hp19 (by first | decide | omega), dFit_s hk33, if_neg q59, cSet_s] <;> first | rfl | simp_all) rfl (by omega) c73c (by omega) (⟨_, _, mRows.put HR (by omega) (by omega) (by omega) (ys := (S.1 r3).set p19 (key, madeF r3 S.2.1 0)) List.length_set (by rw [List.length_set]; exact (c73d (kx r3) (by omega)).trans ((f69 (kx r3) (by omega)).trans ((c66k (kx r3) (by omega)).trans e61))) (by rw [List.length_set]; exact (c73d (sx r3) (by omega)).trans e68) (by rw [List.length_set]; exact set_k (p := (key, madeF r3 S.2.1 0)) (by omega) kg_17) (by rw [List.length_set]; exact set_t (p := (key, madeF r3 S.2.1 0)) (by omega) sg_17) (fun j j1 j2 j3 j4 j5 => (c73d (j) (by omega)).trans ((f69 (j) (by omega)).trans ((c66k (j) (by omega)).trans ((f62 (j) (by omega)).trans (c58d (j) (by omega))))))⟩) (fun j hj => (c73d j (by omega)).trans ((f69 j (by omega)).trans ((c66k j (by omega)).trans ((f62 j (by omega)).trans (c58d j (by omega))))))
        · have q59 := (mI_eq0 (by omega)).mp q59
          exact absurd q59 (by decide)
abbrev rX4_add : Room := { frames := 2, cells := 4, slots := 1921, locals := 42 }
def mp_add (S : cS) (row : Int32) (key : Int32) : Nat × Value × cS := dAt S 4 row fun r => dFit S (keyOk key) (if (S.1 r).length = rroom r then (0, .int (-9), cRef S) else (0, .int (nI ((S.1 r).length + 1)), cAct (cGiv (cSet S r (jnL (S.1 r) (fun _ => key) (madeF r S.2.1) 1)) (madeG r 1 S.2.1))))
set_option maxRecDepth 100000 in
set_option maxHeartbeats 2000000 in
theorem kX4_add {l : Launch} (hl : l.stackTraces = false) {h : mH} {n : Nat} {S : cS} {th : Int32} {row : Int32} {key : Int32} (C : mAt h n S th) : mC l mX4_add rX4_add [.ref 27, .int row, .int key] h n (mOk (mp_add S row key) (.int (nI 0)) h n) (mNX) := by
  obtain ⟨C0, h39, kx, sx, HR⟩ := id C
  obtain ⟨⟨gk_1, G28_1, GK_1⟩, ⟨gs_1, G33_1, GS_1⟩, AK_1, AS_1, NE_1, NQ_1, LE_1⟩ := id HR
  refine mm_enter hl (by decide +kernel) rfl rfl rfl (Nat.le_of_ble_eq_true rfl) ?_
  show mT _ _ _ _ 0 [.ref 27, .int row, .int key] [] _ _ 0 0
  rcases hq2 : inN 4 row with _ | r3
  · refine mt_aload_n dX4_add_0 rfl rfl ?_
    refine mt_iload_n dX4_add_1 rfl ?_
    refine mt_callS (N := mX4_isRow) (Rc := rX4_isRow) (As := [.int row]) (st := [.ref 27]) dX4_add_2 (kX4_isRow hl) sX4_isRow mw_1083 rfl (Nat.le_of_ble_eq_true rfl) ⟨⟨Nat.le_of_ble_eq_true rfl, Nat.le_of_ble_eq_true rfl⟩, (by first | exact Nat.le_of_ble_eq_true rfl | (simp only [rX4_isRow, rX4_isIn, rX4_isLet, rX4_room, rX4_refuse, rX4_both, rX4_made, rX4_did, rX4_add]; omega)), (by first | exact Nat.le_of_ble_eq_true rfl | (simp only [rX4_isRow, rX4_isIn, rX4_isLet, rX4_room, rX4_refuse, rX4_both, rX4_made, rX4_did, rX4_add]; omega))⟩ (fun v4 h5 n6 c7 => ?_) (fun _ _ _ hx => hx.elim)
    obtain ⟨c7a, c7b, c7c⟩ := c7
    rw [show (inN 4 row).isSome = false from by rw [hq2]; rfl] at c7a
    rw [c7a, c7b, c7c]
    show mT _ _ _ _ 5 [.ref 27, .int row, .int key] [.int (nI 0), .ref 27] _ _ _ _
    refine mt_iload_n dX4_add_5 rfl ?_
    refine mt_ldc (v := (-99999)) dX4_add_6 mw_1113 ?_
    refine mt_ldc (v := nI 99999) dX4_add_8 mw_1114 ?_
    refine mt_callS (N := mX4_isIn) (Rc := rX4_isIn) (As := [.int key, .int (-99999), .int (nI 99999)]) (st := [.int (nI 0), .ref 27]) dX4_add_10 (kX4_isIn hl) sX4_isIn mw_1086 rfl (Nat.le_of_ble_eq_true rfl) ⟨⟨Nat.le_of_ble_eq_true rfl, Nat.le_of_ble_eq_true rfl⟩, (by first | exact Nat.le_of_ble_eq_true rfl | (simp only [rX4_isRow, rX4_isIn, rX4_isLet, rX4_room, rX4_refuse, rX4_both, rX4_made, rX4_did, rX4_add]; omega)), (by first | exact Nat.le_of_ble_eq_true rfl | (simp only [rX4_isRow, rX4_isIn, rX4_isLet, rX4_room, rX4_refuse, rX4_both, rX4_made, rX4_did, rX4_add]; omega))⟩ (fun v8 h9 n10 c11 => ?_) (fun _ _ _ hx => hx.elim)
    obtain ⟨c11a, c11b, c11c⟩ := c11
    rw [c11a, c11b, c11c]
    show mT _ _ _ _ 13 [.ref 27, .int row, .int key] [.int (mb (inR key (-99999) (nI 99999))), .int (nI 0), .ref 27] _ _ _ _
    refine mt_callV (N := mX4_isLet) (Rc := rX4_isLet) (As := [.int (nI 0), .int (mb (inR key (-99999) (nI 99999)))]) (st := []) dX4_add_13 (kX4_isLet (t := false) (f := inR key (-99999) (nI 99999)) hl C0) sX4_isLet mw_1092 mKX4 rfl C0 rfl (Nat.le_of_ble_eq_true rfl) ⟨⟨Nat.le_of_ble_eq_true rfl, Nat.le_of_ble_eq_true rfl⟩, (by first | exact Nat.le_of_ble_eq_true rfl | (simp only [rX4_isRow, rX4_isIn, rX4_isLet, rX4_room, rX4_refuse, rX4_both, rX4_made, rX4_did, rX4_add]; omega)), (by first | exact Nat.le_of_ble_eq_true rfl | (simp only [rX4_isRow, rX4_isIn, rX4_isLet, rX4_room, rX4_refuse, rX4_both, rX4_made, rX4_did, rX4_add]; omega))⟩ (fun v12 h13 n14 c15 => ?_) (fun _ _ _ hx => hx.elim)
    obtain ⟨c15a, c15b, c15c, c15d⟩ := c15
    rw [c15a, c15b]
    show mT _ _ _ _ 16 [.ref 27, .int row, .int key] [.int (nI 0)] _ _ _ _
    refine mt_if_ne dX4_add_16 (tgt := 21) rfl (fun q16 => ?_) (fun q16 => ?_)
    · have q16 := (not_congr (mI_eq0 (by omega))).mp q16
      exact absurd q16 (by decide)
    · have q16 := (mI_eq0 (by omega)).mp q16
      refine mt_iconst dX4_add_19 (v := nI 0) rfl ?_
      refine mt_ireturn dX4_add_20 rfl rfl (by first | exact Nat.le_of_ble_eq_true rfl | (simp only [rX4_isRow, rX4_isIn, rX4_isLet, rX4_room, rX4_refuse, rX4_both, rX4_made, rX4_did, rX4_add]; omega)) (by first | exact Nat.le_of_ble_eq_true rfl | (simp only [rX4_isRow, rX4_isIn, rX4_isLet, rX4_room, rX4_refuse, rX4_both, rX4_made, rX4_did, rX4_add]; omega)) ?_
      exact mOk.no (k := 1) (S' := S) (by simp only [mp_add, dAt_n (k := 4) (x := row) hq2, if_pos q16]) (by decide) rfl (by omega) c15c (by omega) (mRows.fr (n' := n) HR (by omega) (fun j j1 j2 j3 => c15d (j) (by omega)) (by omega)) (fun j hj => c15d j (by omega))
  · obtain ⟨hr3, rfl⟩ := inN_of hq2 (by first | decide | omega)
    obtain ⟨⟨ka_17, kb_17, kc_17, kd_17⟩, kf_17, ke_17, kg_17⟩ := AK_1 r3 hr3
    obtain ⟨⟨sa_17, sb_17, sc_17, sd_17⟩, sf_17, se_17, sg_17⟩ := AS_1 r3 hr3
    have kn_17 := NE_1 r3 r3 hr3 hr3
    have kl_17 := LE_1 r3 hr3
    have km_17 := rroom_le (r := r3)
    rcases hk18 : keyOk key with _ | _
    · refine mt_aload_n dX4_add_0 rfl rfl ?_
      refine mt_iload_n dX4_add_1 rfl ?_
      refine mt_callS (N := mX4_isRow) (Rc := rX4_isRow) (As := [.int (nI r3)]) (st := [.ref 27]) dX4_add_2 (kX4_isRow hl) sX4_isRow mw_1083 rfl (Nat.le_of_ble_eq_true rfl) ⟨⟨Nat.le_of_ble_eq_true rfl, Nat.le_of_ble_eq_true rfl⟩, (by first | exact Nat.le_of_ble_eq_true rfl | (simp only [rX4_isRow, rX4_isIn, rX4_isLet, rX4_room, rX4_refuse, rX4_both, rX4_made, rX4_did, rX4_add]; omega)), (by first | exact Nat.le_of_ble_eq_true rfl | (simp only [rX4_isRow, rX4_isIn, rX4_isLet, rX4_room, rX4_refuse, rX4_both, rX4_made, rX4_did, rX4_add]; omega))⟩ (fun v19 h20 n21 c22 => ?_) (fun _ _ _ hx => hx.elim)
      obtain ⟨c22a, c22b, c22c⟩ := c22
      rw [show (inN 4 (nI r3)).isSome = true from by rw [inN_some hr3 (by decide)]; rfl] at c22a
      rw [c22a, c22b, c22c]
      show mT _ _ _ _ 5 [.ref 27, .int (nI r3), .int key] [.int (nI 1), .ref 27] _ _ _ _
      refine mt_iload_n dX4_add_5 rfl ?_
      refine mt_ldc (v := (-99999)) dX4_add_6 mw_1113 ?_
      refine mt_ldc (v := nI 99999) dX4_add_8 mw_1114 ?_
      refine mt_callS (N := mX4_isIn) (Rc := rX4_isIn) (As := [.int key, .int (-99999), .int (nI 99999)]) (st := [.int (nI 1), .ref 27]) dX4_add_10 (kX4_isIn hl) sX4_isIn mw_1086 rfl (Nat.le_of_ble_eq_true rfl) ⟨⟨Nat.le_of_ble_eq_true rfl, Nat.le_of_ble_eq_true rfl⟩, (by first | exact Nat.le_of_ble_eq_true rfl | (simp only [rX4_isRow, rX4_isIn, rX4_isLet, rX4_room, rX4_refuse, rX4_both, rX4_made, rX4_did, rX4_add]; omega)), (by first | exact Nat.le_of_ble_eq_true rfl | (simp only [rX4_isRow, rX4_isIn, rX4_isLet, rX4_room, rX4_refuse, rX4_both, rX4_made, rX4_did, rX4_add]; omega))⟩ (fun v23 h24 n25 c26 => ?_) (fun _ _ _ hx => hx.elim)
      obtain ⟨c26a, c26b, c26c⟩ := c26
      rw [show inR key (-99999) (nI 99999) = false from hk18] at c26a
      rw [c26a, c26b, c26c]
      show mT _ _ _ _ 13 [.ref 27, .int (nI r3), .int key] [.int (nI 0), .int (nI 1), .ref 27] _ _ _ _
      refine mt_callV (N := mX4_isLet) (Rc := rX4_isLet) (As := [.int (nI 1), .int (nI 0)]) (st := []) dX4_add_13 (kX4_isLet (t := true) (f := false) hl C0) sX4_isLet mw_1092 mKX4 rfl C0 rfl (Nat.le_of_ble_eq_true rfl) ⟨⟨Nat.le_of_ble_eq_true rfl, Nat.le_of_ble_eq_true rfl⟩, (by first | exact Nat.le_of_ble_eq_true rfl | (simp only [rX4_isRow, rX4_isIn, rX4_isLet, rX4_room, rX4_refuse, rX4_both, rX4_made, rX4_did, rX4_add]; omega)), (by first | exact Nat.le_of_ble_eq_true rfl | (simp only [rX4_isRow, rX4_isIn, rX4_isLet, rX4_room, rX4_refuse, rX4_both, rX4_made, rX4_did, rX4_add]; omega))⟩ (fun v27 h28 n29 c30 => ?_) (fun _ _ _ hx => hx.elim)
      obtain ⟨c30a, c30b, c30c, c30d⟩ := c30
      rw [c30a, c30b]
      show mT _ _ _ _ 16 [.ref 27, .int (nI r3), .int key] [.int (nI 0)] _ _ _ _
      refine mt_if_ne dX4_add_16 (tgt := 21) rfl (fun q31 => ?_) (fun q31 => ?_)
      · have q31 := (not_congr (mI_eq0 (by omega))).mp q31
        exact absurd q31 (by decide)
      · have q31 := (mI_eq0 (by omega)).mp q31
        refine mt_iconst dX4_add_19 (v := nI 0) rfl ?_
        refine mt_ireturn dX4_add_20 rfl rfl (by first | exact Nat.le_of_ble_eq_true rfl | (simp only [rX4_isRow, rX4_isIn, rX4_isLet, rX4_room, rX4_refuse, rX4_both, rX4_made, rX4_did, rX4_add]; omega)) (by first | exact Nat.le_of_ble_eq_true rfl | (simp only [rX4_isRow, rX4_isIn, rX4_isLet, rX4_room, rX4_refuse, rX4_both, rX4_made, rX4_did, rX4_add]; omega)) ?_
        exact mOk.no (k := 2) (S' := S) (by simp only [mp_add, dAt_s (k := 4) hr3 (by first | decide | omega), dFit_n hk18, if_pos q31]) (by decide) rfl (by omega) c30c (by omega) (mRows.fr (n' := n) HR (by omega) (fun j j1 j2 j3 => c30d (j) (by omega)) (by omega)) (fun j hj => c30d j (by omega))
    · refine mt_aload_n dX4_add_0 rfl rfl ?_
      refine mt_iload_n dX4_add_1 rfl ?_
      refine mt_callS (N := mX4_isRow) (Rc := rX4_isRow) (As := [.int (nI r3)]) (st := [.ref 27]) dX4_add_2 (kX4_isRow hl) sX4_isRow mw_1083 rfl (Nat.le_of_ble_eq_true rfl) ⟨⟨Nat.le_of_ble_eq_true rfl, Nat.le_of_ble_eq_true rfl⟩, (by first | exact Nat.le_of_ble_eq_true rfl | (simp only [rX4_isRow, rX4_isIn, rX4_isLet, rX4_room, rX4_refuse, rX4_both, rX4_made, rX4_did, rX4_add]; omega)), (by first | exact Nat.le_of_ble_eq_true rfl | (simp only [rX4_isRow, rX4_isIn, rX4_isLet, rX4_room, rX4_refuse, rX4_both, rX4_made, rX4_did, rX4_add]; omega))⟩ (fun v32 h33 n34 c35 => ?_) (fun _ _ _ hx => hx.elim)
      obtain ⟨c35a, c35b, c35c⟩ := c35
      rw [show (inN 4 (nI r3)).isSome = true from by rw [inN_some hr3 (by decide)]; rfl] at c35a
      rw [c35a, c35b, c35c]
      show mT _ _ _ _ 5 [.ref 27, .int (nI r3), .int key] [.int (nI 1), .ref 27] _ _ _ _
      refine mt_iload_n dX4_add_5 rfl ?_
      refine mt_ldc (v := (-99999)) dX4_add_6 mw_1113 ?_
      refine mt_ldc (v := nI 99999) dX4_add_8 mw_1114 ?_
      refine mt_callS (N := mX4_isIn) (Rc := rX4_isIn) (As := [.int key, .int (-99999), .int (nI 99999)]) (st := [.int (nI 1), .ref 27]) dX4_add_10 (kX4_isIn hl) sX4_isIn mw_1086 rfl (Nat.le_of_ble_eq_true rfl) ⟨⟨Nat.le_of_ble_eq_true rfl, Nat.le_of_ble_eq_true rfl⟩, (by first | exact Nat.le_of_ble_eq_true rfl | (simp only [rX4_isRow, rX4_isIn, rX4_isLet, rX4_room, rX4_refuse, rX4_both, rX4_made, rX4_did, rX4_add]; omega)), (by first | exact Nat.le_of_ble_eq_true rfl | (simp only [rX4_isRow, rX4_isIn, rX4_isLet, rX4_room, rX4_refuse, rX4_both, rX4_made, rX4_did, rX4_add]; omega))⟩ (fun v36 h37 n38 c39 => ?_) (fun _ _ _ hx => hx.elim)
      obtain ⟨c39a, c39b, c39c⟩ := c39
      rw [show inR key (-99999) (nI 99999) = true from hk18] at c39a
      rw [c39a, c39b, c39c]
      show mT _ _ _ _ 13 [.ref 27, .int (nI r3), .int key] [.int (nI 1), .int (nI 1), .ref 27] _ _ _ _
      refine mt_callV (N := mX4_isLet) (Rc := rX4_isLet) (As := [.int (nI 1), .int (nI 1)]) (st := []) dX4_add_13 (kX4_isLet (t := true) (f := true) hl C0) sX4_isLet mw_1092 mKX4 rfl C0 rfl (Nat.le_of_ble_eq_true rfl) ⟨⟨Nat.le_of_ble_eq_true rfl, Nat.le_of_ble_eq_true rfl⟩, (by first | exact Nat.le_of_ble_eq_true rfl | (simp only [rX4_isRow, rX4_isIn, rX4_isLet, rX4_room, rX4_refuse, rX4_both, rX4_made, rX4_did, rX4_add]; omega)), (by first | exact Nat.le_of_ble_eq_true rfl | (simp only [rX4_isRow, rX4_isIn, rX4_isLet, rX4_room, rX4_refuse, rX4_both, rX4_made, rX4_did, rX4_add]; omega))⟩ (fun v40 h41 n42 c43 => ?_) (fun _ _ _ hx => hx.elim)
      obtain ⟨c43a, c43b, c43c, c43d⟩ := c43
      rw [c43a, c43b]
      show mT _ _ _ _ 16 [.ref 27, .int (nI r3), .int key] [.int (nI 1)] _ _ _ _
      refine mt_if_ne dX4_add_16 (tgt := 21) rfl (fun q44 => ?_) (fun q44 => ?_)
      · have q44 := (not_congr (mI_eq0 (by omega))).mp q44
        refine mt_aload_n dX4_add_21 rfl rfl ?_
        refine mt_getfield mKX4 (i := 0) (by decide) mw_1053 dX4_add_22 c43c rfl ?_
        refine mt_iload_n dX4_add_25 rfl ?_
        refine mp_aaload dX4_add_26 ((c43d (28) (by omega)).trans G28_1) (fun _ => rfl) rfl rfl (by omega) (by omega) (v := .ref (kx r3)) (by rw [GK_1 _ (by omega)]; rfl) ?_
        refine mt_alen dX4_add_27 ((c43d (kx r3) (by omega)).trans ke_17) (by decide) ?_
        refine mt_iload_n dX4_add_28 rfl ?_
        refine mt_callS (N := mX4_room) (Rc := rX4_room) (As := [.int (nI r3)]) (st := [.int (nI ((S.1 r3).length))]) dX4_add_29 (kX4_room hl (by omega)) sX4_room mw_1089 rfl (Nat.le_of_ble_eq_true rfl) ⟨⟨Nat.le_of_ble_eq_true rfl, Nat.le_of_ble_eq_true rfl⟩, (by first | exact Nat.le_of_ble_eq_true rfl | (simp only [rX4_isRow, rX4_isIn, rX4_isLet, rX4_room, rX4_refuse, rX4_both, rX4_made, rX4_did, rX4_add]; omega)), (by first | exact Nat.le_of_ble_eq_true rfl | (simp only [rX4_isRow, rX4_isIn, rX4_isLet, rX4_room, rX4_refuse, rX4_both, rX4_made, rX4_did, rX4_add]; omega))⟩ (fun v45 h46 n47 c48 => ?_) (fun _ _ _ hx => hx.elim)
        obtain ⟨c48a, c48b, c48c⟩ := c48
        rw [c48a, c48b, c48c]
        show mT _ _ _ _ 32 [.ref 27, .int (nI r3), .int key] [.int (nI (rroom r3)), .int (nI ((S.1 r3).length))] _ _ _ _
        refine mt_icmp_ne dX4_add_32 (tgt := 40) rfl (fun q49 => ?_) (fun q49 => ?_)
        · have q49 := (not_congr (nI_eq (by omega) (by omega))).mp q49
          refine mt_aload_n dX4_add_40 rfl rfl ?_
          refine mt_getfield mKX4 (i := 0) (by decide) mw_1053 dX4_add_41 c43c rfl ?_
          refine mt_iload_n dX4_add_44 rfl ?_
          refine mt_aload_n dX4_add_45 rfl rfl ?_
          refine mt_getfield mKX4 (i := 0) (by decide) mw_1053 dX4_add_46 c43c rfl ?_
          refine mt_iload_n dX4_add_49 rfl ?_
          refine mp_aaload dX4_add_50 ((c43d (28) (by omega)).trans G28_1) (fun _ => rfl) rfl rfl (by omega) (by omega) (v := .ref (kx r3)) (by rw [GK_1 _ (by omega)]; rfl) ?_
          refine mt_iconst dX4_add_51 (v := nI 1) rfl ?_
          refine mp_newarray dX4_add_52 mw_87 rfl (by omega) (by simp only [rX4_add]; omega) (by simp only [rX4_add]; omega) (fun h50 e51 f52 => ?_)
          refine mt_dup dX4_add_54 rfl ?_
          refine mt_iconst dX4_add_55 (v := nI 0) rfl ?_
          refine mt_iload_n dX4_add_56 rfl ?_
          refine mp_iastore dX4_add_57 e51 rfl (by omega) (by omega) (fun h53 e54 f55 => ?_)
          refine mt_callS (N := mX4_both) (Rc := rX4_both) (As := [.ref (kx r3), .ref n]) (st := [.int (nI r3), .ref 28]) dX4_add_58 (kX4_both hl ((f55 (kx r3) (by omega)).trans ((f52 (kx r3) (by omega)).trans ((c43d (kx r3) (by omega)).trans ke_17))) e54 (by omega) (by omega) (by omega)) sX4_both mw_1119 rfl (Nat.le_of_ble_eq_true rfl) ⟨⟨Nat.le_of_ble_eq_true rfl, Nat.le_of_ble_eq_true rfl⟩, (by first | exact Nat.le_of_ble_eq_true rfl | (simp only [rX4_isRow, rX4_isIn, rX4_isLet, rX4_room, rX4_refuse, rX4_both, rX4_made, rX4_did, rX4_add]; omega)), (by first | exact Nat.le_of_ble_eq_true rfl | (simp only [rX4_isRow, rX4_isIn, rX4_isLet, rX4_room, rX4_refuse, rX4_both, rX4_made, rX4_did, rX4_add]; omega))⟩ (fun v56 h57 n58 c59 => ?_) (fun _ _ _ hx => hx.elim)
          obtain ⟨c59a, c59b, ⟨c59g, c59c, c59d⟩, c59e⟩ := c59
          rw [c59a, c59b]
          show mT _ _ _ _ 61 [.ref 27, .int (nI r3), .int key] [.ref (n + 1), .int (nI r3), .ref 28] _ _ _ _
          refine mp_aastoreA dX4_add_61 ((c59e (28) (by omega)).trans ((f55 (28) (by omega)).trans ((f52 (28) (by omega)).trans ((c43d (28) (by omega)).trans G28_1)))) c59c rfl (by omega) (by omega) (fun h60 e61 f62 => ?_)
          refine mt_aload_n dX4_add_62 rfl rfl ?_
          refine mt_getfield mKX4 (i := 1) (by decide) mw_1054 dX4_add_63 ((f62 (27) (by omega)).trans ((c59e (27) (by omega)).trans ((f55 (27) (by omega)).trans ((f52 (27) (by omega)).trans c43c)))) rfl ?_
          refine mt_iload_n dX4_add_66 rfl ?_
          refine mt_aload_n dX4_add_67 rfl rfl ?_
          refine mt_getfield mKX4 (i := 1) (by decide) mw_1054 dX4_add_68 ((f62 (27) (by omega)).trans ((c59e (27) (by omega)).trans ((f55 (27) (by omega)).trans ((f52 (27) (by omega)).trans c43c)))) rfl ?_
          refine mt_iload_n dX4_add_71 rfl ?_
          refine mp_aaload dX4_add_72 ((f62 (33) (by omega)).trans ((c59e (33) (by omega)).trans ((f55 (33) (by omega)).trans ((f52 (33) (by omega)).trans ((c43d (33) (by omega)).trans G33_1))))) (fun _ => rfl) rfl rfl (by omega) (by omega) (v := .ref (sx r3)) (by rw [GS_1 _ (by omega)]; rfl) ?_
          refine mt_aload_n dX4_add_73 rfl rfl ?_
          refine mt_iload_n dX4_add_74 rfl ?_
          refine mt_iconst dX4_add_75 (v := nI 1) rfl ?_
          refine mt_callV (N := mX4_made) (Rc := rX4_made) (As := [.int (nI r3), .int (nI 1)]) (st := [.ref (sx r3), .int (nI r3), .ref 33]) dX4_add_76 (kX4_made hl ((f62 (27) (by omega)).trans ((c59e (27) (by omega)).trans ((f55 (27) (by omega)).trans ((f52 (27) (by omega)).trans c43c)))) (by omega) (by omega) (by omega)) sX4_made mw_1101 mKX4 rfl ((f62 (27) (by omega)).trans ((c59e (27) (by omega)).trans ((f55 (27) (by omega)).trans ((f52 (27) (by omega)).trans c43c)))) rfl (Nat.le_of_ble_eq_true rfl) ⟨⟨Nat.le_of_ble_eq_true rfl, Nat.le_of_ble_eq_true rfl⟩, (by first | exact Nat.le_of_ble_eq_true rfl | (simp only [rX4_isRow, rX4_isIn, rX4_isLet, rX4_room, rX4_refuse, rX4_both, rX4_made, rX4_did, rX4_add]; omega)), (by first | exact Nat.le_of_ble_eq_true rfl | (simp only [rX4_isRow, rX4_isIn, rX4_isLet, rX4_room, rX4_refuse, rX4_both, rX4_made, rX4_did, rX4_add]; omega))⟩ (fun v63 h64 n65 c66 => ?_) (fun _ _ _ hx => hx.elim)
          obtain ⟨c66a, c66b, ⟨c66g, c66c, c66d⟩, c66f, c66e⟩ := c66
          rw [c66a, c66b]
          have c66k : ∀ j, j ≠ n + 2 ∧ j ≠ 27 → h64 j = h60 j := fun j hj => c66e j hj.1 hj.2
          show mT _ _ _ _ 79 [.ref 27, .int (nI r3), .int key] [.ref (n + 2), .ref (sx r3), .int (nI r3), .ref 33] _ _ _ _
          refine mt_callS (N := mX4_both) (Rc := rX4_both) (As := [.ref (sx r3), .ref (n + 2)]) (st := [.int (nI r3), .ref 33]) dX4_add_79 (kX4_both hl ((c66k (sx r3) (by omega)).trans ((f62 (sx r3) (by omega)).trans ((c59e (sx r3) (by omega)).trans ((f55 (sx r3) (by omega)).trans ((f52 (sx r3) (by omega)).trans ((c43d (sx r3) (by omega)).trans se_17)))))) c66c (by omega) (by omega) (by omega)) sX4_both mw_1119 rfl (Nat.le_of_ble_eq_true rfl) ⟨⟨Nat.le_of_ble_eq_true rfl, Nat.le_of_ble_eq_true rfl⟩, (by first | exact Nat.le_of_ble_eq_true rfl | (simp only [rX4_isRow, rX4_isIn, rX4_isLet, rX4_room, rX4_refuse, rX4_both, rX4_made, rX4_did, rX4_add]; omega)), (by first | exact Nat.le_of_ble_eq_true rfl | (simp only [rX4_isRow, rX4_isIn, rX4_isLet, rX4_room, rX4_refuse, rX4_both, rX4_made, rX4_did, rX4_add]; omega))⟩ (fun v67 h68 n69 c70 => ?_) (fun _ _ _ hx => hx.elim)
          obtain ⟨c70a, c70b, ⟨c70g, c70c, c70d⟩, c70e⟩ := c70
          rw [c70a, c70b]
          show mT _ _ _ _ 82 [.ref 27, .int (nI r3), .int key] [.ref (n + 3), .int (nI r3), .ref 33] _ _ _ _
          refine mp_aastoreA dX4_add_82 ((c70e (33) (by omega)).trans ((c66k (33) (by omega)).trans ((f62 (33) (by omega)).trans ((c59e (33) (by omega)).trans ((f55 (33) (by omega)).trans ((f52 (33) (by omega)).trans ((c43d (33) (by omega)).trans G33_1))))))) c70c rfl (by omega) (by omega) (fun h71 e72 f73 => ?_)
          refine mt_aload_n dX4_add_83 rfl rfl ?_
          refine mt_aload_n dX4_add_84 rfl rfl ?_
          refine mt_getfield mKX4 (i := 0) (by decide) mw_1053 dX4_add_85 ((f73 (27) (by omega)).trans ((c70e (27) (by omega)).trans c66f)) rfl ?_
          refine mt_iload_n dX4_add_88 rfl ?_
          refine mp_aaload dX4_add_89 ((f73 (28) (by omega)).trans ((c70e (28) (by omega)).trans ((c66k (28) (by omega)).trans e61))) (fun _ => rfl) rfl rfl (by omega) (by omega) (v := .ref (n + 1)) va_rf_up ?_
          refine mt_alen dX4_add_90 ((f73 (n + 1) (by omega)).trans ((c70e (n + 1) (by omega)).trans ((c66k (n + 1) (by omega)).trans ((f62 (n + 1) (by omega)).trans c59c)))) (by decide) ?_
          refine mt_callV (N := mX4_did) (Rc := rX4_did) (As := [.int (nI ((S.1 r3).length + 1))]) (st := []) dX4_add_91 (kX4_did hl ((f73 (27) (by omega)).trans ((c70e (27) (by omega)).trans c66f))) sX4_did mw_1105 mKX4 rfl ((f73 (27) (by omega)).trans ((c70e (27) (by omega)).trans c66f)) rfl (Nat.le_of_ble_eq_true rfl) ⟨⟨Nat.le_of_ble_eq_true rfl, Nat.le_of_ble_eq_true rfl⟩, (by first | exact Nat.le_of_ble_eq_true rfl | (simp only [rX4_isRow, rX4_isIn, rX4_isLet, rX4_room, rX4_refuse, rX4_both, rX4_made, rX4_did, rX4_add]; omega)), (by first | exact Nat.le_of_ble_eq_true rfl | (simp only [rX4_isRow, rX4_isIn, rX4_isLet, rX4_room, rX4_refuse, rX4_both, rX4_made, rX4_did, rX4_add]; omega))⟩ (fun v74 h75 n76 c77 => ?_) (fun _ _ _ hx => hx.elim)
          obtain ⟨c77a, c77b, c77c, c77d⟩ := c77
          rw [c77a, c77b]
          show mT _ _ _ _ 94 [.ref 27, .int (nI r3), .int key] [.int (nI ((S.1 r3).length + 1))] _ _ _ _
          refine mt_ireturn dX4_add_94 rfl rfl (by first | exact Nat.le_of_ble_eq_true rfl | (simp only [rX4_isRow, rX4_isIn, rX4_isLet, rX4_room, rX4_refuse, rX4_both, rX4_made, rX4_did, rX4_add]; omega)) (by first | exact Nat.le_of_ble_eq_true rfl | (simp only [rX4_isRow, rX4_isIn, rX4_isLet, rX4_room, rX4_refuse, rX4_both, rX4_made, rX4_did, rX4_add]; omega)) ?_
          exact mOk.ofE (x := .int (nI ((S.1 r3).length + 1))) (S' := ((cSet S r3 (jnL (S.1 r3) (fun _ => key) (madeF r3 S.2.1) 1)).1, madeG r3 1 S.2.1, S.2.2.1 + nI 1, S.2.2.2.1, S.2.2.2.2)) (by simp only [mp_add, dAt_s (k := 4) hr3 (by first | decide | omega), dFit_s hk18, if_neg q44, if_neg q49, cSet_s] <;> first | rfl | simp_all) rfl (by omega) c77c (by omega) (mRows.upz (ys := jnL (S.1 r3) (fun _ => key) (madeF r3 S.2.1) 1) HR jnL_len (by omega) (by omega) (by omega) ⟨by omega, by omega⟩ ⟨by omega, by omega⟩ (by omega) ((c77d (28) (by omega)).trans ((f73 (28) (by omega)).trans ((c70e (28) (by omega)).trans ((c66k (28) (by omega)).trans e61)))) (fun q hq hne => (if_neg hne).trans (GK_1 q hq)) ((c77d (33) (by omega)).trans e72) (fun q hq hne => (if_neg hne).trans (GS_1 q hq)) ((c77d (n + 1) (by omega)).trans ((f73 (n + 1) (by omega)).trans ((c70e (n + 1) (by omega)).trans ((c66k (n + 1) (by omega)).trans ((f62 (n + 1) (by omega)).trans c59c))))) ((c77d (n + 3) (by omega)).trans ((f73 (n + 3) (by omega)).trans c70c)) (jn_k c59d kg_17 (fun i hi => by obtain rfl : i = 0 := (by omega); rfl)) (jn_t c70d sg_17 c66d) (by omega) (fun j j1 j2 j3 j4 => (c77d (j) (by omega)).trans ((f73 (j) (by omega)).trans ((c70e (j) (by omega)).trans ((c66k (j) (by omega)).trans ((f62 (j) (by omega)).trans ((c59e (j) (by omega)).trans ((f55 (j) (by omega)).trans ((f52 (j) (by omega)).trans (c43d (j) (by omega))))))))))) (fun j hj => (c77d j (by omega)).trans ((f73 j (by omega)).trans ((c70e j (by omega)).trans ((c66k j (by omega)).trans ((f62 j (by omega)).trans ((c59e j (by omega)).trans ((f55 j (by omega)).trans ((f52 j (by omega)).trans (c43d j (by omega))))))))))
        · have q49 := (nI_eq (by omega) (by omega)).mp q49
          refine mt_aload_n dX4_add_35 rfl rfl ?_
          refine mt_callV (N := mX4_refuse) (Rc := rX4_refuse) (As := []) (st := []) dX4_add_36 (kX4_refuse hl c43c) sX4_refuse mw_1115 mKX4 rfl c43c rfl (Nat.le_of_ble_eq_true rfl) ⟨⟨Nat.le_of_ble_eq_true rfl, Nat.le_of_ble_eq_true rfl⟩, (by first | exact Nat.le_of_ble_eq_true rfl | (simp only [rX4_isRow, rX4_isIn, rX4_isLet, rX4_room, rX4_refuse, rX4_both, rX4_made, rX4_did, rX4_add]; omega)), (by first | exact Nat.le_of_ble_eq_true rfl | (simp only [rX4_isRow, rX4_isIn, rX4_isLet, rX4_room, rX4_refuse, rX4_both, rX4_made, rX4_did, rX4_add]; omega))⟩ (fun v78 h79 n80 c81 => ?_) (fun _ _ _ hx => hx.elim)
          obtain ⟨c81a, c81b, c81c, c81d⟩ := c81
          rw [c81a, c81b]
          show mT _ _ _ _ 39 [.ref 27, .int (nI r3), .int key] [.int (-9)] _ _ _ _
          refine mt_ireturn dX4_add_39 rfl rfl (by first | exact Nat.le_of_ble_eq_true rfl | (simp only [rX4_isRow, rX4_isIn, rX4_isLet, rX4_room, rX4_refuse, rX4_both, rX4_made, rX4_did, rX4_add]; omega)) (by first | exact Nat.le_of_ble_eq_true rfl | (simp only [rX4_isRow, rX4_isIn, rX4_isLet, rX4_room, rX4_refuse, rX4_both, rX4_made, rX4_did, rX4_add]; omega)) ?_
          exact mOk.of (x := .int (-9)) (S' := ((S).1, S.2.1, S.2.2.1, S.2.2.2.1 + nI 1, S.2.2.2.2)) (by simp only [mp_add, dAt_s (k := 4) hr3 (by first | decide | omega), dFit_s hk18, if_neg q44, if_pos q49, cSet_s] <;> first | rfl | simp_all) rfl (by omega) c81c (by omega) (mRows.fr (n' := n) HR (by omega) (fun j j1 j2 j3 => (c81d (j) (by omega)).trans (c43d (j) (by omega))) (by omega)) (fun j hj => (c81d j (by omega)).trans (c43d j (by omega)))
      · have q44 := (mI_eq0 (by omega)).mp q44
        exact absurd q44 (by decide)
abbrev rX4_exchange : Room := { frames := 3, cells := 0, slots := 0, locals := 64 }
def mp_exchange (S : cS) (row : Int32) (place : Int32) : Nat × Value × cS := dAt S 4 row fun r => dAt S ((S.1 r).length - 1) place fun p => (0, .int (mq_pairs (swp (S.1 r) p (p + 1)) (nI 1) - mq_pairs (S.1 r) (nI 1)), cAct (cSet S r (swp (S.1 r) p (p + 1))))
set_option maxRecDepth 100000 in
set_option maxHeartbeats 2000000 in
theorem kX4_exchange {l : Launch} (hl : l.stackTraces = false) {h : mH} {n : Nat} {S : cS} {th : Int32} {row : Int32} {place : Int32} (C : mAt h n S th) : mC l mX4_exchange rX4_exchange [.ref 27, .int row, .int place] h n (mOk (mp_exchange S row place) (.int (nI 0)) h n) (mNX) := by
  obtain ⟨C0, h39, kx, sx, HR⟩ := id C
  obtain ⟨⟨gk_1, G28_1, GK_1⟩, ⟨gs_1, G33_1, GS_1⟩, AK_1, AS_1, NE_1, NQ_1, LE_1⟩ := id HR
  refine mm_enter hl (by decide +kernel) rfl rfl rfl (Nat.le_of_ble_eq_true rfl) ?_
  show mT _ _ _ _ 0 [.ref 27, .int row, .int place, .double 0] [] _ _ 0 0
  rcases hq2 : inN 4 row with _ | r3
  · refine mt_aload_n dX4_exchange_0 rfl rfl ?_
    refine mt_aload_n dX4_exchange_1 rfl rfl ?_
    refine mt_iload_n dX4_exchange_2 rfl ?_
    refine mt_iload_n dX4_exchange_3 rfl ?_
    refine mt_callV (N := mX4_isPlace) (Rc := rX4_isPlace) (As := [.int row, .int place]) (st := [.ref 27]) dX4_exchange_4 (kX4_isPlace_f hl hq2) sX4_isPlace mw_1126 mKX4 rfl C0 rfl (Nat.le_of_ble_eq_true rfl) ⟨⟨Nat.le_of_ble_eq_true rfl, Nat.le_of_ble_eq_true rfl⟩, (by first | exact Nat.le_of_ble_eq_true rfl | (simp only [rX4_isPlace, rX4_isLet, rX4_pairs, rX4_change, rX4_did, rX4_exchange]; omega)), (by first | exact Nat.le_of_ble_eq_true rfl | (simp only [rX4_isPlace, rX4_isLet, rX4_pairs, rX4_change, rX4_did, rX4_exchange]; omega))⟩ (fun v4 h5 n6 c7 => ?_) (fun _ _ _ hx => hx.elim)
    obtain ⟨c7a, c7b, c7c⟩ := c7
    rw [c7a, c7b, c7c]
    show mT _ _ _ _ 7 [.ref 27, .int row, .int place, .double 0] [.int (nI 0), .ref 27] _ _ _ _
    refine mt_if_eq dX4_exchange_7 (tgt := 25) rfl (fun q8 => ?_) (fun q8 => ?_)
    · have q8 := (mI_eq0 (by omega)).mp q8
      refine mt_iconst dX4_exchange_25 (v := nI 0) rfl ?_
      refine mt_iconst dX4_exchange_26 (v := nI 1) rfl ?_
      refine mt_callV (N := mX4_isLet) (Rc := rX4_isLet) (As := [.int (nI 0), .int (nI 1)]) (st := []) dX4_exchange_27 (kX4_isLet (t := false) (f := true) hl C0) sX4_isLet mw_1092 mKX4 rfl C0 rfl (Nat.le_of_ble_eq_true rfl) ⟨⟨Nat.le_of_ble_eq_true rfl, Nat.le_of_ble_eq_true rfl⟩, (by first | exact Nat.le_of_ble_eq_true rfl | (simp only [rX4_isPlace, rX4_isLet, rX4_pairs, rX4_change, rX4_did, rX4_exchange]; omega)), (by first | exact Nat.le_of_ble_eq_true rfl | (simp only [rX4_isPlace, rX4_isLet, rX4_pairs, rX4_change, rX4_did, rX4_exchange]; omega))⟩ (fun v9 h10 n11 c12 => ?_) (fun _ _ _ hx => hx.elim)
      obtain ⟨c12a, c12b, c12c, c12d⟩ := c12
      rw [c12a, c12b]
      show mT _ _ _ _ 30 [.ref 27, .int row, .int place, .double 0] [.int (nI 0)] _ _ _ _
      refine mt_if_ne dX4_exchange_30 (tgt := 35) rfl (fun q13 => ?_) (fun q13 => ?_)
      · have q13 := (not_congr (mI_eq0 (by omega))).mp q13
        exact absurd q13 (by decide)
      · have q13 := (mI_eq0 (by omega)).mp q13
        refine mt_iconst dX4_exchange_33 (v := nI 0) rfl ?_
        refine mt_ireturn dX4_exchange_34 rfl rfl (by first | exact Nat.le_of_ble_eq_true rfl | (simp only [rX4_isPlace, rX4_isLet, rX4_pairs, rX4_change, rX4_did, rX4_exchange]; omega)) (by first | exact Nat.le_of_ble_eq_true rfl | (simp only [rX4_isPlace, rX4_isLet, rX4_pairs, rX4_change, rX4_did, rX4_exchange]; omega)) ?_
        exact mOk.no (k := 1) (S' := S) (by simp only [mp_exchange, dAt_n (k := 4) (x := row) hq2, if_pos q8, if_pos q13]) (by decide) rfl (by omega) c12c (by omega) (mRows.fr (n' := n) HR (by omega) (fun j j1 j2 j3 => c12d (j) (by omega)) (by omega)) (fun j hj => c12d j (by omega))
    · have q8 := (not_congr (mI_eq0 (by omega))).mp q8
      exact absurd q8 (by decide)
  · obtain ⟨hr3, rfl⟩ := inN_of hq2 (by first | decide | omega)
    obtain ⟨⟨ka_14, kb_14, kc_14, kd_14⟩, kf_14, ke_14, kg_14⟩ := AK_1 r3 hr3
    obtain ⟨⟨sa_14, sb_14, sc_14, sd_14⟩, sf_14, se_14, sg_14⟩ := AS_1 r3 hr3
    have kn_14 := NE_1 r3 r3 hr3 hr3
    have kl_14 := LE_1 r3 hr3
    have km_14 := rroom_le (r := r3)
    rcases hq15 : inN ((S.1 r3).length - 1) place with _ | p16
    · rcases hq17 : inN (S.1 r3).length place with _ | p18
      · refine mt_aload_n dX4_exchange_0 rfl rfl ?_
        refine mt_aload_n dX4_exchange_1 rfl rfl ?_
        refine mt_iload_n dX4_exchange_2 rfl ?_
        refine mt_iload_n dX4_exchange_3 rfl ?_
        refine mt_callV (N := mX4_isPlace) (Rc := rX4_isPlace) (As := [.int (nI r3), .int place]) (st := [.ref 27]) dX4_exchange_4 (kX4_isPlace hl C0 HR (by omega) (by omega)) sX4_isPlace mw_1126 mKX4 rfl C0 rfl (Nat.le_of_ble_eq_true rfl) ⟨⟨Nat.le_of_ble_eq_true rfl, Nat.le_of_ble_eq_true rfl⟩, (by first | exact Nat.le_of_ble_eq_true rfl | (simp only [rX4_isPlace, rX4_isLet, rX4_pairs, rX4_change, rX4_did, rX4_exchange]; omega)), (by first | exact Nat.le_of_ble_eq_true rfl | (simp only [rX4_isPlace, rX4_isLet, rX4_pairs, rX4_change, rX4_did, rX4_exchange]; omega))⟩ (fun v19 h20 n21 c22 => ?_) (fun _ _ _ hx => hx.elim)
        obtain ⟨c22a, c22b, c22c⟩ := c22
        rw [show (inN (S.1 r3).length place).isSome = false from by rw [hq17]; rfl] at c22a
        rw [c22a, c22b, c22c]
        show mT _ _ _ _ 7 [.ref 27, .int (nI r3), .int place, .double 0] [.int (nI 0), .ref 27] _ _ _ _
        refine mt_if_eq dX4_exchange_7 (tgt := 25) rfl (fun q23 => ?_) (fun q23 => ?_)
        · have q23 := (mI_eq0 (by omega)).mp q23
          refine mt_iconst dX4_exchange_25 (v := nI 0) rfl ?_
          refine mt_iconst dX4_exchange_26 (v := nI 1) rfl ?_
          refine mt_callV (N := mX4_isLet) (Rc := rX4_isLet) (As := [.int (nI 0), .int (nI 1)]) (st := []) dX4_exchange_27 (kX4_isLet (t := false) (f := true) hl C0) sX4_isLet mw_1092 mKX4 rfl C0 rfl (Nat.le_of_ble_eq_true rfl) ⟨⟨Nat.le_of_ble_eq_true rfl, Nat.le_of_ble_eq_true rfl⟩, (by first | exact Nat.le_of_ble_eq_true rfl | (simp only [rX4_isPlace, rX4_isLet, rX4_pairs, rX4_change, rX4_did, rX4_exchange]; omega)), (by first | exact Nat.le_of_ble_eq_true rfl | (simp only [rX4_isPlace, rX4_isLet, rX4_pairs, rX4_change, rX4_did, rX4_exchange]; omega))⟩ (fun v24 h25 n26 c27 => ?_) (fun _ _ _ hx => hx.elim)
          obtain ⟨c27a, c27b, c27c, c27d⟩ := c27
          rw [c27a, c27b]
          show mT _ _ _ _ 30 [.ref 27, .int (nI r3), .int place, .double 0] [.int (nI 0)] _ _ _ _
          refine mt_if_ne dX4_exchange_30 (tgt := 35) rfl (fun q28 => ?_) (fun q28 => ?_)
          · have q28 := (not_congr (mI_eq0 (by omega))).mp q28
            exact absurd q28 (by decide)
          · have q28 := (mI_eq0 (by omega)).mp q28
            refine mt_iconst dX4_exchange_33 (v := nI 0) rfl ?_
            refine mt_ireturn dX4_exchange_34 rfl rfl (by first | exact Nat.le_of_ble_eq_true rfl | (simp only [rX4_isPlace, rX4_isLet, rX4_pairs, rX4_change, rX4_did, rX4_exchange]; omega)) (by first | exact Nat.le_of_ble_eq_true rfl | (simp only [rX4_isPlace, rX4_isLet, rX4_pairs, rX4_change, rX4_did, rX4_exchange]; omega)) ?_
            exact mOk.no (k := 1) (S' := S) (by simp only [mp_exchange, dAt_s (k := 4) hr3 (by first | decide | omega), dAt_n (k := ((S.1 r3).length - 1)) (x := place) hq15, if_pos q23, if_pos q28]) (by decide) rfl (by omega) c27c (by omega) (mRows.fr (n' := n) HR (by omega) (fun j j1 j2 j3 => c27d (j) (by omega)) (by omega)) (fun j hj => c27d j (by omega))
        · have q23 := (not_congr (mI_eq0 (by omega))).mp q23
          exact absurd q23 (by decide)
      · obtain ⟨hp18, rfl⟩ := inN_of hq17 (by omega)
        have hno : ¬ p18 < (S.1 r3).length - 1 := fun z => by rw [inN_some z (by omega)] at hq15; cases hq15
        refine mt_aload_n dX4_exchange_0 rfl rfl ?_
        refine mt_aload_n dX4_exchange_1 rfl rfl ?_
        refine mt_iload_n dX4_exchange_2 rfl ?_
        refine mt_iload_n dX4_exchange_3 rfl ?_
        refine mt_callV (N := mX4_isPlace) (Rc := rX4_isPlace) (As := [.int (nI r3), .int (nI p18)]) (st := [.ref 27]) dX4_exchange_4 (kX4_isPlace hl C0 HR (by omega) (by omega)) sX4_isPlace mw_1126 mKX4 rfl C0 rfl (Nat.le_of_ble_eq_true rfl) ⟨⟨Nat.le_of_ble_eq_true rfl, Nat.le_of_ble_eq_true rfl⟩, (by first | exact Nat.le_of_ble_eq_true rfl | (simp only [rX4_isPlace, rX4_isLet, rX4_pairs, rX4_change, rX4_did, rX4_exchange]; omega)), (by first | exact Nat.le_of_ble_eq_true rfl | (simp only [rX4_isPlace, rX4_isLet, rX4_pairs, rX4_change, rX4_did, rX4_exchange]; omega))⟩ (fun v29 h30 n31 c32 => ?_) (fun _ _ _ hx => hx.elim)
        obtain ⟨c32a, c32b, c32c⟩ := c32
        rw [show (inN (S.1 r3).length (nI p18)).isSome = true from by rw [inN_some hp18 (by omega)]; rfl] at c32a
        rw [c32a, c32b, c32c]
        show mT _ _ _ _ 7 [.ref 27, .int (nI r3), .int (nI p18), .double 0] [.int (nI 1), .ref 27] _ _ _ _
        refine mt_if_eq dX4_exchange_7 (tgt := 25) rfl (fun q33 => ?_) (fun q33 => ?_)
        · have q33 := (mI_eq0 (by omega)).mp q33
          exact absurd q33 (by decide)
        · have q33 := (not_congr (mI_eq0 (by omega))).mp q33
          refine mt_aload_n dX4_exchange_10 rfl rfl ?_
          refine mt_iload_n dX4_exchange_11 rfl ?_
          refine mt_iload_n dX4_exchange_12 rfl ?_
          refine mt_iconst dX4_exchange_13 (v := nI 1) rfl ?_
          refine mp_iadd dX4_exchange_14 (v := nI (p18 + 1)) (nI_add _ _) ?_
          refine mt_callV (N := mX4_isPlace) (Rc := rX4_isPlace) (As := [.int (nI r3), .int (nI (p18 + 1))]) (st := [.ref 27]) dX4_exchange_15 (kX4_isPlace hl C0 HR (by omega) (by omega)) sX4_isPlace mw_1126 mKX4 rfl C0 rfl (Nat.le_of_ble_eq_true rfl) ⟨⟨Nat.le_of_ble_eq_true rfl, Nat.le_of_ble_eq_true rfl⟩, (by first | exact Nat.le_of_ble_eq_true rfl | (simp only [rX4_isPlace, rX4_isLet, rX4_pairs, rX4_change, rX4_did, rX4_exchange]; omega)), (by first | exact Nat.le_of_ble_eq_true rfl | (simp only [rX4_isPlace, rX4_isLet, rX4_pairs, rX4_change, rX4_did, rX4_exchange]; omega))⟩ (fun v34 h35 n36 c37 => ?_) (fun _ _ _ hx => hx.elim)
          obtain ⟨c37a, c37b, c37c⟩ := c37
          rw [show (inN (S.1 r3).length (nI (p18 + 1))).isSome = false from by rw [inN_out (by omega) (by omega)]; rfl] at c37a
          rw [c37a, c37b, c37c]
          show mT _ _ _ _ 18 [.ref 27, .int (nI r3), .int (nI p18), .double 0] [.int (nI 0), .ref 27] _ _ _ _
          refine mt_if_eq dX4_exchange_18 (tgt := 25) rfl (fun q38 => ?_) (fun q38 => ?_)
          · have q38 := (mI_eq0 (by omega)).mp q38
            refine mt_iconst dX4_exchange_25 (v := nI 0) rfl ?_
            refine mt_iconst dX4_exchange_26 (v := nI 1) rfl ?_
            refine mt_callV (N := mX4_isLet) (Rc := rX4_isLet) (As := [.int (nI 0), .int (nI 1)]) (st := []) dX4_exchange_27 (kX4_isLet (t := false) (f := true) hl C0) sX4_isLet mw_1092 mKX4 rfl C0 rfl (Nat.le_of_ble_eq_true rfl) ⟨⟨Nat.le_of_ble_eq_true rfl, Nat.le_of_ble_eq_true rfl⟩, (by first | exact Nat.le_of_ble_eq_true rfl | (simp only [rX4_isPlace, rX4_isLet, rX4_pairs, rX4_change, rX4_did, rX4_exchange]; omega)), (by first | exact Nat.le_of_ble_eq_true rfl | (simp only [rX4_isPlace, rX4_isLet, rX4_pairs, rX4_change, rX4_did, rX4_exchange]; omega))⟩ (fun v39 h40 n41 c42 => ?_) (fun _ _ _ hx => hx.elim)
            obtain ⟨c42a, c42b, c42c, c42d⟩ := c42
            rw [c42a, c42b]
            show mT _ _ _ _ 30 [.ref 27, .int (nI r3), .int (nI p18), .double 0] [.int (nI 0)] _ _ _ _
            refine mt_if_ne dX4_exchange_30 (tgt := 35) rfl (fun q43 => ?_) (fun q43 => ?_)
            · have q43 := (not_congr (mI_eq0 (by omega))).mp q43
              exact absurd q43 (by decide)
            · have q43 := (mI_eq0 (by omega)).mp q43
              refine mt_iconst dX4_exchange_33 (v := nI 0) rfl ?_
              refine mt_ireturn dX4_exchange_34 rfl rfl (by first | exact Nat.le_of_ble_eq_true rfl | (simp only [rX4_isPlace, rX4_isLet, rX4_pairs, rX4_change, rX4_did, rX4_exchange]; omega)) (by first | exact Nat.le_of_ble_eq_true rfl | (simp only [rX4_isPlace, rX4_isLet, rX4_pairs, rX4_change, rX4_did, rX4_exchange]; omega)) ?_
              exact mOk.no (k := 1) (S' := S) (by simp only [mp_exchange, dAt_s (k := 4) hr3 (by first | decide | omega), dAt_n (k := ((S.1 r3).length - 1)) (x := nI p18) hq15, if_neg q33, if_pos q38, if_pos q43]) (by decide) rfl (by omega) c42c (by omega) (mRows.fr (n' := n) HR (by omega) (fun j j1 j2 j3 => c42d (j) (by omega)) (by omega)) (fun j hj => c42d j (by omega))
          · have q38 := (not_congr (mI_eq0 (by omega))).mp q38
            exact absurd q38 (by decide)
    · obtain ⟨hp16, rfl⟩ := inN_of hq15 (by first | decide | omega)
      refine mt_aload_n dX4_exchange_0 rfl rfl ?_
      refine mt_aload_n dX4_exchange_1 rfl rfl ?_
      refine mt_iload_n dX4_exchange_2 rfl ?_
      refine mt_iload_n dX4_exchange_3 rfl ?_
      refine mt_callV (N := mX4_isPlace) (Rc := rX4_isPlace) (As := [.int (nI r3), .int (nI p16)]) (st := [.ref 27]) dX4_exchange_4 (kX4_isPlace hl C0 HR (by omega) (by omega)) sX4_isPlace mw_1126 mKX4 rfl C0 rfl (Nat.le_of_ble_eq_true rfl) ⟨⟨Nat.le_of_ble_eq_true rfl, Nat.le_of_ble_eq_true rfl⟩, (by first | exact Nat.le_of_ble_eq_true rfl | (simp only [rX4_isPlace, rX4_isLet, rX4_pairs, rX4_change, rX4_did, rX4_exchange]; omega)), (by first | exact Nat.le_of_ble_eq_true rfl | (simp only [rX4_isPlace, rX4_isLet, rX4_pairs, rX4_change, rX4_did, rX4_exchange]; omega))⟩ (fun v44 h45 n46 c47 => ?_) (fun _ _ _ hx => hx.elim)
      obtain ⟨c47a, c47b, c47c⟩ := c47
      rw [show (inN (S.1 r3).length (nI p16)).isSome = true from by rw [inN_some (show p16 < (S.1 r3).length by omega) (by omega)]; rfl] at c47a
      rw [c47a, c47b, c47c]
      show mT _ _ _ _ 7 [.ref 27, .int (nI r3), .int (nI p16), .double 0] [.int (nI 1), .ref 27] _ _ _ _
      refine mt_if_eq dX4_exchange_7 (tgt := 25) rfl (fun q48 => ?_) (fun q48 => ?_)
      · have q48 := (mI_eq0 (by omega)).mp q48
        exact absurd q48 (by decide)
      · have q48 := (not_congr (mI_eq0 (by omega))).mp q48
        refine mt_aload_n dX4_exchange_10 rfl rfl ?_
        refine mt_iload_n dX4_exchange_11 rfl ?_
        refine mt_iload_n dX4_exchange_12 rfl ?_
        refine mt_iconst dX4_exchange_13 (v := nI 1) rfl ?_
        refine mp_iadd dX4_exchange_14 (v := nI (p16 + 1)) (nI_add _ _) ?_
        refine mt_callV (N := mX4_isPlace) (Rc := rX4_isPlace) (As := [.int (nI r3), .int (nI (p16 + 1))]) (st := [.ref 27]) dX4_exchange_15 (kX4_isPlace hl C0 HR (by omega) (by omega)) sX4_isPlace mw_1126 mKX4 rfl C0 rfl (Nat.le_of_ble_eq_true rfl) ⟨⟨Nat.le_of_ble_eq_true rfl, Nat.le_of_ble_eq_true rfl⟩, (by first | exact Nat.le_of_ble_eq_true rfl | (simp only [rX4_isPlace, rX4_isLet, rX4_pairs, rX4_change, rX4_did, rX4_exchange]; omega)), (by first | exact Nat.le_of_ble_eq_true rfl | (simp only [rX4_isPlace, rX4_isLet, rX4_pairs, rX4_change, rX4_did, rX4_exchange]; omega))⟩ (fun v49 h50 n51 c52 => ?_) (fun _ _ _ hx => hx.elim)
        obtain ⟨c52a, c52b, c52c⟩ := c52
        rw [show (inN (S.1 r3).length (nI (p16 + 1))).isSome = true from by rw [inN_some (show p16 + 1 < (S.1 r3).length by omega) (by omega)]; rfl] at c52a
        rw [c52a, c52b, c52c]
        show mT _ _ _ _ 18 [.ref 27, .int (nI r3), .int (nI p16), .double 0] [.int (nI 1), .ref 27] _ _ _ _
        refine mt_if_eq dX4_exchange_18 (tgt := 25) rfl (fun q53 => ?_) (fun q53 => ?_)
        · have q53 := (mI_eq0 (by omega)).mp q53
          exact absurd q53 (by decide)
        · have q53 := (not_congr (mI_eq0 (by omega))).mp q53
          refine mt_iconst dX4_exchange_21 (v := nI 1) rfl ?_
          refine mt_goto dX4_exchange_22 (tgt := 26) rfl ?_
          refine mt_iconst dX4_exchange_26 (v := nI 1) rfl ?_
          refine mt_callV (N := mX4_isLet) (Rc := rX4_isLet) (As := [.int (nI 1), .int (nI 1)]) (st := []) dX4_exchange_27 (kX4_isLet (t := true) (f := true) hl C0) sX4_isLet mw_1092 mKX4 rfl C0 rfl (Nat.le_of_ble_eq_true rfl) ⟨⟨Nat.le_of_ble_eq_true rfl, Nat.le_of_ble_eq_true rfl⟩, (by first | exact Nat.le_of_ble_eq_true rfl | (simp only [rX4_isPlace, rX4_isLet, rX4_pairs, rX4_change, rX4_did, rX4_exchange]; omega)), (by first | exact Nat.le_of_ble_eq_true rfl | (simp only [rX4_isPlace, rX4_isLet, rX4_pairs, rX4_change, rX4_did, rX4_exchange]; omega))⟩ (fun v54 h55 n56 c57 => ?_) (fun _ _ _ hx => hx.elim)
          obtain ⟨c57a, c57b, c57c, c57d⟩ := c57
          rw [c57a, c57b]
          show mT _ _ _ _ 30 [.ref 27, .int (nI r3), .int (nI p16), .double 0] [.int (nI 1)] _ _ _ _
          refine mt_if_ne dX4_exchange_30 (tgt := 35) rfl (fun q58 => ?_) (fun q58 => ?_)
          · have q58 := (not_congr (mI_eq0 (by omega))).mp q58
            refine mt_aload_n dX4_exchange_35 rfl rfl ?_
            refine mt_iload_n dX4_exchange_36 rfl ?_
            refine mt_iconst dX4_exchange_37 (v := nI 1) rfl ?_
            refine mt_callV (N := mX4_pairs) (Rc := rX4_pairs) (As := [.int (nI r3), .int (nI 1)]) (st := []) dX4_exchange_38 (kX4_pairs hl c57c (mRows.fr (n' := n) HR (by omega) (fun j j1 j2 j3 => c57d (j) (by omega)) (by omega)) (by omega)) sX4_pairs mw_1146 mKX4 rfl c57c rfl (Nat.le_of_ble_eq_true rfl) ⟨⟨Nat.le_of_ble_eq_true rfl, Nat.le_of_ble_eq_true rfl⟩, (by first | exact Nat.le_of_ble_eq_true rfl | (simp only [rX4_isPlace, rX4_isLet, rX4_pairs, rX4_change, rX4_did, rX4_exchange]; omega)), (by first | exact Nat.le_of_ble_eq_true rfl | (simp only [rX4_isPlace, rX4_isLet, rX4_pairs, rX4_change, rX4_did, rX4_exchange]; omega))⟩ (fun v59 h60 n61 c62 => ?_) (fun _ _ _ hx => hx.elim)
            obtain ⟨c62a, c62b, c62c⟩ := c62
            rw [c62a, c62b, c62c]
            show mT _ _ _ _ 41 [.ref 27, .int (nI r3), .int (nI p16), .double 0] [.int (mq_pairs (S.1 r3) (nI 1))] _ _ _ _
            refine mp_istore_n dX4_exchange_41 (ls' := [.ref 27, .int (nI r3), .int (nI p16), .int (mq_pairs (S.1 r3) (nI 1))]) rfl (by decide) rfl ?_
            refine mt_aload_n dX4_exchange_42 rfl rfl ?_
            refine mt_iload_n dX4_exchange_43 rfl ?_
            refine mt_iload_n dX4_exchange_44 rfl ?_
            refine mt_iload_n dX4_exchange_45 rfl ?_
            refine mt_iconst dX4_exchange_46 (v := nI 1) rfl ?_
            refine mp_iadd dX4_exchange_47 (v := nI (p16 + 1)) (nI_add _ _) ?_
            refine mt_callV (N := mX4_change) (Rc := rX4_change) (As := [.int (nI r3), .int (nI p16), .int (nI (p16 + 1))]) (st := []) dX4_exchange_48 (kX4_change hl c57c (mRows.fr (n' := n) HR (by omega) (fun j j1 j2 j3 => c57d (j) (by omega)) (by omega)) (by omega) (by omega) (by omega) (by omega)) sX4_change mw_1153 mKX4 rfl c57c rfl (Nat.le_of_ble_eq_true rfl) ⟨⟨Nat.le_of_ble_eq_true rfl, Nat.le_of_ble_eq_true rfl⟩, (by first | exact Nat.le_of_ble_eq_true rfl | (simp only [rX4_isPlace, rX4_isLet, rX4_pairs, rX4_change, rX4_did, rX4_exchange]; omega)), (by first | exact Nat.le_of_ble_eq_true rfl | (simp only [rX4_isPlace, rX4_isLet, rX4_pairs, rX4_change, rX4_did, rX4_exchange]; omega))⟩ (fun v63 h64 n65 c66 => ?_) (fun _ _ _ hx => hx.elim)
            obtain ⟨c66a, c66b, c66c, c66d, c66e⟩ := c66
            rw [c66a, c66b]
            obtain ⟨Sz67, eSz67⟩ : ∃ s9 : cS, s9 = cSet S r3 (swp (S.1 r3) p16 (p16 + 1)) := ⟨_, rfl⟩
            obtain ⟨kxz67, sxz67, HRz67⟩ : ∃ k9 s9, mRows h64 n Sz67 k9 s9 := by rw [eSz67]; exact ⟨_, _, c66c⟩
            have eLz67 : (Sz67.1 r3).length = (S.1 r3).length := by rw [eSz67, cSet_s]; exact swp_len
            obtain ⟨⟨gk_68, G28_68, GK_68⟩, ⟨gs_68, G33_68, GS_68⟩, AK_68, AS_68, NE_68, NQ_68, LE_68⟩ := id HRz67
            obtain ⟨⟨ka_69, kb_69, kc_69, kd_69⟩, kf_69, ke_69, kg_69⟩ := AK_68 r3 (by omega)
            obtain ⟨⟨sa_69, sb_69, sc_69, sd_69⟩, sf_69, se_69, sg_69⟩ := AS_68 r3 (by omega)
            have kn_69 := NE_68 r3 r3 (by omega) (by omega)
            have kl_69 := LE_68 r3 (by omega)
            have km_69 := rroom_le (r := r3)
            show mT _ _ _ _ 51 [.ref 27, .int (nI r3), .int (nI p16), .int (mq_pairs (S.1 r3) (nI 1))] [] _ _ _ _
            refine mt_aload_n dX4_exchange_51 rfl rfl ?_
            refine mt_aload_n dX4_exchange_52 rfl rfl ?_
            refine mt_iload_n dX4_exchange_53 rfl ?_
            refine mt_iconst dX4_exchange_54 (v := nI 1) rfl ?_
            refine mt_callV (N := mX4_pairs) (Rc := rX4_pairs) (As := [.int (nI r3), .int (nI 1)]) (st := [.ref 27]) dX4_exchange_55 (kX4_pairs hl c66d HRz67 (by omega)) sX4_pairs mw_1146 mKX4 rfl c66d rfl (Nat.le_of_ble_eq_true rfl) ⟨⟨Nat.le_of_ble_eq_true rfl, Nat.le_of_ble_eq_true rfl⟩, (by first | exact Nat.le_of_ble_eq_true rfl | (simp only [rX4_isPlace, rX4_isLet, rX4_pairs, rX4_change, rX4_did, rX4_exchange]; omega)), (by first | exact Nat.le_of_ble_eq_true rfl | (simp only [rX4_isPlace, rX4_isLet, rX4_pairs, rX4_change, rX4_did, rX4_exchange]; omega))⟩ (fun v70 h71 n72 c73 => ?_) (fun _ _ _ hx => hx.elim)
            obtain ⟨c73a, c73b, c73c⟩ := c73
            rw [c73a, c73b, c73c]
            show mT _ _ _ _ 58 [.ref 27, .int (nI r3), .int (nI p16), .int (mq_pairs (S.1 r3) (nI 1))] [.int (mq_pairs (Sz67.1 r3) (nI 1)), .ref 27] _ _ _ _
            refine mt_iload_n dX4_exchange_58 rfl ?_
            refine mp_isub dX4_exchange_59 (v := (mq_pairs (Sz67.1 r3) (nI 1)) - (mq_pairs (S.1 r3) (nI 1))) rfl ?_
            refine mt_callV (N := mX4_did) (Rc := rX4_did) (As := [.int ((mq_pairs (Sz67.1 r3) (nI 1)) - (mq_pairs (S.1 r3) (nI 1)))]) (st := []) dX4_exchange_60 (kX4_did hl c66d) sX4_did mw_1105 mKX4 rfl c66d rfl (Nat.le_of_ble_eq_true rfl) ⟨⟨Nat.le_of_ble_eq_true rfl, Nat.le_of_ble_eq_true rfl⟩, (by first | exact Nat.le_of_ble_eq_true rfl | (simp only [rX4_isPlace, rX4_isLet, rX4_pairs, rX4_change, rX4_did, rX4_exchange]; omega)), (by first | exact Nat.le_of_ble_eq_true rfl | (simp only [rX4_isPlace, rX4_isLet, rX4_pairs, rX4_change, rX4_did, rX4_exchange]; omega))⟩ (fun v74 h75 n76 c77 => ?_) (fun _ _ _ hx => hx.elim)
            obtain ⟨c77a, c77b, c77c, c77d⟩ := c77
            rw [c77a, c77b]
            show mT _ _ _ _ 63 [.ref 27, .int (nI r3), .int (nI p16), .int (mq_pairs (S.1 r3) (nI 1))] [.int ((mq_pairs (Sz67.1 r3) (nI 1)) - (mq_pairs (S.1 r3) (nI 1)))] _ _ _ _
            refine mt_ireturn dX4_exchange_63 rfl rfl (by first | exact Nat.le_of_ble_eq_true rfl | (simp only [rX4_isPlace, rX4_isLet, rX4_pairs, rX4_change, rX4_did, rX4_exchange]; omega)) (by first | exact Nat.le_of_ble_eq_true rfl | (simp only [rX4_isPlace, rX4_isLet, rX4_pairs, rX4_change, rX4_did, rX4_exchange]; omega)) ?_
            exact mOk.of (x := .int ((mq_pairs (Sz67.1 r3) (nI 1)) - (mq_pairs (S.1 r3) (nI 1)))) (S' := ((Sz67).1, S.2.1, S.2.2.1 + nI 1, S.2.2.2.1, S.2.2.2.2)) (by rw [eSz67]; simp only [mp_exchange, dAt_s (k := 4) hr3 (by first | decide | omega), dAt_s (k := ((S.1 r3).length - 1)) hp16 (by first | decide | omega), if_neg q48, if_neg q53, if_neg q58, cSet_s] <;> first | rfl | simp_all) rfl (by omega) c77c (by omega) (mRows.fr (n' := n) HRz67 (by omega) (fun j j1 j2 j3 => c77d (j) (by omega)) (by omega)) (fun j hj => (c77d j (by omega)).trans ((c66e j (by omega)).trans (c57d j (by omega))))
          · have q58 := (mI_eq0 (by omega)).mp q58
            exact absurd q58 (by decide)
abbrev rX4_swap : Room := { frames := 3, cells := 0, slots := 0, locals := 64 }
def mp_swap (S : cS) (row : Int32) (place : Int32) (other : Int32) : Nat × Value × cS := dAt S 4 row fun r => dAt S (S.1 r).length place fun p => dAt S (S.1 r).length other fun q => (0, .int (if xk (swp (S.1 r) p q) p = xk (swp (S.1 r) p q) q then nI 0 else nI 1), cAct (cSet S r (swp (S.1 r) p q)))
set_option maxRecDepth 100000 in
set_option maxHeartbeats 2000000 in
theorem kX4_swap {l : Launch} (hl : l.stackTraces = false) {h : mH} {n : Nat} {S : cS} {th : Int32} {row : Int32} {place : Int32} {other : Int32} (C : mAt h n S th) : mC l mX4_swap rX4_swap [.ref 27, .int row, .int place, .int other] h n (mOk (mp_swap S row place other) (.int (nI 0)) h n) (mNX) := by
  obtain ⟨C0, h39, kx, sx, HR⟩ := id C
  obtain ⟨⟨gk_1, G28_1, GK_1⟩, ⟨gs_1, G33_1, GS_1⟩, AK_1, AS_1, NE_1, NQ_1, LE_1⟩ := id HR
  refine mm_enter hl (by decide +kernel) rfl rfl rfl (Nat.le_of_ble_eq_true rfl) ?_
  show mT _ _ _ _ 0 [.ref 27, .int row, .int place, .int other] [] _ _ 0 0
  rcases hq2 : inN 4 row with _ | r3
  · refine mt_aload_n dX4_swap_0 rfl rfl ?_
    refine mt_aload_n dX4_swap_1 rfl rfl ?_
    refine mt_iload_n dX4_swap_2 rfl ?_
    refine mt_iload_n dX4_swap_3 rfl ?_
    refine mt_callV (N := mX4_isPlace) (Rc := rX4_isPlace) (As := [.int row, .int place]) (st := [.ref 27]) dX4_swap_4 (kX4_isPlace_f hl hq2) sX4_isPlace mw_1126 mKX4 rfl C0 rfl (Nat.le_of_ble_eq_true rfl) ⟨⟨Nat.le_of_ble_eq_true rfl, Nat.le_of_ble_eq_true rfl⟩, (by first | exact Nat.le_of_ble_eq_true rfl | (simp only [rX4_isPlace, rX4_isLet, rX4_change, rX4_did, rX4_swap]; omega)), (by first | exact Nat.le_of_ble_eq_true rfl | (simp only [rX4_isPlace, rX4_isLet, rX4_change, rX4_did, rX4_swap]; omega))⟩ (fun v4 h5 n6 c7 => ?_) (fun _ _ _ hx => hx.elim)
    obtain ⟨c7a, c7b, c7c⟩ := c7
    rw [c7a, c7b, c7c]
    show mT _ _ _ _ 7 [.ref 27, .int row, .int place, .int other] [.int (nI 0), .ref 27] _ _ _ _
    refine mt_if_eq dX4_swap_7 (tgt := 23) rfl (fun q8 => ?_) (fun q8 => ?_)
    · have q8 := (mI_eq0 (by omega)).mp q8
      refine mt_iconst dX4_swap_23 (v := nI 0) rfl ?_
      refine mt_iconst dX4_swap_24 (v := nI 1) rfl ?_
      refine mt_callV (N := mX4_isLet) (Rc := rX4_isLet) (As := [.int (nI 0), .int (nI 1)]) (st := []) dX4_swap_25 (kX4_isLet (t := false) (f := true) hl C0) sX4_isLet mw_1092 mKX4 rfl C0 rfl (Nat.le_of_ble_eq_true rfl) ⟨⟨Nat.le_of_ble_eq_true rfl, Nat.le_of_ble_eq_true rfl⟩, (by first | exact Nat.le_of_ble_eq_true rfl | (simp only [rX4_isPlace, rX4_isLet, rX4_change, rX4_did, rX4_swap]; omega)), (by first | exact Nat.le_of_ble_eq_true rfl | (simp only [rX4_isPlace, rX4_isLet, rX4_change, rX4_did, rX4_swap]; omega))⟩ (fun v9 h10 n11 c12 => ?_) (fun _ _ _ hx => hx.elim)
      obtain ⟨c12a, c12b, c12c, c12d⟩ := c12
      rw [c12a, c12b]
      show mT _ _ _ _ 28 [.ref 27, .int row, .int place, .int other] [.int (nI 0)] _ _ _ _
      refine mt_if_ne dX4_swap_28 (tgt := 33) rfl (fun q13 => ?_) (fun q13 => ?_)
      · have q13 := (not_congr (mI_eq0 (by omega))).mp q13
        exact absurd q13 (by decide)
      · have q13 := (mI_eq0 (by omega)).mp q13
        refine mt_iconst dX4_swap_31 (v := nI 0) rfl ?_
        refine mt_ireturn dX4_swap_32 rfl rfl (by first | exact Nat.le_of_ble_eq_true rfl | (simp only [rX4_isPlace, rX4_isLet, rX4_change, rX4_did, rX4_swap]; omega)) (by first | exact Nat.le_of_ble_eq_true rfl | (simp only [rX4_isPlace, rX4_isLet, rX4_change, rX4_did, rX4_swap]; omega)) ?_
        exact mOk.no (k := 1) (S' := S) (by simp only [mp_swap, dAt_n (k := 4) (x := row) hq2, if_pos q8, if_pos q13]) (by decide) rfl (by omega) c12c (by omega) (mRows.fr (n' := n) HR (by omega) (fun j j1 j2 j3 => c12d (j) (by omega)) (by omega)) (fun j hj => c12d j (by omega))
    · have q8 := (not_congr (mI_eq0 (by omega))).mp q8
      exact absurd q8 (by decide)
  · obtain ⟨hr3, rfl⟩ := inN_of hq2 (by first | decide | omega)
    obtain ⟨⟨ka_14, kb_14, kc_14, kd_14⟩, kf_14, ke_14, kg_14⟩ := AK_1 r3 hr3
    obtain ⟨⟨sa_14, sb_14, sc_14, sd_14⟩, sf_14, se_14, sg_14⟩ := AS_1 r3 hr3
    have kn_14 := NE_1 r3 r3 hr3 hr3
    have kl_14 := LE_1 r3 hr3
    have km_14 := rroom_le (r := r3)
    rcases hq15 : inN (S.1 r3).length place with _ | p16
    · refine mt_aload_n dX4_swap_0 rfl rfl ?_
      refine mt_aload_n dX4_swap_1 rfl rfl ?_
      refine mt_iload_n dX4_swap_2 rfl ?_
      refine mt_iload_n dX4_swap_3 rfl ?_
      refine mt_callV (N := mX4_isPlace) (Rc := rX4_isPlace) (As := [.int (nI r3), .int place]) (st := [.ref 27]) dX4_swap_4 (kX4_isPlace hl C0 HR (by omega) (by omega)) sX4_isPlace mw_1126 mKX4 rfl C0 rfl (Nat.le_of_ble_eq_true rfl) ⟨⟨Nat.le_of_ble_eq_true rfl, Nat.le_of_ble_eq_true rfl⟩, (by first | exact Nat.le_of_ble_eq_true rfl | (simp only [rX4_isPlace, rX4_isLet, rX4_change, rX4_did, rX4_swap]; omega)), (by first | exact Nat.le_of_ble_eq_true rfl | (simp only [rX4_isPlace, rX4_isLet, rX4_change, rX4_did, rX4_swap]; omega))⟩ (fun v17 h18 n19 c20 => ?_) (fun _ _ _ hx => hx.elim)
      obtain ⟨c20a, c20b, c20c⟩ := c20
      rw [show (inN (S.1 r3).length place).isSome = false from by rw [hq15]; rfl] at c20a
      rw [c20a, c20b, c20c]
      show mT _ _ _ _ 7 [.ref 27, .int (nI r3), .int place, .int other] [.int (nI 0), .ref 27] _ _ _ _
      refine mt_if_eq dX4_swap_7 (tgt := 23) rfl (fun q21 => ?_) (fun q21 => ?_)
      · have q21 := (mI_eq0 (by omega)).mp q21
        refine mt_iconst dX4_swap_23 (v := nI 0) rfl ?_
        refine mt_iconst dX4_swap_24 (v := nI 1) rfl ?_
        refine mt_callV (N := mX4_isLet) (Rc := rX4_isLet) (As := [.int (nI 0), .int (nI 1)]) (st := []) dX4_swap_25 (kX4_isLet (t := false) (f := true) hl C0) sX4_isLet mw_1092 mKX4 rfl C0 rfl (Nat.le_of_ble_eq_true rfl) ⟨⟨Nat.le_of_ble_eq_true rfl, Nat.le_of_ble_eq_true rfl⟩, (by first | exact Nat.le_of_ble_eq_true rfl | (simp only [rX4_isPlace, rX4_isLet, rX4_change, rX4_did, rX4_swap]; omega)), (by first | exact Nat.le_of_ble_eq_true rfl | (simp only [rX4_isPlace, rX4_isLet, rX4_change, rX4_did, rX4_swap]; omega))⟩ (fun v22 h23 n24 c25 => ?_) (fun _ _ _ hx => hx.elim)
        obtain ⟨c25a, c25b, c25c, c25d⟩ := c25
        rw [c25a, c25b]
        show mT _ _ _ _ 28 [.ref 27, .int (nI r3), .int place, .int other] [.int (nI 0)] _ _ _ _
        refine mt_if_ne dX4_swap_28 (tgt := 33) rfl (fun q26 => ?_) (fun q26 => ?_)
        · have q26 := (not_congr (mI_eq0 (by omega))).mp q26
          exact absurd q26 (by decide)
        · have q26 := (mI_eq0 (by omega)).mp q26
          refine mt_iconst dX4_swap_31 (v := nI 0) rfl ?_
          refine mt_ireturn dX4_swap_32 rfl rfl (by first | exact Nat.le_of_ble_eq_true rfl | (simp only [rX4_isPlace, rX4_isLet, rX4_change, rX4_did, rX4_swap]; omega)) (by first | exact Nat.le_of_ble_eq_true rfl | (simp only [rX4_isPlace, rX4_isLet, rX4_change, rX4_did, rX4_swap]; omega)) ?_
          exact mOk.no (k := 1) (S' := S) (by simp only [mp_swap, dAt_s (k := 4) hr3 (by first | decide | omega), dAt_n (k := (S.1 r3).length) (x := place) hq15, if_pos q21, if_pos q26]) (by decide) rfl (by omega) c25c (by omega) (mRows.fr (n' := n) HR (by omega) (fun j j1 j2 j3 => c25d (j) (by omega)) (by omega)) (fun j hj => c25d j (by omega))
      · have q21 := (not_congr (mI_eq0 (by omega))).mp q21
        exact absurd q21 (by decide)
    · obtain ⟨hp16, rfl⟩ := inN_of hq15 (by first | decide | omega)
      rcases hq27 : inN (S.1 r3).length other with _ | p28
      · refine mt_aload_n dX4_swap_0 rfl rfl ?_
        refine mt_aload_n dX4_swap_1 rfl rfl ?_
        refine mt_iload_n dX4_swap_2 rfl ?_
        refine mt_iload_n dX4_swap_3 rfl ?_
        refine mt_callV (N := mX4_isPlace) (Rc := rX4_isPlace) (As := [.int (nI r3), .int (nI p16)]) (st := [.ref 27]) dX4_swap_4 (kX4_isPlace hl C0 HR (by omega) (by omega)) sX4_isPlace mw_1126 mKX4 rfl C0 rfl (Nat.le_of_ble_eq_true rfl) ⟨⟨Nat.le_of_ble_eq_true rfl, Nat.le_of_ble_eq_true rfl⟩, (by first | exact Nat.le_of_ble_eq_true rfl | (simp only [rX4_isPlace, rX4_isLet, rX4_change, rX4_did, rX4_swap]; omega)), (by first | exact Nat.le_of_ble_eq_true rfl | (simp only [rX4_isPlace, rX4_isLet, rX4_change, rX4_did, rX4_swap]; omega))⟩ (fun v29 h30 n31 c32 => ?_) (fun _ _ _ hx => hx.elim)
        obtain ⟨c32a, c32b, c32c⟩ := c32
        rw [show (inN (S.1 r3).length (nI p16)).isSome = true from by rw [inN_some hp16 (by omega)]; rfl] at c32a
        rw [c32a, c32b, c32c]
        show mT _ _ _ _ 7 [.ref 27, .int (nI r3), .int (nI p16), .int other] [.int (nI 1), .ref 27] _ _ _ _
        refine mt_if_eq dX4_swap_7 (tgt := 23) rfl (fun q33 => ?_) (fun q33 => ?_)
        · have q33 := (mI_eq0 (by omega)).mp q33
          exact absurd q33 (by decide)
        · have q33 := (not_congr (mI_eq0 (by omega))).mp q33
          refine mt_aload_n dX4_swap_10 rfl rfl ?_
          refine mt_iload_n dX4_swap_11 rfl ?_
          refine mt_iload_n dX4_swap_12 rfl ?_
          refine mt_callV (N := mX4_isPlace) (Rc := rX4_isPlace) (As := [.int (nI r3), .int other]) (st := [.ref 27]) dX4_swap_13 (kX4_isPlace hl C0 HR (by omega) (by omega)) sX4_isPlace mw_1126 mKX4 rfl C0 rfl (Nat.le_of_ble_eq_true rfl) ⟨⟨Nat.le_of_ble_eq_true rfl, Nat.le_of_ble_eq_true rfl⟩, (by first | exact Nat.le_of_ble_eq_true rfl | (simp only [rX4_isPlace, rX4_isLet, rX4_change, rX4_did, rX4_swap]; omega)), (by first | exact Nat.le_of_ble_eq_true rfl | (simp only [rX4_isPlace, rX4_isLet, rX4_change, rX4_did, rX4_swap]; omega))⟩ (fun v34 h35 n36 c37 => ?_) (fun _ _ _ hx => hx.elim)
          obtain ⟨c37a, c37b, c37c⟩ := c37
          rw [show (inN (S.1 r3).length other).isSome = false from by rw [hq27]; rfl] at c37a
          rw [c37a, c37b, c37c]
          show mT _ _ _ _ 16 [.ref 27, .int (nI r3), .int (nI p16), .int other] [.int (nI 0), .ref 27] _ _ _ _
          refine mt_if_eq dX4_swap_16 (tgt := 23) rfl (fun q38 => ?_) (fun q38 => ?_)
          · have q38 := (mI_eq0 (by omega)).mp q38
            refine mt_iconst dX4_swap_23 (v := nI 0) rfl ?_
            refine mt_iconst dX4_swap_24 (v := nI 1) rfl ?_
            refine mt_callV (N := mX4_isLet) (Rc := rX4_isLet) (As := [.int (nI 0), .int (nI 1)]) (st := []) dX4_swap_25 (kX4_isLet (t := false) (f := true) hl C0) sX4_isLet mw_1092 mKX4 rfl C0 rfl (Nat.le_of_ble_eq_true rfl) ⟨⟨Nat.le_of_ble_eq_true rfl, Nat.le_of_ble_eq_true rfl⟩, (by first | exact Nat.le_of_ble_eq_true rfl | (simp only [rX4_isPlace, rX4_isLet, rX4_change, rX4_did, rX4_swap]; omega)), (by first | exact Nat.le_of_ble_eq_true rfl | (simp only [rX4_isPlace, rX4_isLet, rX4_change, rX4_did, rX4_swap]; omega))⟩ (fun v39 h40 n41 c42 => ?_) (fun _ _ _ hx => hx.elim)
            obtain ⟨c42a, c42b, c42c, c42d⟩ := c42
            rw [c42a, c42b]
            show mT _ _ _ _ 28 [.ref 27, .int (nI r3), .int (nI p16), .int other] [.int (nI 0)] _ _ _ _
            refine mt_if_ne dX4_swap_28 (tgt := 33) rfl (fun q43 => ?_) (fun q43 => ?_)
            · have q43 := (not_congr (mI_eq0 (by omega))).mp q43
              exact absurd q43 (by decide)
            · have q43 := (mI_eq0 (by omega)).mp q43
              refine mt_iconst dX4_swap_31 (v := nI 0) rfl ?_
              refine mt_ireturn dX4_swap_32 rfl rfl (by first | exact Nat.le_of_ble_eq_true rfl | (simp only [rX4_isPlace, rX4_isLet, rX4_change, rX4_did, rX4_swap]; omega)) (by first | exact Nat.le_of_ble_eq_true rfl | (simp only [rX4_isPlace, rX4_isLet, rX4_change, rX4_did, rX4_swap]; omega)) ?_
              exact mOk.no (k := 1) (S' := S) (by simp only [mp_swap, dAt_s (k := 4) hr3 (by first | decide | omega), dAt_s (k := (S.1 r3).length) hp16 (by first | decide | omega), dAt_n (k := (S.1 r3).length) (x := other) hq27, if_neg q33, if_pos q38, if_pos q43]) (by decide) rfl (by omega) c42c (by omega) (mRows.fr (n' := n) HR (by omega) (fun j j1 j2 j3 => c42d (j) (by omega)) (by omega)) (fun j hj => c42d j (by omega))
          · have q38 := (not_congr (mI_eq0 (by omega))).mp q38
            exact absurd q38 (by decide)
      · obtain ⟨hp28, rfl⟩ := inN_of hq27 (by first | decide | omega)
        refine mt_aload_n dX4_swap_0 rfl rfl ?_
        refine mt_aload_n dX4_swap_1 rfl rfl ?_
        refine mt_iload_n dX4_swap_2 rfl ?_
        refine mt_iload_n dX4_swap_3 rfl ?_
        refine mt_callV (N := mX4_isPlace) (Rc := rX4_isPlace) (As := [.int (nI r3), .int (nI p16)]) (st := [.ref 27]) dX4_swap_4 (kX4_isPlace hl C0 HR (by omega) (by omega)) sX4_isPlace mw_1126 mKX4 rfl C0 rfl (Nat.le_of_ble_eq_true rfl) ⟨⟨Nat.le_of_ble_eq_true rfl, Nat.le_of_ble_eq_true rfl⟩, (by first | exact Nat.le_of_ble_eq_true rfl | (simp only [rX4_isPlace, rX4_isLet, rX4_change, rX4_did, rX4_swap]; omega)), (by first | exact Nat.le_of_ble_eq_true rfl | (simp only [rX4_isPlace, rX4_isLet, rX4_change, rX4_did, rX4_swap]; omega))⟩ (fun v44 h45 n46 c47 => ?_) (fun _ _ _ hx => hx.elim)
        obtain ⟨c47a, c47b, c47c⟩ := c47
        rw [show (inN (S.1 r3).length (nI p16)).isSome = true from by rw [inN_some hp16 (by omega)]; rfl] at c47a
        rw [c47a, c47b, c47c]
        show mT _ _ _ _ 7 [.ref 27, .int (nI r3), .int (nI p16), .int (nI p28)] [.int (nI 1), .ref 27] _ _ _ _
        refine mt_if_eq dX4_swap_7 (tgt := 23) rfl (fun q48 => ?_) (fun q48 => ?_)
        · have q48 := (mI_eq0 (by omega)).mp q48
          exact absurd q48 (by decide)
        · have q48 := (not_congr (mI_eq0 (by omega))).mp q48
          refine mt_aload_n dX4_swap_10 rfl rfl ?_
          refine mt_iload_n dX4_swap_11 rfl ?_
          refine mt_iload_n dX4_swap_12 rfl ?_
          refine mt_callV (N := mX4_isPlace) (Rc := rX4_isPlace) (As := [.int (nI r3), .int (nI p28)]) (st := [.ref 27]) dX4_swap_13 (kX4_isPlace hl C0 HR (by omega) (by omega)) sX4_isPlace mw_1126 mKX4 rfl C0 rfl (Nat.le_of_ble_eq_true rfl) ⟨⟨Nat.le_of_ble_eq_true rfl, Nat.le_of_ble_eq_true rfl⟩, (by first | exact Nat.le_of_ble_eq_true rfl | (simp only [rX4_isPlace, rX4_isLet, rX4_change, rX4_did, rX4_swap]; omega)), (by first | exact Nat.le_of_ble_eq_true rfl | (simp only [rX4_isPlace, rX4_isLet, rX4_change, rX4_did, rX4_swap]; omega))⟩ (fun v49 h50 n51 c52 => ?_) (fun _ _ _ hx => hx.elim)
          obtain ⟨c52a, c52b, c52c⟩ := c52
          rw [show (inN (S.1 r3).length (nI p28)).isSome = true from by rw [inN_some hp28 (by omega)]; rfl] at c52a
          rw [c52a, c52b, c52c]
          show mT _ _ _ _ 16 [.ref 27, .int (nI r3), .int (nI p16), .int (nI p28)] [.int (nI 1), .ref 27] _ _ _ _
          refine mt_if_eq dX4_swap_16 (tgt := 23) rfl (fun q53 => ?_) (fun q53 => ?_)
          · have q53 := (mI_eq0 (by omega)).mp q53
            exact absurd q53 (by decide)
          · have q53 := (not_congr (mI_eq0 (by omega))).mp q53
            refine mt_iconst dX4_swap_19 (v := nI 1) rfl ?_
            refine mt_goto dX4_swap_20 (tgt := 24) rfl ?_
            refine mt_iconst dX4_swap_24 (v := nI 1) rfl ?_
            refine mt_callV (N := mX4_isLet) (Rc := rX4_isLet) (As := [.int (nI 1), .int (nI 1)]) (st := []) dX4_swap_25 (kX4_isLet (t := true) (f := true) hl C0) sX4_isLet mw_1092 mKX4 rfl C0 rfl (Nat.le_of_ble_eq_true rfl) ⟨⟨Nat.le_of_ble_eq_true rfl, Nat.le_of_ble_eq_true rfl⟩, (by first | exact Nat.le_of_ble_eq_true rfl | (simp only [rX4_isPlace, rX4_isLet, rX4_change, rX4_did, rX4_swap]; omega)), (by first | exact Nat.le_of_ble_eq_true rfl | (simp only [rX4_isPlace, rX4_isLet, rX4_change, rX4_did, rX4_swap]; omega))⟩ (fun v54 h55 n56 c57 => ?_) (fun _ _ _ hx => hx.elim)
            obtain ⟨c57a, c57b, c57c, c57d⟩ := c57
            rw [c57a, c57b]
            show mT _ _ _ _ 28 [.ref 27, .int (nI r3), .int (nI p16), .int (nI p28)] [.int (nI 1)] _ _ _ _
            refine mt_if_ne dX4_swap_28 (tgt := 33) rfl (fun q58 => ?_) (fun q58 => ?_)
            · have q58 := (not_congr (mI_eq0 (by omega))).mp q58
              refine mt_aload_n dX4_swap_33 rfl rfl ?_
              refine mt_iload_n dX4_swap_34 rfl ?_
              refine mt_iload_n dX4_swap_35 rfl ?_
              refine mt_iload_n dX4_swap_36 rfl ?_
              refine mt_callV (N := mX4_change) (Rc := rX4_change) (As := [.int (nI r3), .int (nI p16), .int (nI p28)]) (st := []) dX4_swap_37 (kX4_change hl c57c (mRows.fr (n' := n) HR (by omega) (fun j j1 j2 j3 => c57d (j) (by omega)) (by omega)) (by omega) (by omega) (by omega) (by omega)) sX4_change mw_1153 mKX4 rfl c57c rfl (Nat.le_of_ble_eq_true rfl) ⟨⟨Nat.le_of_ble_eq_true rfl, Nat.le_of_ble_eq_true rfl⟩, (by first | exact Nat.le_of_ble_eq_true rfl | (simp only [rX4_isPlace, rX4_isLet, rX4_change, rX4_did, rX4_swap]; omega)), (by first | exact Nat.le_of_ble_eq_true rfl | (simp only [rX4_isPlace, rX4_isLet, rX4_change, rX4_did, rX4_swap]; omega))⟩ (fun v59 h60 n61 c62 => ?_) (fun _ _ _ hx => hx.elim)
              obtain ⟨c62a, c62b, c62c, c62d, c62e⟩ := c62
              rw [c62a, c62b]
              obtain ⟨Sz63, eSz63⟩ : ∃ s9 : cS, s9 = cSet S r3 (swp (S.1 r3) p16 p28) := ⟨_, rfl⟩
              obtain ⟨kxz63, sxz63, HRz63⟩ : ∃ k9 s9, mRows h60 n Sz63 k9 s9 := by rw [eSz63]; exact ⟨_, _, c62c⟩
              have eLz63 : (Sz63.1 r3).length = (S.1 r3).length := by rw [eSz63, cSet_s]; exact swp_len
              obtain ⟨⟨gk_64, G28_64, GK_64⟩, ⟨gs_64, G33_64, GS_64⟩, AK_64, AS_64, NE_64, NQ_64, LE_64⟩ := id HRz63
              obtain ⟨⟨ka_65, kb_65, kc_65, kd_65⟩, kf_65, ke_65, kg_65⟩ := AK_64 r3 (by omega)
              obtain ⟨⟨sa_65, sb_65, sc_65, sd_65⟩, sf_65, se_65, sg_65⟩ := AS_64 r3 (by omega)
              have kn_65 := NE_64 r3 r3 (by omega) (by omega)
              have kl_65 := LE_64 r3 (by omega)
              have km_65 := rroom_le (r := r3)
              show mT _ _ _ _ 40 [.ref 27, .int (nI r3), .int (nI p16), .int (nI p28)] [] _ _ _ _
              refine mt_aload_n dX4_swap_40 rfl rfl ?_
              refine mt_aload_n dX4_swap_41 rfl rfl ?_
              refine mt_getfield mKX4 (i := 0) (by decide) mw_1053 dX4_swap_42 c62d rfl ?_
              refine mt_iload_n dX4_swap_45 rfl ?_
              refine mp_aaload dX4_swap_46 G28_64 (fun _ => rfl) rfl rfl (by omega) (by omega) (v := .ref (kxz63 r3)) (by rw [GK_64 _ (by omega)]; rfl) ?_
              refine mt_iload_n dX4_swap_47 rfl ?_
              refine mp_iaload dX4_swap_48 ke_65 rfl (by omega) (by omega) (v := xk (Sz63.1 r3) p16) (kg_65 _ (by omega)) ?_
              refine mt_aload_n dX4_swap_49 rfl rfl ?_
              refine mt_getfield mKX4 (i := 0) (by decide) mw_1053 dX4_swap_50 c62d rfl ?_
              refine mt_iload_n dX4_swap_53 rfl ?_
              refine mp_aaload dX4_swap_54 G28_64 (fun _ => rfl) rfl rfl (by omega) (by omega) (v := .ref (kxz63 r3)) (by rw [GK_64 _ (by omega)]; rfl) ?_
              refine mt_iload_n dX4_swap_55 rfl ?_
              refine mp_iaload dX4_swap_56 ke_65 rfl (by omega) (by omega) (v := xk (Sz63.1 r3) p28) (kg_65 _ (by omega)) ?_
              refine mt_icmp_ne dX4_swap_57 (tgt := 64) rfl (fun q66 => ?_) (fun q66 => ?_)
              · refine mt_iconst dX4_swap_64 (v := nI 1) rfl ?_
                refine mt_callV (N := mX4_did) (Rc := rX4_did) (As := [.int (nI 1)]) (st := []) dX4_swap_65 (kX4_did hl c62d) sX4_did mw_1105 mKX4 rfl c62d rfl (Nat.le_of_ble_eq_true rfl) ⟨⟨Nat.le_of_ble_eq_true rfl, Nat.le_of_ble_eq_true rfl⟩, (by first | exact Nat.le_of_ble_eq_true rfl | (simp only [rX4_isPlace, rX4_isLet, rX4_change, rX4_did, rX4_swap]; omega)), (by first | exact Nat.le_of_ble_eq_true rfl | (simp only [rX4_isPlace, rX4_isLet, rX4_change, rX4_did, rX4_swap]; omega))⟩ (fun v67 h68 n69 c70 => ?_) (fun _ _ _ hx => hx.elim)
                obtain ⟨c70a, c70b, c70c, c70d⟩ := c70
                rw [c70a, c70b]
                show mT _ _ _ _ 68 [.ref 27, .int (nI r3), .int (nI p16), .int (nI p28)] [.int (nI 1)] _ _ _ _
                refine mt_ireturn dX4_swap_68 rfl rfl (by first | exact Nat.le_of_ble_eq_true rfl | (simp only [rX4_isPlace, rX4_isLet, rX4_change, rX4_did, rX4_swap]; omega)) (by first | exact Nat.le_of_ble_eq_true rfl | (simp only [rX4_isPlace, rX4_isLet, rX4_change, rX4_did, rX4_swap]; omega)) ?_
                exact mOk.of (x := .int (nI 1)) (S' := ((Sz63).1, S.2.1, S.2.2.1 + nI 1, S.2.2.2.1, S.2.2.2.2)) (by have w0 := q66; rw [eSz63, cSet_s] at w0; rw [eSz63]; simp only [mp_swap, dAt_s (k := 4) hr3 (by first | decide | omega), dAt_s (k := (S.1 r3).length) hp16 (by first | decide | omega), dAt_s (k := (S.1 r3).length) hp28 (by first | decide | omega), if_neg q48, if_neg q53, if_neg q58, if_neg w0, cSet_s] <;> first | rfl | simp_all) rfl (by omega) c70c (by omega) (mRows.fr (n' := n) HRz63 (by omega) (fun j j1 j2 j3 => c70d (j) (by omega)) (by omega)) (fun j hj => (c70d j (by omega)).trans ((c62e j (by omega)).trans (c57d j (by omega))))
              · refine mt_iconst dX4_swap_60 (v := nI 0) rfl ?_
                refine mt_goto dX4_swap_61 (tgt := 65) rfl ?_
                refine mt_callV (N := mX4_did) (Rc := rX4_did) (As := [.int (nI 0)]) (st := []) dX4_swap_65 (kX4_did hl c62d) sX4_did mw_1105 mKX4 rfl c62d rfl (Nat.le_of_ble_eq_true rfl) ⟨⟨Nat.le_of_ble_eq_true rfl, Nat.le_of_ble_eq_true rfl⟩, (by first | exact Nat.le_of_ble_eq_true rfl | (simp only [rX4_isPlace, rX4_isLet, rX4_change, rX4_did, rX4_swap]; omega)), (by first | exact Nat.le_of_ble_eq_true rfl | (simp only [rX4_isPlace, rX4_isLet, rX4_change, rX4_did, rX4_swap]; omega))⟩ (fun v71 h72 n73 c74 => ?_) (fun _ _ _ hx => hx.elim)
                obtain ⟨c74a, c74b, c74c, c74d⟩ := c74
                rw [c74a, c74b]
                show mT _ _ _ _ 68 [.ref 27, .int (nI r3), .int (nI p16), .int (nI p28)] [.int (nI 0)] _ _ _ _
                refine mt_ireturn dX4_swap_68 rfl rfl (by first | exact Nat.le_of_ble_eq_true rfl | (simp only [rX4_isPlace, rX4_isLet, rX4_change, rX4_did, rX4_swap]; omega)) (by first | exact Nat.le_of_ble_eq_true rfl | (simp only [rX4_isPlace, rX4_isLet, rX4_change, rX4_did, rX4_swap]; omega)) ?_
                exact mOk.of (x := .int (nI 0)) (S' := ((Sz63).1, S.2.1, S.2.2.1 + nI 1, S.2.2.2.1, S.2.2.2.2)) (by have w0 := q66; rw [eSz63, cSet_s] at w0; rw [eSz63]; simp only [mp_swap, dAt_s (k := 4) hr3 (by first | decide | omega), dAt_s (k := (S.1 r3).length) hp16 (by first | decide | omega), dAt_s (k := (S.1 r3).length) hp28 (by first | decide | omega), if_neg q48, if_neg q53, if_neg q58, if_pos w0, cSet_s] <;> first | rfl | simp_all) rfl (by omega) c74c (by omega) (mRows.fr (n' := n) HRz63 (by omega) (fun j j1 j2 j3 => c74d (j) (by omega)) (by omega)) (fun j hj => (c74d j (by omega)).trans ((c62e j (by omega)).trans (c57d j (by omega))))
            · have q58 := (mI_eq0 (by omega)).mp q58
              exact absurd q58 (by decide)
abbrev rX4_ordered : Room := { frames := 1, cells := 2, slots := 640, locals := 25 }
set_option maxRecDepth 100000 in
set_option maxHeartbeats 2000000 in
theorem kX4_ordered {l : Launch} (hl : l.stackTraces = false) {h : mH} {n : Nat} {S : cS} {kx sx : Nat → Nat} {g ac rf kn th : Int32} {r : Nat} {p : Nat} {pf : Nat → Int32} {pl : Nat → Nat} (C0 : h 27 = .inr (.inr (6, [.ref 28, .ref 33, .int g, .int ac, .int rf, .int kn, .int th]))) (HR : mRows h n S kx sx) (h39 : 39 ≤ n) (hr : r < 4) (ep : h p = .inl (0, (S.1 r).length, pf)) (hpl : ∀ i, i < (S.1 r).length → pf i = nI (pl i) ∧ pl i < (S.1 r).length) (hpn : p < n) : mC l mX4_ordered rX4_ordered [.ref 27, .int (nI r), .ref p] h n (fun v h' n' => v = some (.int (mlp (unlF (xk (S.1 r)) (xk (chF (S.1 r) pl (S.1 r).length))) ((S.1 r).length - 0) 0 (nI 0))) ∧ n' = n + 2 ∧ (∃ k9 s9, mRows h' n' (cSet S r (chF (S.1 r) pl (S.1 r).length)) k9 s9) ∧ h' 27 = .inr (.inr (6, [.ref 28, .ref 33, .int g, .int (ac + nI 1), .int rf, .int kn, .int th])) ∧ ∀ j, (j < n ∧ j ≠ 27 ∧ j ≠ 28 ∧ j ≠ 33) → h' j = h j) (mNX) := by
  obtain ⟨⟨gk_1, G28_1, GK_1⟩, ⟨gs_1, G33_1, GS_1⟩, AK_1, AS_1, NE_1, NQ_1, LE_1⟩ := id HR
  obtain ⟨⟨ka_2, kb_2, kc_2, kd_2⟩, kf_2, ke_2, kg_2⟩ := AK_1 r hr
  obtain ⟨⟨sa_2, sb_2, sc_2, sd_2⟩, sf_2, se_2, sg_2⟩ := AS_1 r hr
  have kn_2 := NE_1 r r hr hr
  have kl_2 := LE_1 r hr
  have km_2 := rroom_le (r := r)
  refine mm_enter hl (by decide +kernel) rfl rfl rfl (Nat.le_of_ble_eq_true rfl) ?_
  show mT _ _ _ _ 0 [.ref 27, .int (nI r), .ref p, .double 0] [] _ _ 0 0
  refine mt_aload_n dX4_ordered_0 rfl rfl ?_
  refine mt_getfield mKX4 (i := 0) (by decide) mw_1053 dX4_ordered_1 C0 rfl ?_
  refine mt_iload_n dX4_ordered_4 rfl ?_
  refine mp_aaload dX4_ordered_5 G28_1 (fun _ => rfl) rfl rfl (by omega) (by omega) (v := .ref (kx r)) (by rw [GK_1 _ (by omega)]; rfl) ?_
  refine mp_astore_n dX4_ordered_6 (ls' := [.ref 27, .int (nI r), .ref p, .ref (kx r)]) rfl rfl (by decide) rfl ?_
  refine mt_aload_n dX4_ordered_7 rfl rfl ?_
  refine mt_iload_n dX4_ordered_8 rfl ?_
  refine mt_aload_n dX4_ordered_9 rfl rfl ?_
  refine mt_callV (N := mX4_choose) (Rc := rX4_choose) (As := [.int (nI r), .ref p]) (st := []) dX4_ordered_10 (kX4_choose (pl := pl) hl C0 HR (by omega) (by omega) ep hpl (by omega) (by omega)) sX4_choose mw_1134 mKX4 rfl C0 rfl (Nat.le_of_ble_eq_true rfl) ⟨⟨Nat.le_of_ble_eq_true rfl, Nat.le_of_ble_eq_true rfl⟩, (by first | exact Nat.le_of_ble_eq_true rfl | (simp only [rX4_choose, rX4_unlike, rX4_did, rX4_ordered]; omega)), (by first | exact Nat.le_of_ble_eq_true rfl | (simp only [rX4_choose, rX4_unlike, rX4_did, rX4_ordered]; omega))⟩ (fun v3 h4 n5 c6 => ?_) (fun _ _ _ hx => hx.elim)
  obtain ⟨c6a, c6b, c6c, c6d, c6e⟩ := c6
  rw [c6a, c6b]
  have c6k : ∀ j, j < n ∧ j ≠ 28 ∧ j ≠ 33 → h4 j = h j := fun j hj => c6e j hj.1 hj.2.1 hj.2.2
  obtain ⟨Sz7, eSz7⟩ : ∃ s9 : cS, s9 = cSet S r (chF (S.1 r) pl ((S.1 r).length)) := ⟨_, rfl⟩
  obtain ⟨kxz7, sxz7, HRz7⟩ : ∃ k9 s9, mRows h4 (n + 2) Sz7 k9 s9 := by rw [eSz7]; exact ⟨_, _, c6c⟩
  have eLz7 : (Sz7.1 r).length = (S.1 r).length := by rw [eSz7, cSet_s]; exact chF_l
  obtain ⟨⟨gk_8, G28_8, GK_8⟩, ⟨gs_8, G33_8, GS_8⟩, AK_8, AS_8, NE_8, NQ_8, LE_8⟩ := id HRz7
  obtain ⟨⟨ka_9, kb_9, kc_9, kd_9⟩, kf_9, ke_9, kg_9⟩ := AK_8 r (by omega)
  obtain ⟨⟨sa_9, sb_9, sc_9, sd_9⟩, sf_9, se_9, sg_9⟩ := AS_8 r (by omega)
  have kn_9 := NE_8 r r (by omega) (by omega)
  have kl_9 := LE_8 r (by omega)
  have km_9 := rroom_le (r := r)
  show mT _ _ _ _ 13 [.ref 27, .int (nI r), .ref p, .ref (kx r)] [] _ _ _ _
  refine mt_aload_n dX4_ordered_13 rfl rfl ?_
  refine mt_aload_n dX4_ordered_14 rfl rfl ?_
  refine mt_aload_n dX4_ordered_15 rfl rfl ?_
  refine mt_getfield mKX4 (i := 0) (by decide) mw_1053 dX4_ordered_16 c6d rfl ?_
  refine mt_iload_n dX4_ordered_19 rfl ?_
  refine mp_aaload dX4_ordered_20 G28_8 (fun _ => rfl) rfl rfl (by omega) (by omega) (v := .ref (kxz7 r)) (by rw [GK_8 _ (by omega)]; rfl) ?_
  refine mt_callS (N := mX4_unlike) (Rc := rX4_unlike) (As := [.ref (kx r), .ref (kxz7 r)]) (st := [.ref 27]) dX4_ordered_21 (kX4_unlike hl ((c6k (kx r) (by omega)).trans ke_2) ke_9 (by omega) (by omega)) sX4_unlike mw_1169 rfl (Nat.le_of_ble_eq_true rfl) ⟨⟨Nat.le_of_ble_eq_true rfl, Nat.le_of_ble_eq_true rfl⟩, (by first | exact Nat.le_of_ble_eq_true rfl | (simp only [rX4_choose, rX4_unlike, rX4_did, rX4_ordered]; omega)), (by first | exact Nat.le_of_ble_eq_true rfl | (simp only [rX4_choose, rX4_unlike, rX4_did, rX4_ordered]; omega))⟩ (fun v10 h11 n12 c13 => ?_) (fun _ _ _ hx => hx.elim)
  obtain ⟨c13a, c13b, c13c⟩ := c13
  have c13u : mlp (unlF kf_2 kf_9) ((S.1 r).length - 0) 0 (nI 0) = mlp (unlF (xk (S.1 r)) (xk (Sz7.1 r))) ((S.1 r).length - 0) 0 (nI 0) := mlp_congr (fun j b j1 j2 => by unfold unlF; rw [kg_2 j (by omega), kg_9 j (by omega)])
  rw [c13u] at c13a
  rw [c13a, c13b, c13c]
  show mT _ _ _ _ 24 [.ref 27, .int (nI r), .ref p, .ref (kx r)] [.int (mlp (unlF (xk (S.1 r)) (xk (Sz7.1 r))) ((S.1 r).length - 0) 0 (nI 0)), .ref 27] _ _ _ _
  refine mt_callV (N := mX4_did) (Rc := rX4_did) (As := [.int (mlp (unlF (xk (S.1 r)) (xk (Sz7.1 r))) ((S.1 r).length - 0) 0 (nI 0))]) (st := []) dX4_ordered_24 (kX4_did hl c6d) sX4_did mw_1105 mKX4 rfl c6d rfl (Nat.le_of_ble_eq_true rfl) ⟨⟨Nat.le_of_ble_eq_true rfl, Nat.le_of_ble_eq_true rfl⟩, (by first | exact Nat.le_of_ble_eq_true rfl | (simp only [rX4_choose, rX4_unlike, rX4_did, rX4_ordered]; omega)), (by first | exact Nat.le_of_ble_eq_true rfl | (simp only [rX4_choose, rX4_unlike, rX4_did, rX4_ordered]; omega))⟩ (fun v14 h15 n16 c17 => ?_) (fun _ _ _ hx => hx.elim)
  obtain ⟨c17a, c17b, c17c, c17d⟩ := c17
  rw [c17a, c17b]
  show mT _ _ _ _ 27 [.ref 27, .int (nI r), .ref p, .ref (kx r)] [.int (mlp (unlF (xk (S.1 r)) (xk (Sz7.1 r))) ((S.1 r).length - 0) 0 (nI 0))] _ _ _ _
  refine mt_ireturn dX4_ordered_27 rfl rfl (by first | exact Nat.le_of_ble_eq_true rfl | (simp only [rX4_choose, rX4_unlike, rX4_did, rX4_ordered]; omega)) (by first | exact Nat.le_of_ble_eq_true rfl | (simp only [rX4_choose, rX4_unlike, rX4_did, rX4_ordered]; omega)) ?_
  exact ⟨by rw [eSz7, cSet_s], by omega, ⟨_, _, by rw [← eSz7]; exact mRows.fr (n' := n + 2) HRz7 (by omega) (fun j j1 j2 j3 => c17d (j) (by omega)) (by omega)⟩, c17c, fun j hj => (c17d j (by omega)).trans (c6k j (by omega))⟩
set_option maxRecDepth 100000 in
set_option maxHeartbeats 2000000 in
theorem tX4_turn_26 {l : Launch} {R : Room} {K : mK} {cc sc : Nat} {n len : Nat} {h0 : mH} {r : Nat} (hL : len ≤ 320) (kk0 : ∀ (k : Nat) (h : mH) (g9 : Nat → Int32), (h n = .inl (0, len, g9)) → (∀ i, i < len → g9 i = nI (tnF len i)) → (∀ j, j ≠ n → h j = h0 j) → mT l mX4_turn R K 47 [.ref 27, .int (nI r), .ref n, .int (nI k)] [] h (n + 1) cc sc) : ∀ (N0 : Nat) (k : Nat) (h : mH) (g9 : Nat → Int32), (len - k) < N0 → (h n = .inl (0, len, g9)) → (∀ i, i < k → g9 i = nI (tnF len i)) → (∀ j, j ≠ n → h j = h0 j) → (k ≤ len) → mT l mX4_turn R K 26 [.ref 27, .int (nI r), .ref n, .int (nI k)] [] h (n + 1) cc sc := by
  intro N0
  induction N0 with
  | zero => intro k h g9 hm; exact absurd hm (Nat.not_lt_zero _)
  | succ N0 ih =>
    intro k h g9 hm eN hg hfr hk
    refine mt_iload_n dX4_turn_26 rfl ?_
    refine mt_aload_n dX4_turn_27 rfl rfl ?_
    refine mt_alen dX4_turn_28 eN (by decide) ?_
    refine mt_icmp_ge dX4_turn_29 (tgt := 47) rfl (fun q1 => ?_) (fun q1 => ?_)
    · have q1 := Int32.not_lt.mpr q1
      have q1 := (not_congr (nI_ltI (by omega) (by omega))).mp q1
      exact kk0 k h g9 eN (fun i hi => hg i (by omega)) hfr
    · have q1 := Int32.not_le.mp q1
      have q1 := (nI_ltI (by omega) (by omega)).mp q1
      refine mt_aload_n dX4_turn_32 rfl rfl ?_
      refine mt_iload_n dX4_turn_33 rfl ?_
      refine mt_aload_n dX4_turn_34 rfl rfl ?_
      refine mt_alen dX4_turn_35 eN (by decide) ?_
      refine mt_iconst dX4_turn_36 (v := nI 1) rfl ?_
      refine mp_isub dX4_turn_37 (v := nI (len - 1)) (pk_sub (by omega)) ?_
      refine mt_iload_n dX4_turn_38 rfl ?_
      refine mp_isub dX4_turn_39 (v := nI ((len - 1) - k)) (pk_sub (by omega)) ?_
      refine mp_iastore dX4_turn_40 eN rfl (by omega) (by omega) (fun h2 e3 f4 => ?_)
      refine mp_iinc dX4_turn_41 rfl (v := nI (k + 1)) mI_inc (ls' := [.ref 27, .int (nI r), .ref n, .int (nI (k + 1))]) rfl (by decide) rfl ?_
      refine mt_goto dX4_turn_44 (tgt := 26) rfl ?_
      exact ih (k + 1) h2 (upd g9 k (nI ((len - 1) - k))) (by omega) e3 (arr_step (F := fun i => nI (tnF len i)) hg (rfl)) (fun j hj => (f4 j (by omega)).trans (hfr j hj)) (by omega)
abbrev rX4_turn : Room := { frames := 2, cells := 3, slots := 960, locals := 48 }
def mp_turn (S : cS) (row : Int32) : Nat × Value × cS := dAt S 4 row fun r => (0, .int (mlp (unlF (xk (S.1 r)) (xk (chF (S.1 r) (tnF (S.1 r).length) (S.1 r).length))) ((S.1 r).length - 0) 0 (nI 0)), cAct (cSet S r (chF (S.1 r) (tnF (S.1 r).length) (S.1 r).length)))
set_option maxRecDepth 100000 in
set_option maxHeartbeats 2000000 in
theorem kX4_turn {l : Launch} (hl : l.stackTraces = false) {h : mH} {n : Nat} {S : cS} {th : Int32} {row : Int32} (C : mAt h n S th) : mC l mX4_turn rX4_turn [.ref 27, .int row] h n (mOk (mp_turn S row) (.int (nI 0)) h n) (mNX) := by
  obtain ⟨C0, h39, kx, sx, HR⟩ := id C
  obtain ⟨⟨gk_1, G28_1, GK_1⟩, ⟨gs_1, G33_1, GS_1⟩, AK_1, AS_1, NE_1, NQ_1, LE_1⟩ := id HR
  refine mm_enter hl (by decide +kernel) rfl rfl rfl (Nat.le_of_ble_eq_true rfl) ?_
  show mT _ _ _ _ 0 [.ref 27, .int row, .double 0, .double 0] [] _ _ 0 0
  rcases hq2 : inN 4 row with _ | r3
  · refine mt_aload_n dX4_turn_0 rfl rfl ?_
    refine mt_iload_n dX4_turn_1 rfl ?_
    refine mt_callS (N := mX4_isRow) (Rc := rX4_isRow) (As := [.int row]) (st := [.ref 27]) dX4_turn_2 (kX4_isRow hl) sX4_isRow mw_1083 rfl (Nat.le_of_ble_eq_true rfl) ⟨⟨Nat.le_of_ble_eq_true rfl, Nat.le_of_ble_eq_true rfl⟩, (by first | exact Nat.le_of_ble_eq_true rfl | (simp only [rX4_isRow, rX4_isLet, rX4_ordered, rX4_turn]; omega)), (by first | exact Nat.le_of_ble_eq_true rfl | (simp only [rX4_isRow, rX4_isLet, rX4_ordered, rX4_turn]; omega))⟩ (fun v4 h5 n6 c7 => ?_) (fun _ _ _ hx => hx.elim)
    obtain ⟨c7a, c7b, c7c⟩ := c7
    rw [show (inN 4 row).isSome = false from by rw [hq2]; rfl] at c7a
    rw [c7a, c7b, c7c]
    show mT _ _ _ _ 5 [.ref 27, .int row, .double 0, .double 0] [.int (nI 0), .ref 27] _ _ _ _
    refine mt_iconst dX4_turn_5 (v := nI 1) rfl ?_
    refine mt_callV (N := mX4_isLet) (Rc := rX4_isLet) (As := [.int (nI 0), .int (nI 1)]) (st := []) dX4_turn_6 (kX4_isLet (t := false) (f := true) hl C0) sX4_isLet mw_1092 mKX4 rfl C0 rfl (Nat.le_of_ble_eq_true rfl) ⟨⟨Nat.le_of_ble_eq_true rfl, Nat.le_of_ble_eq_true rfl⟩, (by first | exact Nat.le_of_ble_eq_true rfl | (simp only [rX4_isRow, rX4_isLet, rX4_ordered, rX4_turn]; omega)), (by first | exact Nat.le_of_ble_eq_true rfl | (simp only [rX4_isRow, rX4_isLet, rX4_ordered, rX4_turn]; omega))⟩ (fun v8 h9 n10 c11 => ?_) (fun _ _ _ hx => hx.elim)
    obtain ⟨c11a, c11b, c11c, c11d⟩ := c11
    rw [c11a, c11b]
    show mT _ _ _ _ 9 [.ref 27, .int row, .double 0, .double 0] [.int (nI 0)] _ _ _ _
    refine mt_if_ne dX4_turn_9 (tgt := 14) rfl (fun q12 => ?_) (fun q12 => ?_)
    · have q12 := (not_congr (mI_eq0 (by omega))).mp q12
      exact absurd q12 (by decide)
    · have q12 := (mI_eq0 (by omega)).mp q12
      refine mt_iconst dX4_turn_12 (v := nI 0) rfl ?_
      refine mt_ireturn dX4_turn_13 rfl rfl (by first | exact Nat.le_of_ble_eq_true rfl | (simp only [rX4_isRow, rX4_isLet, rX4_ordered, rX4_turn]; omega)) (by first | exact Nat.le_of_ble_eq_true rfl | (simp only [rX4_isRow, rX4_isLet, rX4_ordered, rX4_turn]; omega)) ?_
      exact mOk.no (k := 1) (S' := S) (by simp only [mp_turn, dAt_n (k := 4) (x := row) hq2, if_pos q12]) (by decide) rfl (by omega) c11c (by omega) (mRows.fr (n' := n) HR (by omega) (fun j j1 j2 j3 => c11d (j) (by omega)) (by omega)) (fun j hj => c11d j (by omega))
  · obtain ⟨hr3, rfl⟩ := inN_of hq2 (by first | decide | omega)
    obtain ⟨⟨ka_13, kb_13, kc_13, kd_13⟩, kf_13, ke_13, kg_13⟩ := AK_1 r3 hr3
    obtain ⟨⟨sa_13, sb_13, sc_13, sd_13⟩, sf_13, se_13, sg_13⟩ := AS_1 r3 hr3
    have kn_13 := NE_1 r3 r3 hr3 hr3
    have kl_13 := LE_1 r3 hr3
    have km_13 := rroom_le (r := r3)
    refine mt_aload_n dX4_turn_0 rfl rfl ?_
    refine mt_iload_n dX4_turn_1 rfl ?_
    refine mt_callS (N := mX4_isRow) (Rc := rX4_isRow) (As := [.int (nI r3)]) (st := [.ref 27]) dX4_turn_2 (kX4_isRow hl) sX4_isRow mw_1083 rfl (Nat.le_of_ble_eq_true rfl) ⟨⟨Nat.le_of_ble_eq_true rfl, Nat.le_of_ble_eq_true rfl⟩, (by first | exact Nat.le_of_ble_eq_true rfl | (simp only [rX4_isRow, rX4_isLet, rX4_ordered, rX4_turn]; omega)), (by first | exact Nat.le_of_ble_eq_true rfl | (simp only [rX4_isRow, rX4_isLet, rX4_ordered, rX4_turn]; omega))⟩ (fun v14 h15 n16 c17 => ?_) (fun _ _ _ hx => hx.elim)
    obtain ⟨c17a, c17b, c17c⟩ := c17
    rw [show (inN 4 (nI r3)).isSome = true from by rw [inN_some hr3 (by decide)]; rfl] at c17a
    rw [c17a, c17b, c17c]
    show mT _ _ _ _ 5 [.ref 27, .int (nI r3), .double 0, .double 0] [.int (nI 1), .ref 27] _ _ _ _
    refine mt_iconst dX4_turn_5 (v := nI 1) rfl ?_
    refine mt_callV (N := mX4_isLet) (Rc := rX4_isLet) (As := [.int (nI 1), .int (nI 1)]) (st := []) dX4_turn_6 (kX4_isLet (t := true) (f := true) hl C0) sX4_isLet mw_1092 mKX4 rfl C0 rfl (Nat.le_of_ble_eq_true rfl) ⟨⟨Nat.le_of_ble_eq_true rfl, Nat.le_of_ble_eq_true rfl⟩, (by first | exact Nat.le_of_ble_eq_true rfl | (simp only [rX4_isRow, rX4_isLet, rX4_ordered, rX4_turn]; omega)), (by first | exact Nat.le_of_ble_eq_true rfl | (simp only [rX4_isRow, rX4_isLet, rX4_ordered, rX4_turn]; omega))⟩ (fun v18 h19 n20 c21 => ?_) (fun _ _ _ hx => hx.elim)
    obtain ⟨c21a, c21b, c21c, c21d⟩ := c21
    rw [c21a, c21b]
    show mT _ _ _ _ 9 [.ref 27, .int (nI r3), .double 0, .double 0] [.int (nI 1)] _ _ _ _
    refine mt_if_ne dX4_turn_9 (tgt := 14) rfl (fun q22 => ?_) (fun q22 => ?_)
    · have q22 := (not_congr (mI_eq0 (by omega))).mp q22
      refine mt_aload_n dX4_turn_14 rfl rfl ?_
      refine mt_getfield mKX4 (i := 0) (by decide) mw_1053 dX4_turn_15 c21c rfl ?_
      refine mt_iload_n dX4_turn_18 rfl ?_
      refine mp_aaload dX4_turn_19 ((c21d (28) (by omega)).trans G28_1) (fun _ => rfl) rfl rfl (by omega) (by omega) (v := .ref (kx r3)) (by rw [GK_1 _ (by omega)]; rfl) ?_
      refine mt_alen dX4_turn_20 ((c21d (kx r3) (by omega)).trans ke_13) (by decide) ?_
      refine mp_newarray dX4_turn_21 mw_87 rfl (by omega) (by simp only [rX4_turn]; omega) (by simp only [rX4_turn]; omega) (fun h23 e24 f25 => ?_)
      refine mp_astore_n dX4_turn_23 (ls' := [.ref 27, .int (nI r3), .ref n, .double 0]) rfl rfl (by decide) rfl ?_
      refine mt_iconst dX4_turn_24 (v := nI 0) rfl ?_
      refine mp_istore_n dX4_turn_25 (ls' := [.ref 27, .int (nI r3), .ref n, .int (nI 0)]) rfl (by decide) rfl ?_
      refine tX4_turn_26 (by omega) (fun k_26 h_27 g9_28 z29 z30 z31 => ?_) _ 0 h23 (fun _ => (0 : Int32)) (Nat.lt_succ_self _) e24 (fun i hi => absurd hi (by omega)) (fun _ _ => rfl) (by omega)
      refine mt_aload_n dX4_turn_47 rfl rfl ?_
      refine mt_iload_n dX4_turn_48 rfl ?_
      refine mt_aload_n dX4_turn_49 rfl rfl ?_
      refine mt_callV (N := mX4_ordered) (Rc := rX4_ordered) (As := [.int (nI r3), .ref n]) (st := []) dX4_turn_50 (kX4_ordered (pl := tnF (S.1 r3).length) hl ((z31 (27) (by omega)).trans ((f25 (27) (by omega)).trans c21c)) (mRows.fr (n' := n + 1) HR (by omega) (fun j j1 j2 j3 => (z31 (j) (by omega)).trans ((f25 (j) (by omega)).trans (c21d (j) (by omega)))) (by omega)) (by omega) (by omega) z29 (fun i hi => ⟨z30 i hi, by unfold tnF; omega⟩) (by omega)) sX4_ordered mw_1165 mKX4 rfl ((z31 (27) (by omega)).trans ((f25 (27) (by omega)).trans c21c)) rfl (Nat.le_of_ble_eq_true rfl) ⟨⟨Nat.le_of_ble_eq_true rfl, Nat.le_of_ble_eq_true rfl⟩, (by first | exact Nat.le_of_ble_eq_true rfl | (simp only [rX4_isRow, rX4_isLet, rX4_ordered, rX4_turn]; omega)), (by first | exact Nat.le_of_ble_eq_true rfl | (simp only [rX4_isRow, rX4_isLet, rX4_ordered, rX4_turn]; omega))⟩ (fun v32 h33 n34 c35 => ?_) (fun _ _ _ hx => hx.elim)
      obtain ⟨c35a, c35b, c35c, c35d, c35e⟩ := c35
      rw [c35a]
      subst c35b
      obtain ⟨Sz36, eSz36⟩ : ∃ s9 : cS, s9 = cSet S r3 (chF (S.1 r3) (tnF (S.1 r3).length) (S.1 r3).length) := ⟨_, rfl⟩
      obtain ⟨kxz36, sxz36, HRz36⟩ : ∃ k9 s9, mRows h33 (n + 3) Sz36 k9 s9 := by rw [eSz36]; exact c35c
      have eLz36 : (Sz36.1 r3).length = (S.1 r3).length := by rw [eSz36, cSet_s]; exact chF_l
      obtain ⟨⟨gk_37, G28_37, GK_37⟩, ⟨gs_37, G33_37, GS_37⟩, AK_37, AS_37, NE_37, NQ_37, LE_37⟩ := id HRz36
      obtain ⟨⟨ka_38, kb_38, kc_38, kd_38⟩, kf_38, ke_38, kg_38⟩ := AK_37 r3 (by omega)
      obtain ⟨⟨sa_38, sb_38, sc_38, sd_38⟩, sf_38, se_38, sg_38⟩ := AS_37 r3 (by omega)
      have kn_38 := NE_37 r3 r3 (by omega) (by omega)
      have kl_38 := LE_37 r3 (by omega)
      have km_38 := rroom_le (r := r3)
      show mT _ _ _ _ 53 [.ref 27, .int (nI r3), .ref n, .int (nI k_26)] [.int (mlp (unlF (xk (S.1 r3)) (xk (chF (S.1 r3) (tnF (S.1 r3).length) (S.1 r3).length))) ((S.1 r3).length - 0) 0 (nI 0))] _ _ _ _
      refine mt_ireturn dX4_turn_53 rfl rfl (by first | exact Nat.le_of_ble_eq_true rfl | (simp only [rX4_isRow, rX4_isLet, rX4_ordered, rX4_turn]; omega)) (by first | exact Nat.le_of_ble_eq_true rfl | (simp only [rX4_isRow, rX4_isLet, rX4_ordered, rX4_turn]; omega)) ?_
      exact mOk.of (x := .int (mlp (unlF (xk (S.1 r3)) (xk (chF (S.1 r3) (tnF (S.1 r3).length) (S.1 r3).length))) ((S.1 r3).length - 0) 0 (nI 0))) (S' := ((Sz36).1, S.2.1, S.2.2.1 + nI 1, S.2.2.2.1, S.2.2.2.2)) (by rw [eSz36]; simp only [mp_turn, dAt_s (k := 4) hr3 (by first | decide | omega), if_neg q22, cSet_s] <;> first | rfl | simp_all) rfl (by omega) c35d (by omega) (mRows.fr (n' := n + 3) HRz36 (by omega) (fun j j1 j2 j3 => rfl) (by omega)) (fun j hj => (c35e j (by omega)).trans ((z31 j (by omega)).trans ((f25 j (by omega)).trans (c21d j (by omega)))))
    · have q22 := (mI_eq0 (by omega)).mp q22
      exact absurd q22 (by decide)
set_option maxRecDepth 100000 in
set_option maxHeartbeats 2000000 in
theorem tX4_roll_53 {l : Launch} {R : Room} {K : mK} {cc sc : Nat} {n len : Nat} {h0 : mH} {r b : Nat} (hL : len ≤ 320) (hb : b ≤ len) (kk0 : ∀ (k : Nat) (h : mH) (g9 : Nat → Int32), (h n = .inl (0, len, g9)) → (∀ i, i < len → g9 i = nI (rlF b len i)) → (∀ j, j ≠ n → h j = h0 j) → mT l mX4_roll R K 77 [.ref 27, .int (nI r), .int (nI b), .ref n, .int (nI k)] [] h (n + 1) cc sc) : ∀ (N0 : Nat) (k : Nat) (h : mH) (g9 : Nat → Int32), (len - k) < N0 → (h n = .inl (0, len, g9)) → (∀ i, i < k → g9 i = nI (rlF b len i)) → (∀ j, j ≠ n → h j = h0 j) → (k ≤ len) → mT l mX4_roll R K 53 [.ref 27, .int (nI r), .int (nI b), .ref n, .int (nI k)] [] h (n + 1) cc sc := by
  intro N0
  induction N0 with
  | zero => intro k h g9 hm; exact absurd hm (Nat.not_lt_zero _)
  | succ N0 ih =>
    intro k h g9 hm eN hg hfr hk
    refine mt_iload dX4_roll_53 rfl ?_
    refine mt_aload_n dX4_roll_55 rfl rfl ?_
    refine mt_alen dX4_roll_56 eN (by decide) ?_
    refine mt_icmp_ge dX4_roll_57 (tgt := 77) rfl (fun q1 => ?_) (fun q1 => ?_)
    · have q1 := Int32.not_lt.mpr q1
      have q1 := (not_congr (nI_ltI (by omega) (by omega))).mp q1
      exact kk0 k h g9 eN (fun i hi => hg i (by omega)) hfr
    · have q1 := Int32.not_le.mp q1
      have q1 := (nI_ltI (by omega) (by omega)).mp q1
      refine mt_aload_n dX4_roll_60 rfl rfl ?_
      refine mt_iload dX4_roll_61 rfl ?_
      refine mt_iload dX4_roll_63 rfl ?_
      refine mt_iload_n dX4_roll_65 rfl ?_
      refine mp_iadd dX4_roll_66 (v := nI (k + b)) (nI_add _ _) ?_
      refine mt_aload_n dX4_roll_67 rfl rfl ?_
      refine mt_alen dX4_roll_68 eN (by decide) ?_
      refine mp_irem dX4_roll_69 (mI_ne0 (by omega) (by omega)) (v := nI ((k + b) % len)) (pk_rem (by omega) (by omega) (by omega)) ?_
      refine mp_iastore dX4_roll_70 eN rfl (by omega) (by omega) (fun h2 e3 f4 => ?_)
      refine mp_iinc dX4_roll_71 rfl (v := nI (k + 1)) mI_inc (ls' := [.ref 27, .int (nI r), .int (nI b), .ref n, .int (nI (k + 1))]) rfl (by decide) rfl ?_
      refine mt_goto dX4_roll_74 (tgt := 53) rfl ?_
      exact ih (k + 1) h2 (upd g9 k (nI ((k + b) % len))) (by omega) e3 (arr_step (F := fun i => nI (rlF b len i)) hg (rfl)) (fun j hj => (f4 j (by omega)).trans (hfr j hj)) (by omega)
abbrev rX4_roll : Room := { frames := 2, cells := 3, slots := 960, locals := 48 }
def mp_roll (S : cS) (row : Int32) (by_ : Int32) : Nat × Value × cS := dAt S 4 row fun r => dArg S ((S.1 r).length + 1) by_ fun b => (0, .int (mlp (unlF (xk (S.1 r)) (xk (chF (S.1 r) (rlF b (S.1 r).length) (S.1 r).length))) ((S.1 r).length - 0) 0 (nI 0)), cAct (cSet S r (chF (S.1 r) (rlF b (S.1 r).length) (S.1 r).length)))
set_option maxRecDepth 100000 in
set_option maxHeartbeats 2000000 in
theorem kX4_roll {l : Launch} (hl : l.stackTraces = false) {h : mH} {n : Nat} {S : cS} {th : Int32} {row : Int32} {by_ : Int32} (C : mAt h n S th) : mC l mX4_roll rX4_roll [.ref 27, .int row, .int by_] h n (mOk (mp_roll S row by_) (.int (nI 0)) h n) (mNX) := by
  obtain ⟨C0, h39, kx, sx, HR⟩ := id C
  obtain ⟨⟨gk_1, G28_1, GK_1⟩, ⟨gs_1, G33_1, GS_1⟩, AK_1, AS_1, NE_1, NQ_1, LE_1⟩ := id HR
  refine mm_enter hl (by decide +kernel) rfl rfl rfl (Nat.le_of_ble_eq_true rfl) ?_
  show mT _ _ _ _ 0 [.ref 27, .int row, .int by_, .double 0, .double 0] [] _ _ 0 0
  rcases hq2 : inN 4 row with _ | r3
  · refine mt_aload_n dX4_roll_0 rfl rfl ?_
    refine mt_iload_n dX4_roll_1 rfl ?_
    refine mt_callS (N := mX4_isRow) (Rc := rX4_isRow) (As := [.int row]) (st := [.ref 27]) dX4_roll_2 (kX4_isRow hl) sX4_isRow mw_1083 rfl (Nat.le_of_ble_eq_true rfl) ⟨⟨Nat.le_of_ble_eq_true rfl, Nat.le_of_ble_eq_true rfl⟩, (by first | exact Nat.le_of_ble_eq_true rfl | (simp only [rX4_isRow, rX4_isIn, rX4_isLet, rX4_ordered, rX4_roll]; omega)), (by first | exact Nat.le_of_ble_eq_true rfl | (simp only [rX4_isRow, rX4_isIn, rX4_isLet, rX4_ordered, rX4_roll]; omega))⟩ (fun v4 h5 n6 c7 => ?_) (fun _ _ _ hx => hx.elim)
    obtain ⟨c7a, c7b, c7c⟩ := c7
    rw [show (inN 4 row).isSome = false from by rw [hq2]; rfl] at c7a
    rw [c7a, c7b, c7c]
    show mT _ _ _ _ 5 [.ref 27, .int row, .int by_, .double 0, .double 0] [.int (nI 0), .ref 27] _ _ _ _
    refine mt_iload_n dX4_roll_5 rfl ?_
    refine mt_callS (N := mX4_isRow) (Rc := rX4_isRow) (As := [.int row]) (st := [.int (nI 0), .ref 27]) dX4_roll_6 (kX4_isRow hl) sX4_isRow mw_1083 rfl (Nat.le_of_ble_eq_true rfl) ⟨⟨Nat.le_of_ble_eq_true rfl, Nat.le_of_ble_eq_true rfl⟩, (by first | exact Nat.le_of_ble_eq_true rfl | (simp only [rX4_isRow, rX4_isIn, rX4_isLet, rX4_ordered, rX4_roll]; omega)), (by first | exact Nat.le_of_ble_eq_true rfl | (simp only [rX4_isRow, rX4_isIn, rX4_isLet, rX4_ordered, rX4_roll]; omega))⟩ (fun v8 h9 n10 c11 => ?_) (fun _ _ _ hx => hx.elim)
    obtain ⟨c11a, c11b, c11c⟩ := c11
    rw [show (inN 4 row).isSome = false from by rw [hq2]; rfl] at c11a
    rw [c11a, c11b, c11c]
    show mT _ _ _ _ 9 [.ref 27, .int row, .int by_, .double 0, .double 0] [.int (nI 0), .int (nI 0), .ref 27] _ _ _ _
    refine mt_if_eq dX4_roll_9 (tgt := 31) rfl (fun q12 => ?_) (fun q12 => ?_)
    · have q12 := (mI_eq0 (by omega)).mp q12
      refine mt_iconst dX4_roll_31 (v := nI 0) rfl ?_
      refine mt_callV (N := mX4_isLet) (Rc := rX4_isLet) (As := [.int (nI 0), .int (nI 0)]) (st := []) dX4_roll_32 (kX4_isLet (t := false) (f := false) hl C0) sX4_isLet mw_1092 mKX4 rfl C0 rfl (Nat.le_of_ble_eq_true rfl) ⟨⟨Nat.le_of_ble_eq_true rfl, Nat.le_of_ble_eq_true rfl⟩, (by first | exact Nat.le_of_ble_eq_true rfl | (simp only [rX4_isRow, rX4_isIn, rX4_isLet, rX4_ordered, rX4_roll]; omega)), (by first | exact Nat.le_of_ble_eq_true rfl | (simp only [rX4_isRow, rX4_isIn, rX4_isLet, rX4_ordered, rX4_roll]; omega))⟩ (fun v13 h14 n15 c16 => ?_) (fun _ _ _ hx => hx.elim)
      obtain ⟨c16a, c16b, c16c, c16d⟩ := c16
      rw [c16a, c16b]
      show mT _ _ _ _ 35 [.ref 27, .int row, .int by_, .double 0, .double 0] [.int (nI 0)] _ _ _ _
      refine mt_if_ne dX4_roll_35 (tgt := 40) rfl (fun q17 => ?_) (fun q17 => ?_)
      · have q17 := (not_congr (mI_eq0 (by omega))).mp q17
        exact absurd q17 (by decide)
      · have q17 := (mI_eq0 (by omega)).mp q17
        refine mt_iconst dX4_roll_38 (v := nI 0) rfl ?_
        refine mt_ireturn dX4_roll_39 rfl rfl (by first | exact Nat.le_of_ble_eq_true rfl | (simp only [rX4_isRow, rX4_isIn, rX4_isLet, rX4_ordered, rX4_roll]; omega)) (by first | exact Nat.le_of_ble_eq_true rfl | (simp only [rX4_isRow, rX4_isIn, rX4_isLet, rX4_ordered, rX4_roll]; omega)) ?_
        exact mOk.no (k := 1) (S' := S) (by simp only [mp_roll, dAt_n (k := 4) (x := row) hq2, if_pos q12, if_pos q17]) (by decide) rfl (by omega) c16c (by omega) (mRows.fr (n' := n) HR (by omega) (fun j j1 j2 j3 => c16d (j) (by omega)) (by omega)) (fun j hj => c16d j (by omega))
    · have q12 := (not_congr (mI_eq0 (by omega))).mp q12
      exact absurd q12 (by decide)
  · obtain ⟨hr3, rfl⟩ := inN_of hq2 (by first | decide | omega)
    obtain ⟨⟨ka_18, kb_18, kc_18, kd_18⟩, kf_18, ke_18, kg_18⟩ := AK_1 r3 hr3
    obtain ⟨⟨sa_18, sb_18, sc_18, sd_18⟩, sf_18, se_18, sg_18⟩ := AS_1 r3 hr3
    have kn_18 := NE_1 r3 r3 hr3 hr3
    have kl_18 := LE_1 r3 hr3
    have km_18 := rroom_le (r := r3)
    rcases hq19 : inN ((S.1 r3).length + 1) by_ with _ | p20
    · refine mt_aload_n dX4_roll_0 rfl rfl ?_
      refine mt_iload_n dX4_roll_1 rfl ?_
      refine mt_callS (N := mX4_isRow) (Rc := rX4_isRow) (As := [.int (nI r3)]) (st := [.ref 27]) dX4_roll_2 (kX4_isRow hl) sX4_isRow mw_1083 rfl (Nat.le_of_ble_eq_true rfl) ⟨⟨Nat.le_of_ble_eq_true rfl, Nat.le_of_ble_eq_true rfl⟩, (by first | exact Nat.le_of_ble_eq_true rfl | (simp only [rX4_isRow, rX4_isIn, rX4_isLet, rX4_ordered, rX4_roll]; omega)), (by first | exact Nat.le_of_ble_eq_true rfl | (simp only [rX4_isRow, rX4_isIn, rX4_isLet, rX4_ordered, rX4_roll]; omega))⟩ (fun v21 h22 n23 c24 => ?_) (fun _ _ _ hx => hx.elim)
      obtain ⟨c24a, c24b, c24c⟩ := c24
      rw [show (inN 4 (nI r3)).isSome = true from by rw [inN_some hr3 (by decide)]; rfl] at c24a
      rw [c24a, c24b, c24c]
      show mT _ _ _ _ 5 [.ref 27, .int (nI r3), .int by_, .double 0, .double 0] [.int (nI 1), .ref 27] _ _ _ _
      refine mt_iload_n dX4_roll_5 rfl ?_
      refine mt_callS (N := mX4_isRow) (Rc := rX4_isRow) (As := [.int (nI r3)]) (st := [.int (nI 1), .ref 27]) dX4_roll_6 (kX4_isRow hl) sX4_isRow mw_1083 rfl (Nat.le_of_ble_eq_true rfl) ⟨⟨Nat.le_of_ble_eq_true rfl, Nat.le_of_ble_eq_true rfl⟩, (by first | exact Nat.le_of_ble_eq_true rfl | (simp only [rX4_isRow, rX4_isIn, rX4_isLet, rX4_ordered, rX4_roll]; omega)), (by first | exact Nat.le_of_ble_eq_true rfl | (simp only [rX4_isRow, rX4_isIn, rX4_isLet, rX4_ordered, rX4_roll]; omega))⟩ (fun v25 h26 n27 c28 => ?_) (fun _ _ _ hx => hx.elim)
      obtain ⟨c28a, c28b, c28c⟩ := c28
      rw [show (inN 4 (nI r3)).isSome = true from by rw [inN_some hr3 (by decide)]; rfl] at c28a
      rw [c28a, c28b, c28c]
      show mT _ _ _ _ 9 [.ref 27, .int (nI r3), .int by_, .double 0, .double 0] [.int (nI 1), .int (nI 1), .ref 27] _ _ _ _
      refine mt_if_eq dX4_roll_9 (tgt := 31) rfl (fun q29 => ?_) (fun q29 => ?_)
      · have q29 := (mI_eq0 (by omega)).mp q29
        exact absurd q29 (by decide)
      · have q29 := (not_congr (mI_eq0 (by omega))).mp q29
        refine mt_iload_n dX4_roll_12 rfl ?_
        refine mt_iconst dX4_roll_13 (v := nI 0) rfl ?_
        refine mt_aload_n dX4_roll_14 rfl rfl ?_
        refine mt_getfield mKX4 (i := 0) (by decide) mw_1053 dX4_roll_15 C0 rfl ?_
        refine mt_iload_n dX4_roll_18 rfl ?_
        refine mp_aaload dX4_roll_19 G28_1 (fun _ => rfl) rfl rfl (by omega) (by omega) (v := .ref (kx r3)) (by rw [GK_1 _ (by omega)]; rfl) ?_
        refine mt_alen dX4_roll_20 ke_18 (by decide) ?_
        refine mt_callS (N := mX4_isIn) (Rc := rX4_isIn) (As := [.int by_, .int (nI 0), .int (nI ((S.1 r3).length))]) (st := [.int (nI 1), .ref 27]) dX4_roll_21 (kX4_isIn hl) sX4_isIn mw_1086 rfl (Nat.le_of_ble_eq_true rfl) ⟨⟨Nat.le_of_ble_eq_true rfl, Nat.le_of_ble_eq_true rfl⟩, (by first | exact Nat.le_of_ble_eq_true rfl | (simp only [rX4_isRow, rX4_isIn, rX4_isLet, rX4_ordered, rX4_roll]; omega)), (by first | exact Nat.le_of_ble_eq_true rfl | (simp only [rX4_isRow, rX4_isIn, rX4_isLet, rX4_ordered, rX4_roll]; omega))⟩ (fun v30 h31 n32 c33 => ?_) (fun _ _ _ hx => hx.elim)
        obtain ⟨c33a, c33b, c33c⟩ := c33
        rw [show inR by_ (nI 0) (nI ((S.1 r3).length)) = false from inR_f (k := (S.1 r3).length) hq19 (by first | decide | omega)] at c33a
        rw [c33a, c33b, c33c]
        show mT _ _ _ _ 24 [.ref 27, .int (nI r3), .int by_, .double 0, .double 0] [.int (nI 0), .int (nI 1), .ref 27] _ _ _ _
        refine mt_if_eq dX4_roll_24 (tgt := 31) rfl (fun q34 => ?_) (fun q34 => ?_)
        · have q34 := (mI_eq0 (by omega)).mp q34
          refine mt_iconst dX4_roll_31 (v := nI 0) rfl ?_
          refine mt_callV (N := mX4_isLet) (Rc := rX4_isLet) (As := [.int (nI 1), .int (nI 0)]) (st := []) dX4_roll_32 (kX4_isLet (t := true) (f := false) hl C0) sX4_isLet mw_1092 mKX4 rfl C0 rfl (Nat.le_of_ble_eq_true rfl) ⟨⟨Nat.le_of_ble_eq_true rfl, Nat.le_of_ble_eq_true rfl⟩, (by first | exact Nat.le_of_ble_eq_true rfl | (simp only [rX4_isRow, rX4_isIn, rX4_isLet, rX4_ordered, rX4_roll]; omega)), (by first | exact Nat.le_of_ble_eq_true rfl | (simp only [rX4_isRow, rX4_isIn, rX4_isLet, rX4_ordered, rX4_roll]; omega))⟩ (fun v35 h36 n37 c38 => ?_) (fun _ _ _ hx => hx.elim)
          obtain ⟨c38a, c38b, c38c, c38d⟩ := c38
          rw [c38a, c38b]
          show mT _ _ _ _ 35 [.ref 27, .int (nI r3), .int by_, .double 0, .double 0] [.int (nI 0)] _ _ _ _
          refine mt_if_ne dX4_roll_35 (tgt := 40) rfl (fun q39 => ?_) (fun q39 => ?_)
          · have q39 := (not_congr (mI_eq0 (by omega))).mp q39
            exact absurd q39 (by decide)
          · have q39 := (mI_eq0 (by omega)).mp q39
            refine mt_iconst dX4_roll_38 (v := nI 0) rfl ?_
            refine mt_ireturn dX4_roll_39 rfl rfl (by first | exact Nat.le_of_ble_eq_true rfl | (simp only [rX4_isRow, rX4_isIn, rX4_isLet, rX4_ordered, rX4_roll]; omega)) (by first | exact Nat.le_of_ble_eq_true rfl | (simp only [rX4_isRow, rX4_isIn, rX4_isLet, rX4_ordered, rX4_roll]; omega)) ?_
            exact mOk.no (k := 2) (S' := S) (by simp only [mp_roll, dAt_s (k := 4) hr3 (by first | decide | omega), dArg_n (k := ((S.1 r3).length + 1)) (x := by_) hq19, if_neg q29, if_pos q34, if_pos q39]) (by decide) rfl (by omega) c38c (by omega) (mRows.fr (n' := n) HR (by omega) (fun j j1 j2 j3 => c38d (j) (by omega)) (by omega)) (fun j hj => c38d j (by omega))
        · have q34 := (not_congr (mI_eq0 (by omega))).mp q34
          exact absurd q34 (by decide)
    · obtain ⟨hp20, rfl⟩ := inN_of hq19 (by first | decide | omega)
      refine mt_aload_n dX4_roll_0 rfl rfl ?_
      refine mt_iload_n dX4_roll_1 rfl ?_
      refine mt_callS (N := mX4_isRow) (Rc := rX4_isRow) (As := [.int (nI r3)]) (st := [.ref 27]) dX4_roll_2 (kX4_isRow hl) sX4_isRow mw_1083 rfl (Nat.le_of_ble_eq_true rfl) ⟨⟨Nat.le_of_ble_eq_true rfl, Nat.le_of_ble_eq_true rfl⟩, (by first | exact Nat.le_of_ble_eq_true rfl | (simp only [rX4_isRow, rX4_isIn, rX4_isLet, rX4_ordered, rX4_roll]; omega)), (by first | exact Nat.le_of_ble_eq_true rfl | (simp only [rX4_isRow, rX4_isIn, rX4_isLet, rX4_ordered, rX4_roll]; omega))⟩ (fun v40 h41 n42 c43 => ?_) (fun _ _ _ hx => hx.elim)
      obtain ⟨c43a, c43b, c43c⟩ := c43
      rw [show (inN 4 (nI r3)).isSome = true from by rw [inN_some hr3 (by decide)]; rfl] at c43a
      rw [c43a, c43b, c43c]
      show mT _ _ _ _ 5 [.ref 27, .int (nI r3), .int (nI p20), .double 0, .double 0] [.int (nI 1), .ref 27] _ _ _ _
      refine mt_iload_n dX4_roll_5 rfl ?_
      refine mt_callS (N := mX4_isRow) (Rc := rX4_isRow) (As := [.int (nI r3)]) (st := [.int (nI 1), .ref 27]) dX4_roll_6 (kX4_isRow hl) sX4_isRow mw_1083 rfl (Nat.le_of_ble_eq_true rfl) ⟨⟨Nat.le_of_ble_eq_true rfl, Nat.le_of_ble_eq_true rfl⟩, (by first | exact Nat.le_of_ble_eq_true rfl | (simp only [rX4_isRow, rX4_isIn, rX4_isLet, rX4_ordered, rX4_roll]; omega)), (by first | exact Nat.le_of_ble_eq_true rfl | (simp only [rX4_isRow, rX4_isIn, rX4_isLet, rX4_ordered, rX4_roll]; omega))⟩ (fun v44 h45 n46 c47 => ?_) (fun _ _ _ hx => hx.elim)
      obtain ⟨c47a, c47b, c47c⟩ := c47
      rw [show (inN 4 (nI r3)).isSome = true from by rw [inN_some hr3 (by decide)]; rfl] at c47a
      rw [c47a, c47b, c47c]
      show mT _ _ _ _ 9 [.ref 27, .int (nI r3), .int (nI p20), .double 0, .double 0] [.int (nI 1), .int (nI 1), .ref 27] _ _ _ _
      refine mt_if_eq dX4_roll_9 (tgt := 31) rfl (fun q48 => ?_) (fun q48 => ?_)
      · have q48 := (mI_eq0 (by omega)).mp q48
        exact absurd q48 (by decide)
      · have q48 := (not_congr (mI_eq0 (by omega))).mp q48
        refine mt_iload_n dX4_roll_12 rfl ?_
        refine mt_iconst dX4_roll_13 (v := nI 0) rfl ?_
        refine mt_aload_n dX4_roll_14 rfl rfl ?_
        refine mt_getfield mKX4 (i := 0) (by decide) mw_1053 dX4_roll_15 C0 rfl ?_
        refine mt_iload_n dX4_roll_18 rfl ?_
        refine mp_aaload dX4_roll_19 G28_1 (fun _ => rfl) rfl rfl (by omega) (by omega) (v := .ref (kx r3)) (by rw [GK_1 _ (by omega)]; rfl) ?_
        refine mt_alen dX4_roll_20 ke_18 (by decide) ?_
        refine mt_callS (N := mX4_isIn) (Rc := rX4_isIn) (As := [.int (nI p20), .int (nI 0), .int (nI ((S.1 r3).length))]) (st := [.int (nI 1), .ref 27]) dX4_roll_21 (kX4_isIn hl) sX4_isIn mw_1086 rfl (Nat.le_of_ble_eq_true rfl) ⟨⟨Nat.le_of_ble_eq_true rfl, Nat.le_of_ble_eq_true rfl⟩, (by first | exact Nat.le_of_ble_eq_true rfl | (simp only [rX4_isRow, rX4_isIn, rX4_isLet, rX4_ordered, rX4_roll]; omega)), (by first | exact Nat.le_of_ble_eq_true rfl | (simp only [rX4_isRow, rX4_isIn, rX4_isLet, rX4_ordered, rX4_roll]; omega))⟩ (fun v49 h50 n51 c52 => ?_) (fun _ _ _ hx => hx.elim)
        obtain ⟨c52a, c52b, c52c⟩ := c52
        rw [show inR (nI p20) (nI 0) (nI ((S.1 r3).length)) = true from inR_t (k := (S.1 r3).length) hp20 (by first | decide | omega)] at c52a
        rw [c52a, c52b, c52c]
        show mT _ _ _ _ 24 [.ref 27, .int (nI r3), .int (nI p20), .double 0, .double 0] [.int (nI 1), .int (nI 1), .ref 27] _ _ _ _
        refine mt_if_eq dX4_roll_24 (tgt := 31) rfl (fun q53 => ?_) (fun q53 => ?_)
        · have q53 := (mI_eq0 (by omega)).mp q53
          exact absurd q53 (by decide)
        · have q53 := (not_congr (mI_eq0 (by omega))).mp q53
          refine mt_iconst dX4_roll_27 (v := nI 1) rfl ?_
          refine mt_goto dX4_roll_28 (tgt := 32) rfl ?_
          refine mt_callV (N := mX4_isLet) (Rc := rX4_isLet) (As := [.int (nI 1), .int (nI 1)]) (st := []) dX4_roll_32 (kX4_isLet (t := true) (f := true) hl C0) sX4_isLet mw_1092 mKX4 rfl C0 rfl (Nat.le_of_ble_eq_true rfl) ⟨⟨Nat.le_of_ble_eq_true rfl, Nat.le_of_ble_eq_true rfl⟩, (by first | exact Nat.le_of_ble_eq_true rfl | (simp only [rX4_isRow, rX4_isIn, rX4_isLet, rX4_ordered, rX4_roll]; omega)), (by first | exact Nat.le_of_ble_eq_true rfl | (simp only [rX4_isRow, rX4_isIn, rX4_isLet, rX4_ordered, rX4_roll]; omega))⟩ (fun v54 h55 n56 c57 => ?_) (fun _ _ _ hx => hx.elim)
          obtain ⟨c57a, c57b, c57c, c57d⟩ := c57
          rw [c57a, c57b]
          show mT _ _ _ _ 35 [.ref 27, .int (nI r3), .int (nI p20), .double 0, .double 0] [.int (nI 1)] _ _ _ _
          refine mt_if_ne dX4_roll_35 (tgt := 40) rfl (fun q58 => ?_) (fun q58 => ?_)
          · have q58 := (not_congr (mI_eq0 (by omega))).mp q58
            refine mt_aload_n dX4_roll_40 rfl rfl ?_
            refine mt_getfield mKX4 (i := 0) (by decide) mw_1053 dX4_roll_41 c57c rfl ?_
            refine mt_iload_n dX4_roll_44 rfl ?_
            refine mp_aaload dX4_roll_45 ((c57d (28) (by omega)).trans G28_1) (fun _ => rfl) rfl rfl (by omega) (by omega) (v := .ref (kx r3)) (by rw [GK_1 _ (by omega)]; rfl) ?_
            refine mt_alen dX4_roll_46 ((c57d (kx r3) (by omega)).trans ke_18) (by decide) ?_
            refine mp_newarray dX4_roll_47 mw_87 rfl (by omega) (by simp only [rX4_roll]; omega) (by simp only [rX4_roll]; omega) (fun h59 e60 f61 => ?_)
            refine mp_astore_n dX4_roll_49 (ls' := [.ref 27, .int (nI r3), .int (nI p20), .ref n, .double 0]) rfl rfl (by decide) rfl ?_
            refine mt_iconst dX4_roll_50 (v := nI 0) rfl ?_
            refine mp_istore dX4_roll_51 (ls' := [.ref 27, .int (nI r3), .int (nI p20), .ref n, .int (nI 0)]) rfl (by decide) rfl ?_
            refine tX4_roll_53 (by omega) (by omega) (fun k_62 h_63 g9_64 z65 z66 z67 => ?_) _ 0 h59 (fun _ => (0 : Int32)) (Nat.lt_succ_self _) e60 (fun i hi => absurd hi (by omega)) (fun _ _ => rfl) (by omega)
            refine mt_aload_n dX4_roll_77 rfl rfl ?_
            refine mt_iload_n dX4_roll_78 rfl ?_
            refine mt_aload_n dX4_roll_79 rfl rfl ?_
            refine mt_callV (N := mX4_ordered) (Rc := rX4_ordered) (As := [.int (nI r3), .ref n]) (st := []) dX4_roll_80 (kX4_ordered (pl := rlF p20 (S.1 r3).length) hl ((z67 (27) (by omega)).trans ((f61 (27) (by omega)).trans c57c)) (mRows.fr (n' := n + 1) HR (by omega) (fun j j1 j2 j3 => (z67 (j) (by omega)).trans ((f61 (j) (by omega)).trans (c57d (j) (by omega)))) (by omega)) (by omega) (by omega) z65 (fun i hi => ⟨z66 i hi, Nat.mod_lt _ (by omega)⟩) (by omega)) sX4_ordered mw_1165 mKX4 rfl ((z67 (27) (by omega)).trans ((f61 (27) (by omega)).trans c57c)) rfl (Nat.le_of_ble_eq_true rfl) ⟨⟨Nat.le_of_ble_eq_true rfl, Nat.le_of_ble_eq_true rfl⟩, (by first | exact Nat.le_of_ble_eq_true rfl | (simp only [rX4_isRow, rX4_isIn, rX4_isLet, rX4_ordered, rX4_roll]; omega)), (by first | exact Nat.le_of_ble_eq_true rfl | (simp only [rX4_isRow, rX4_isIn, rX4_isLet, rX4_ordered, rX4_roll]; omega))⟩ (fun v68 h69 n70 c71 => ?_) (fun _ _ _ hx => hx.elim)
            obtain ⟨c71a, c71b, c71c, c71d, c71e⟩ := c71
            rw [c71a]
            subst c71b
            obtain ⟨Sz72, eSz72⟩ : ∃ s9 : cS, s9 = cSet S r3 (chF (S.1 r3) (rlF p20 (S.1 r3).length) (S.1 r3).length) := ⟨_, rfl⟩
            obtain ⟨kxz72, sxz72, HRz72⟩ : ∃ k9 s9, mRows h69 (n + 3) Sz72 k9 s9 := by rw [eSz72]; exact c71c
            have eLz72 : (Sz72.1 r3).length = (S.1 r3).length := by rw [eSz72, cSet_s]; exact chF_l
            obtain ⟨⟨gk_73, G28_73, GK_73⟩, ⟨gs_73, G33_73, GS_73⟩, AK_73, AS_73, NE_73, NQ_73, LE_73⟩ := id HRz72
            obtain ⟨⟨ka_74, kb_74, kc_74, kd_74⟩, kf_74, ke_74, kg_74⟩ := AK_73 r3 (by omega)
            obtain ⟨⟨sa_74, sb_74, sc_74, sd_74⟩, sf_74, se_74, sg_74⟩ := AS_73 r3 (by omega)
            have kn_74 := NE_73 r3 r3 (by omega) (by omega)
            have kl_74 := LE_73 r3 (by omega)
            have km_74 := rroom_le (r := r3)
            show mT _ _ _ _ 83 [.ref 27, .int (nI r3), .int (nI p20), .ref n, .int (nI k_62)] [.int (mlp (unlF (xk (S.1 r3)) (xk (chF (S.1 r3) (rlF p20 (S.1 r3).length) (S.1 r3).length))) ((S.1 r3).length - 0) 0 (nI 0))] _ _ _ _
            refine mt_ireturn dX4_roll_83 rfl rfl (by first | exact Nat.le_of_ble_eq_true rfl | (simp only [rX4_isRow, rX4_isIn, rX4_isLet, rX4_ordered, rX4_roll]; omega)) (by first | exact Nat.le_of_ble_eq_true rfl | (simp only [rX4_isRow, rX4_isIn, rX4_isLet, rX4_ordered, rX4_roll]; omega)) ?_
            exact mOk.of (x := .int (mlp (unlF (xk (S.1 r3)) (xk (chF (S.1 r3) (rlF p20 (S.1 r3).length) (S.1 r3).length))) ((S.1 r3).length - 0) 0 (nI 0))) (S' := ((Sz72).1, S.2.1, S.2.2.1 + nI 1, S.2.2.2.1, S.2.2.2.2)) (by rw [eSz72]; simp only [mp_roll, dAt_s (k := 4) hr3 (by first | decide | omega), dArg_s (k := ((S.1 r3).length + 1)) hp20 (by first | decide | omega), if_neg q48, if_neg q53, if_neg q58, cSet_s] <;> first | rfl | simp_all) rfl (by omega) c71d (by omega) (mRows.fr (n' := n + 3) HRz72 (by omega) (fun j j1 j2 j3 => rfl) (by omega)) (fun j hj => (c71e j (by omega)).trans ((z67 j (by omega)).trans ((f61 j (by omega)).trans (c57d j (by omega)))))
          · have q58 := (mI_eq0 (by omega)).mp q58
            exact absurd q58 (by decide)

/-! ===== the reference: more acts ===== -/
abbrev rX4_keep : Room := { frames := 2, cells := 2, slots := 1280, locals := 42 }
def mp_keep (S : cS) (row : Int32) (from_ : Int32) (to : Int32) : Nat × Value × cS := dAt S 4 row fun r => dKeep S (S.1 r).length from_ to fun p t => (0, .int (nI (t - p)), cAct (cSet S r (zipF (fun i => xk (S.1 r) (p + i)) (fun i => xt (S.1 r) (p + i)) (t - p))))
set_option maxRecDepth 100000 in
set_option maxHeartbeats 2000000 in
theorem kX4_keep {l : Launch} (hl : l.stackTraces = false) {h : mH} {n : Nat} {S : cS} {th : Int32} {row : Int32} {from_ : Int32} {to : Int32} (C : mAt h n S th) : mC l mX4_keep rX4_keep [.ref 27, .int row, .int from_, .int to] h n (mOk (mp_keep S row from_ to) (.int (nI 0)) h n) (mNX) := by
  obtain ⟨C0, h39, kx, sx, HR⟩ := id C
  obtain ⟨⟨gk_1, G28_1, GK_1⟩, ⟨gs_1, G33_1, GS_1⟩, AK_1, AS_1, NE_1, NQ_1, LE_1⟩ := id HR
  refine mm_enter hl (by decide +kernel) rfl rfl rfl (Nat.le_of_ble_eq_true rfl) ?_
  show mT _ _ _ _ 0 [.ref 27, .int row, .int from_, .int to] [] _ _ 0 0
  rcases hq2 : inN 4 row with _ | r3
  · refine mt_aload_n dX4_keep_0 rfl rfl ?_
    refine mt_iload_n dX4_keep_1 rfl ?_
    refine mt_callS (N := mX4_isRow) (Rc := rX4_isRow) (As := [.int row]) (st := [.ref 27]) dX4_keep_2 (kX4_isRow hl) sX4_isRow mw_1083 rfl (Nat.le_of_ble_eq_true rfl) ⟨⟨Nat.le_of_ble_eq_true rfl, Nat.le_of_ble_eq_true rfl⟩, (by first | exact Nat.le_of_ble_eq_true rfl | (simp only [rX4_isRow, rX4_isLet, rX4_part, rX4_did, rX4_keep]; omega)), (by first | exact Nat.le_of_ble_eq_true rfl | (simp only [rX4_isRow, rX4_isLet, rX4_part, rX4_did, rX4_keep]; omega))⟩ (fun v4 h5 n6 c7 => ?_) (fun _ _ _ hx => hx.elim)
    obtain ⟨c7a, c7b, c7c⟩ := c7
    rw [show (inN 4 row).isSome = false from by rw [hq2]; rfl] at c7a
    rw [c7a, c7b, c7c]
    show mT _ _ _ _ 5 [.ref 27, .int row, .int from_, .int to] [.int (nI 0), .ref 27] _ _ _ _
    refine mt_if_eq dX4_keep_5 (tgt := 32) rfl (fun q8 => ?_) (fun q8 => ?_)
    · have q8 := (mI_eq0 (by omega)).mp q8
      refine mt_iconst dX4_keep_32 (v := nI 0) rfl ?_
      refine mt_iconst dX4_keep_33 (v := nI 1) rfl ?_
      refine mt_callV (N := mX4_isLet) (Rc := rX4_isLet) (As := [.int (nI 0), .int (nI 1)]) (st := []) dX4_keep_34 (kX4_isLet (t := false) (f := true) hl C0) sX4_isLet mw_1092 mKX4 rfl C0 rfl (Nat.le_of_ble_eq_true rfl) ⟨⟨Nat.le_of_ble_eq_true rfl, Nat.le_of_ble_eq_true rfl⟩, (by first | exact Nat.le_of_ble_eq_true rfl | (simp only [rX4_isRow, rX4_isLet, rX4_part, rX4_did, rX4_keep]; omega)), (by first | exact Nat.le_of_ble_eq_true rfl | (simp only [rX4_isRow, rX4_isLet, rX4_part, rX4_did, rX4_keep]; omega))⟩ (fun v9 h10 n11 c12 => ?_) (fun _ _ _ hx => hx.elim)
      obtain ⟨c12a, c12b, c12c, c12d⟩ := c12
      rw [c12a, c12b]
      show mT _ _ _ _ 37 [.ref 27, .int row, .int from_, .int to] [.int (nI 0)] _ _ _ _
      refine mt_if_ne dX4_keep_37 (tgt := 42) rfl (fun q13 => ?_) (fun q13 => ?_)
      · have q13 := (not_congr (mI_eq0 (by omega))).mp q13
        exact absurd q13 (by decide)
      · have q13 := (mI_eq0 (by omega)).mp q13
        refine mt_iconst dX4_keep_40 (v := nI 0) rfl ?_
        refine mt_ireturn dX4_keep_41 rfl rfl (by first | exact Nat.le_of_ble_eq_true rfl | (simp only [rX4_isRow, rX4_isLet, rX4_part, rX4_did, rX4_keep]; omega)) (by first | exact Nat.le_of_ble_eq_true rfl | (simp only [rX4_isRow, rX4_isLet, rX4_part, rX4_did, rX4_keep]; omega)) ?_
        exact mOk.no (k := 1) (S' := S) (by simp only [mp_keep, dAt_n (k := 4) (x := row) hq2, if_pos q8, if_pos q13]) (by decide) rfl (by omega) c12c (by omega) (mRows.fr (n' := n) HR (by omega) (fun j j1 j2 j3 => c12d (j) (by omega)) (by omega)) (fun j hj => c12d j (by omega))
    · have q8 := (not_congr (mI_eq0 (by omega))).mp q8
      exact absurd q8 (by decide)
  · obtain ⟨hr3, rfl⟩ := inN_of hq2 (by first | decide | omega)
    obtain ⟨⟨ka_14, kb_14, kc_14, kd_14⟩, kf_14, ke_14, kg_14⟩ := AK_1 r3 hr3
    obtain ⟨⟨sa_14, sb_14, sc_14, sd_14⟩, sf_14, se_14, sg_14⟩ := AS_1 r3 hr3
    have kn_14 := NE_1 r3 r3 hr3 hr3
    have kl_14 := LE_1 r3 hr3
    have km_14 := rroom_le (r := r3)
    refine mt_aload_n dX4_keep_0 rfl rfl ?_
    refine mt_iload_n dX4_keep_1 rfl ?_
    refine mt_callS (N := mX4_isRow) (Rc := rX4_isRow) (As := [.int (nI r3)]) (st := [.ref 27]) dX4_keep_2 (kX4_isRow hl) sX4_isRow mw_1083 rfl (Nat.le_of_ble_eq_true rfl) ⟨⟨Nat.le_of_ble_eq_true rfl, Nat.le_of_ble_eq_true rfl⟩, (by first | exact Nat.le_of_ble_eq_true rfl | (simp only [rX4_isRow, rX4_isLet, rX4_part, rX4_did, rX4_keep]; omega)), (by first | exact Nat.le_of_ble_eq_true rfl | (simp only [rX4_isRow, rX4_isLet, rX4_part, rX4_did, rX4_keep]; omega))⟩ (fun v15 h16 n17 c18 => ?_) (fun _ _ _ hx => hx.elim)
    obtain ⟨c18a, c18b, c18c⟩ := c18
    rw [show (inN 4 (nI r3)).isSome = true from by rw [inN_some hr3 (by decide)]; rfl] at c18a
    rw [c18a, c18b, c18c]
    show mT _ _ _ _ 5 [.ref 27, .int (nI r3), .int from_, .int to] [.int (nI 1), .ref 27] _ _ _ _
    refine mt_if_eq dX4_keep_5 (tgt := 32) rfl (fun q19 => ?_) (fun q19 => ?_)
    · have q19 := (mI_eq0 (by omega)).mp q19
      exact absurd q19 (by decide)
    · have q19 := (not_congr (mI_eq0 (by omega))).mp q19
      by_cases hkp : from_ < 0 ∨ to < from_ ∨ nI (S.1 r3).length < to
      · refine mt_iload_n dX4_keep_8 rfl ?_
        refine mt_if_lt dX4_keep_9 (tgt := 32) rfl (fun q20 => ?_) (fun q20 => ?_)
        · refine mt_iconst dX4_keep_32 (v := nI 0) rfl ?_
          refine mt_iconst dX4_keep_33 (v := nI 1) rfl ?_
          refine mt_callV (N := mX4_isLet) (Rc := rX4_isLet) (As := [.int (nI 0), .int (nI 1)]) (st := []) dX4_keep_34 (kX4_isLet (t := false) (f := true) hl C0) sX4_isLet mw_1092 mKX4 rfl C0 rfl (Nat.le_of_ble_eq_true rfl) ⟨⟨Nat.le_of_ble_eq_true rfl, Nat.le_of_ble_eq_true rfl⟩, (by first | exact Nat.le_of_ble_eq_true rfl | (simp only [rX4_isRow, rX4_isLet, rX4_part, rX4_did, rX4_keep]; omega)), (by first | exact Nat.le_of_ble_eq_true rfl | (simp only [rX4_isRow, rX4_isLet, rX4_part, rX4_did, rX4_keep]; omega))⟩ (fun v21 h22 n23 c24 => ?_) (fun _ _ _ hx => hx.elim)
          obtain ⟨c24a, c24b, c24c, c24d⟩ := c24
          rw [c24a, c24b]
          show mT _ _ _ _ 37 [.ref 27, .int (nI r3), .int from_, .int to] [.int (nI 0)] _ _ _ _
          refine mt_if_ne dX4_keep_37 (tgt := 42) rfl (fun q25 => ?_) (fun q25 => ?_)
          · have q25 := (not_congr (mI_eq0 (by omega))).mp q25
            exact absurd q25 (by decide)
          · have q25 := (mI_eq0 (by omega)).mp q25
            refine mt_iconst dX4_keep_40 (v := nI 0) rfl ?_
            refine mt_ireturn dX4_keep_41 rfl rfl (by first | exact Nat.le_of_ble_eq_true rfl | (simp only [rX4_isRow, rX4_isLet, rX4_part, rX4_did, rX4_keep]; omega)) (by first | exact Nat.le_of_ble_eq_true rfl | (simp only [rX4_isRow, rX4_isLet, rX4_part, rX4_did, rX4_keep]; omega)) ?_
            exact mOk.no (k := 1) (S' := S) (by simp only [mp_keep, dAt_s (k := 4) hr3 (by first | decide | omega), keep_neg (L := (S.1 r3).length) hkp, if_neg q19, if_pos q20, if_pos q25]) (by decide) rfl (by omega) c24c (by omega) (mRows.fr (n' := n) HR (by omega) (fun j j1 j2 j3 => c24d (j) (by omega)) (by omega)) (fun j hj => c24d j (by omega))
        · refine mt_iload_n dX4_keep_12 rfl ?_
          refine mt_iload_n dX4_keep_13 rfl ?_
          refine mt_icmp_gt dX4_keep_14 (tgt := 32) rfl (fun q26 => ?_) (fun q26 => ?_)
          · refine mt_iconst dX4_keep_32 (v := nI 0) rfl ?_
            refine mt_iconst dX4_keep_33 (v := nI 1) rfl ?_
            refine mt_callV (N := mX4_isLet) (Rc := rX4_isLet) (As := [.int (nI 0), .int (nI 1)]) (st := []) dX4_keep_34 (kX4_isLet (t := false) (f := true) hl C0) sX4_isLet mw_1092 mKX4 rfl C0 rfl (Nat.le_of_ble_eq_true rfl) ⟨⟨Nat.le_of_ble_eq_true rfl, Nat.le_of_ble_eq_true rfl⟩, (by first | exact Nat.le_of_ble_eq_true rfl | (simp only [rX4_isRow, rX4_isLet, rX4_part, rX4_did, rX4_keep]; omega)), (by first | exact Nat.le_of_ble_eq_true rfl | (simp only [rX4_isRow, rX4_isLet, rX4_part, rX4_did, rX4_keep]; omega))⟩ (fun v27 h28 n29 c30 => ?_) (fun _ _ _ hx => hx.elim)
            obtain ⟨c30a, c30b, c30c, c30d⟩ := c30
            rw [c30a, c30b]
            show mT _ _ _ _ 37 [.ref 27, .int (nI r3), .int from_, .int to] [.int (nI 0)] _ _ _ _
            refine mt_if_ne dX4_keep_37 (tgt := 42) rfl (fun q31 => ?_) (fun q31 => ?_)
            · have q31 := (not_congr (mI_eq0 (by omega))).mp q31
              exact absurd q31 (by decide)
            · have q31 := (mI_eq0 (by omega)).mp q31
              refine mt_iconst dX4_keep_40 (v := nI 0) rfl ?_
              refine mt_ireturn dX4_keep_41 rfl rfl (by first | exact Nat.le_of_ble_eq_true rfl | (simp only [rX4_isRow, rX4_isLet, rX4_part, rX4_did, rX4_keep]; omega)) (by first | exact Nat.le_of_ble_eq_true rfl | (simp only [rX4_isRow, rX4_isLet, rX4_part, rX4_did, rX4_keep]; omega)) ?_
              exact mOk.no (k := 1) (S' := S) (by simp only [mp_keep, dAt_s (k := 4) hr3 (by first | decide | omega), keep_neg (L := (S.1 r3).length) hkp, if_neg q19, if_neg q20, if_pos q26, if_pos q31]) (by decide) rfl (by omega) c30c (by omega) (mRows.fr (n' := n) HR (by omega) (fun j j1 j2 j3 => c30d (j) (by omega)) (by omega)) (fun j hj => c30d j (by omega))
          · refine mt_iload_n dX4_keep_17 rfl ?_
            refine mt_aload_n dX4_keep_18 rfl rfl ?_
            refine mt_getfield mKX4 (i := 0) (by decide) mw_1053 dX4_keep_19 C0 rfl ?_
            refine mt_iload_n dX4_keep_22 rfl ?_
            refine mp_aaload dX4_keep_23 G28_1 (fun _ => rfl) rfl rfl (by omega) (by omega) (v := .ref (kx r3)) (by rw [GK_1 _ (by omega)]; rfl) ?_
            refine mt_alen dX4_keep_24 ke_14 (by decide) ?_
            refine mt_icmp_gt dX4_keep_25 (tgt := 32) rfl (fun q32 => ?_) (fun q32 => ?_)
            · refine mt_iconst dX4_keep_32 (v := nI 0) rfl ?_
              refine mt_iconst dX4_keep_33 (v := nI 1) rfl ?_
              refine mt_callV (N := mX4_isLet) (Rc := rX4_isLet) (As := [.int (nI 0), .int (nI 1)]) (st := []) dX4_keep_34 (kX4_isLet (t := false) (f := true) hl C0) sX4_isLet mw_1092 mKX4 rfl C0 rfl (Nat.le_of_ble_eq_true rfl) ⟨⟨Nat.le_of_ble_eq_true rfl, Nat.le_of_ble_eq_true rfl⟩, (by first | exact Nat.le_of_ble_eq_true rfl | (simp only [rX4_isRow, rX4_isLet, rX4_part, rX4_did, rX4_keep]; omega)), (by first | exact Nat.le_of_ble_eq_true rfl | (simp only [rX4_isRow, rX4_isLet, rX4_part, rX4_did, rX4_keep]; omega))⟩ (fun v33 h34 n35 c36 => ?_) (fun _ _ _ hx => hx.elim)
              obtain ⟨c36a, c36b, c36c, c36d⟩ := c36
              rw [c36a, c36b]
              show mT _ _ _ _ 37 [.ref 27, .int (nI r3), .int from_, .int to] [.int (nI 0)] _ _ _ _
              refine mt_if_ne dX4_keep_37 (tgt := 42) rfl (fun q37 => ?_) (fun q37 => ?_)
              · have q37 := (not_congr (mI_eq0 (by omega))).mp q37
                exact absurd q37 (by decide)
              · have q37 := (mI_eq0 (by omega)).mp q37
                refine mt_iconst dX4_keep_40 (v := nI 0) rfl ?_
                refine mt_ireturn dX4_keep_41 rfl rfl (by first | exact Nat.le_of_ble_eq_true rfl | (simp only [rX4_isRow, rX4_isLet, rX4_part, rX4_did, rX4_keep]; omega)) (by first | exact Nat.le_of_ble_eq_true rfl | (simp only [rX4_isRow, rX4_isLet, rX4_part, rX4_did, rX4_keep]; omega)) ?_
                exact mOk.no (k := 1) (S' := S) (by simp only [mp_keep, dAt_s (k := 4) hr3 (by first | decide | omega), keep_neg (L := (S.1 r3).length) hkp, if_neg q19, if_neg q20, if_neg q26, if_pos q32, if_pos q37]) (by decide) rfl (by omega) c36c (by omega) (mRows.fr (n' := n) HR (by omega) (fun j j1 j2 j3 => c36d (j) (by omega)) (by omega)) (fun j hj => c36d j (by omega))
            · exact (hkp.elim q20 (fun z => z.elim q26 q32)).elim
      · refine mt_iload_n dX4_keep_8 rfl ?_
        refine mt_if_lt dX4_keep_9 (tgt := 32) rfl (fun q38 => ?_) (fun q38 => ?_)
        · exact (hkp (by first | exact Or.inl (by assumption) | exact Or.inr (Or.inl (by assumption)) | exact Or.inr (Or.inr (by assumption)))).elim
        · refine mt_iload_n dX4_keep_12 rfl ?_
          refine mt_iload_n dX4_keep_13 rfl ?_
          refine mt_icmp_gt dX4_keep_14 (tgt := 32) rfl (fun q39 => ?_) (fun q39 => ?_)
          · exact (hkp (by first | exact Or.inl (by assumption) | exact Or.inr (Or.inl (by assumption)) | exact Or.inr (Or.inr (by assumption)))).elim
          · refine mt_iload_n dX4_keep_17 rfl ?_
            refine mt_aload_n dX4_keep_18 rfl rfl ?_
            refine mt_getfield mKX4 (i := 0) (by decide) mw_1053 dX4_keep_19 C0 rfl ?_
            refine mt_iload_n dX4_keep_22 rfl ?_
            refine mp_aaload dX4_keep_23 G28_1 (fun _ => rfl) rfl rfl (by omega) (by omega) (v := .ref (kx r3)) (by rw [GK_1 _ (by omega)]; rfl) ?_
            refine mt_alen dX4_keep_24 ke_14 (by decide) ?_
            refine mt_icmp_gt dX4_keep_25 (tgt := 32) rfl (fun q40 => ?_) (fun q40 => ?_)
            · exact (hkp (by first | exact Or.inl (by assumption) | exact Or.inr (Or.inl (by assumption)) | exact Or.inr (Or.inr (by assumption)))).elim
            · obtain ⟨p, hp, t, ht, hpt, rfl, rfl⟩ := keep_in (L := (S.1 r3).length) q38 q39 q40 (by omega)
              refine mt_iconst dX4_keep_28 (v := nI 1) rfl ?_
              refine mt_goto dX4_keep_29 (tgt := 33) rfl ?_
              refine mt_iconst dX4_keep_33 (v := nI 1) rfl ?_
              refine mt_callV (N := mX4_isLet) (Rc := rX4_isLet) (As := [.int (nI 1), .int (nI 1)]) (st := []) dX4_keep_34 (kX4_isLet (t := true) (f := true) hl C0) sX4_isLet mw_1092 mKX4 rfl C0 rfl (Nat.le_of_ble_eq_true rfl) ⟨⟨Nat.le_of_ble_eq_true rfl, Nat.le_of_ble_eq_true rfl⟩, (by first | exact Nat.le_of_ble_eq_true rfl | (simp only [rX4_isRow, rX4_isLet, rX4_part, rX4_did, rX4_keep]; omega)), (by first | exact Nat.le_of_ble_eq_true rfl | (simp only [rX4_isRow, rX4_isLet, rX4_part, rX4_did, rX4_keep]; omega))⟩ (fun v41 h42 n43 c44 => ?_) (fun _ _ _ hx => hx.elim)
              obtain ⟨c44a, c44b, c44c, c44d⟩ := c44
              rw [c44a, c44b]
              show mT _ _ _ _ 37 [.ref 27, .int (nI r3), .int (nI p), .int (nI t)] [.int (nI 1)] _ _ _ _
              refine mt_if_ne dX4_keep_37 (tgt := 42) rfl (fun q45 => ?_) (fun q45 => ?_)
              · have q45 := (not_congr (mI_eq0 (by omega))).mp q45
                refine mt_aload_n dX4_keep_42 rfl rfl ?_
                refine mt_getfield mKX4 (i := 0) (by decide) mw_1053 dX4_keep_43 c44c rfl ?_
                refine mt_iload_n dX4_keep_46 rfl ?_
                refine mt_aload_n dX4_keep_47 rfl rfl ?_
                refine mt_getfield mKX4 (i := 0) (by decide) mw_1053 dX4_keep_48 c44c rfl ?_
                refine mt_iload_n dX4_keep_51 rfl ?_
                refine mp_aaload dX4_keep_52 ((c44d (28) (by omega)).trans G28_1) (fun _ => rfl) rfl rfl (by omega) (by omega) (v := .ref (kx r3)) (by rw [GK_1 _ (by omega)]; rfl) ?_
                refine mt_iload_n dX4_keep_53 rfl ?_
                refine mt_iload_n dX4_keep_54 rfl ?_
                refine mt_callS (N := mX4_part) (Rc := rX4_part) (As := [.ref (kx r3), .int (nI p), .int (nI t)]) (st := [.int (nI r3), .ref 28]) dX4_keep_55 (kX4_part hl ((c44d (kx r3) (by omega)).trans ke_14) (by omega) (by omega) (by omega) (by omega)) sX4_part mw_1180 rfl (Nat.le_of_ble_eq_true rfl) ⟨⟨Nat.le_of_ble_eq_true rfl, Nat.le_of_ble_eq_true rfl⟩, (by first | exact Nat.le_of_ble_eq_true rfl | (simp only [rX4_isRow, rX4_isLet, rX4_part, rX4_did, rX4_keep]; omega)), (by first | exact Nat.le_of_ble_eq_true rfl | (simp only [rX4_isRow, rX4_isLet, rX4_part, rX4_did, rX4_keep]; omega))⟩ (fun v46 h47 n48 c49 => ?_) (fun _ _ _ hx => hx.elim)
                obtain ⟨c49a, c49b, ⟨c49g, c49c, c49d⟩, c49e⟩ := c49
                rw [c49a, c49b]
                show mT _ _ _ _ 58 [.ref 27, .int (nI r3), .int (nI p), .int (nI t)] [.ref n, .int (nI r3), .ref 28] _ _ _ _
                refine mp_aastoreA dX4_keep_58 ((c49e (28) (by omega)).trans ((c44d (28) (by omega)).trans G28_1)) c49c rfl (by omega) (by omega) (fun h50 e51 f52 => ?_)
                refine mt_aload_n dX4_keep_59 rfl rfl ?_
                refine mt_getfield mKX4 (i := 1) (by decide) mw_1054 dX4_keep_60 ((f52 (27) (by omega)).trans ((c49e (27) (by omega)).trans c44c)) rfl ?_
                refine mt_iload_n dX4_keep_63 rfl ?_
                refine mt_aload_n dX4_keep_64 rfl rfl ?_
                refine mt_getfield mKX4 (i := 1) (by decide) mw_1054 dX4_keep_65 ((f52 (27) (by omega)).trans ((c49e (27) (by omega)).trans c44c)) rfl ?_
                refine mt_iload_n dX4_keep_68 rfl ?_
                refine mp_aaload dX4_keep_69 ((f52 (33) (by omega)).trans ((c49e (33) (by omega)).trans ((c44d (33) (by omega)).trans G33_1))) (fun _ => rfl) rfl rfl (by omega) (by omega) (v := .ref (sx r3)) (by rw [GS_1 _ (by omega)]; rfl) ?_
                refine mt_iload_n dX4_keep_70 rfl ?_
                refine mt_iload_n dX4_keep_71 rfl ?_
                refine mt_callS (N := mX4_part) (Rc := rX4_part) (As := [.ref (sx r3), .int (nI p), .int (nI t)]) (st := [.int (nI r3), .ref 33]) dX4_keep_72 (kX4_part hl ((f52 (sx r3) (by omega)).trans ((c49e (sx r3) (by omega)).trans ((c44d (sx r3) (by omega)).trans se_14))) (by omega) (by omega) (by omega) (by omega)) sX4_part mw_1180 rfl (Nat.le_of_ble_eq_true rfl) ⟨⟨Nat.le_of_ble_eq_true rfl, Nat.le_of_ble_eq_true rfl⟩, (by first | exact Nat.le_of_ble_eq_true rfl | (simp only [rX4_isRow, rX4_isLet, rX4_part, rX4_did, rX4_keep]; omega)), (by first | exact Nat.le_of_ble_eq_true rfl | (simp only [rX4_isRow, rX4_isLet, rX4_part, rX4_did, rX4_keep]; omega))⟩ (fun v53 h54 n55 c56 => ?_) (fun _ _ _ hx => hx.elim)
                obtain ⟨c56a, c56b, ⟨c56g, c56c, c56d⟩, c56e⟩ := c56
                rw [c56a, c56b]
                show mT _ _ _ _ 75 [.ref 27, .int (nI r3), .int (nI p), .int (nI t)] [.ref (n + 1), .int (nI r3), .ref 33] _ _ _ _
                refine mp_aastoreA dX4_keep_75 ((c56e (33) (by omega)).trans ((f52 (33) (by omega)).trans ((c49e (33) (by omega)).trans ((c44d (33) (by omega)).trans G33_1)))) c56c rfl (by omega) (by omega) (fun h57 e58 f59 => ?_)
                refine mt_aload_n dX4_keep_76 rfl rfl ?_
                refine mt_iload_n dX4_keep_77 rfl ?_
                refine mt_iload_n dX4_keep_78 rfl ?_
                refine mp_isub dX4_keep_79 (v := nI (t - p)) (pk_sub (by omega)) ?_
                refine mt_callV (N := mX4_did) (Rc := rX4_did) (As := [.int (nI (t - p))]) (st := []) dX4_keep_80 (kX4_did hl ((f59 (27) (by omega)).trans ((c56e (27) (by omega)).trans ((f52 (27) (by omega)).trans ((c49e (27) (by omega)).trans c44c))))) sX4_did mw_1105 mKX4 rfl ((f59 (27) (by omega)).trans ((c56e (27) (by omega)).trans ((f52 (27) (by omega)).trans ((c49e (27) (by omega)).trans c44c)))) rfl (Nat.le_of_ble_eq_true rfl) ⟨⟨Nat.le_of_ble_eq_true rfl, Nat.le_of_ble_eq_true rfl⟩, (by first | exact Nat.le_of_ble_eq_true rfl | (simp only [rX4_isRow, rX4_isLet, rX4_part, rX4_did, rX4_keep]; omega)), (by first | exact Nat.le_of_ble_eq_true rfl | (simp only [rX4_isRow, rX4_isLet, rX4_part, rX4_did, rX4_keep]; omega))⟩ (fun v60 h61 n62 c63 => ?_) (fun _ _ _ hx => hx.elim)
                obtain ⟨c63a, c63b, c63c, c63d⟩ := c63
                rw [c63a, c63b]
                show mT _ _ _ _ 83 [.ref 27, .int (nI r3), .int (nI p), .int (nI t)] [.int (nI (t - p))] _ _ _ _
                refine mt_ireturn dX4_keep_83 rfl rfl (by first | exact Nat.le_of_ble_eq_true rfl | (simp only [rX4_isRow, rX4_isLet, rX4_part, rX4_did, rX4_keep]; omega)) (by first | exact Nat.le_of_ble_eq_true rfl | (simp only [rX4_isRow, rX4_isLet, rX4_part, rX4_did, rX4_keep]; omega)) ?_
                exact mOk.ofE (x := .int (nI (t - p))) (S' := ((cSet S r3 (zipF (fun i => xk (S.1 r3) (p + i)) (fun i => xt (S.1 r3) (p + i)) (t - p))).1, S.2.1, S.2.2.1 + nI 1, S.2.2.2.1, S.2.2.2.2)) (by simp only [mp_keep, dAt_s (k := 4) hr3 (by first | decide | omega), keep_pos (L := (S.1 r3).length) hpt ht (by omega), if_neg q19, if_neg q38, if_neg q39, if_neg q40, if_neg q45, cSet_s] <;> first | rfl | simp_all) rfl (by omega) c63c (by omega) (mRows.upz (ys := zipF (fun i => xk (S.1 r3) (p + i)) (fun i => xt (S.1 r3) (p + i)) (t - p)) HR zipF_len (by omega) (by omega) (by omega) ⟨by omega, by omega⟩ ⟨by omega, by omega⟩ (by omega) ((c63d (28) (by omega)).trans ((f59 (28) (by omega)).trans ((c56e (28) (by omega)).trans e51))) (fun q hq hne => (if_neg hne).trans (GK_1 q hq)) ((c63d (33) (by omega)).trans e58) (fun q hq hne => (if_neg hne).trans (GS_1 q hq)) ((c63d (n) (by omega)).trans ((f59 (n) (by omega)).trans ((c56e (n) (by omega)).trans ((f52 (n) (by omega)).trans c49c)))) ((c63d (n + 1) (by omega)).trans ((f59 (n + 1) (by omega)).trans c56c)) (zip_k (fun i hi => (c49d i hi).trans (kg_14 _ (by omega)))) (zip_t (fun i hi => (c56d i hi).trans (sg_14 _ (by omega)))) (by omega) (fun j j1 j2 j3 j4 => (c63d (j) (by omega)).trans ((f59 (j) (by omega)).trans ((c56e (j) (by omega)).trans ((f52 (j) (by omega)).trans ((c49e (j) (by omega)).trans (c44d (j) (by omega)))))))) (fun j hj => (c63d j (by omega)).trans ((f59 j (by omega)).trans ((c56e j (by omega)).trans ((f52 j (by omega)).trans ((c49e j (by omega)).trans (c44d j (by omega)))))))
              · have q45 := (mI_eq0 (by omega)).mp q45
                exact absurd q45 (by decide)
abbrev rX4_copy : Room := { frames := 2, cells := 2, slots := 1280, locals := 46 }
def mp_copy (S : cS) (row : Int32) (into : Int32) : Nat × Value × cS := dAt S 4 row fun r => dAt S 4 into fun q => if rroom q < (S.1 r).length then (0, .int (-9), cRef S) else if r = q then (0, .int (nI (S.1 r).length), cAct S) else (0, .int (nI (S.1 r).length), cAct (cGiv (cSet S q (zipF (xk (S.1 r)) (comF q r (S.1 r).length (S.1 r) S.2.1) (S.1 r).length)) (comG q r (S.1 r).length S.2.1)))
set_option maxRecDepth 100000 in
set_option maxHeartbeats 2000000 in
theorem kX4_copy {l : Launch} (hl : l.stackTraces = false) {h : mH} {n : Nat} {S : cS} {th : Int32} {row : Int32} {into : Int32} (C : mAt h n S th) : mC l mX4_copy rX4_copy [.ref 27, .int row, .int into] h n (mOk (mp_copy S row into) (.int (nI 0)) h n) (mNX) := by
  obtain ⟨C0, h39, kx, sx, HR⟩ := id C
  obtain ⟨⟨gk_1, G28_1, GK_1⟩, ⟨gs_1, G33_1, GS_1⟩, AK_1, AS_1, NE_1, NQ_1, LE_1⟩ := id HR
  refine mm_enter hl (by decide +kernel) rfl rfl rfl (Nat.le_of_ble_eq_true rfl) ?_
  show mT _ _ _ _ 0 [.ref 27, .int row, .int into, .double 0] [] _ _ 0 0
  rcases hq2 : inN 4 row with _ | r3
  · refine mt_aload_n dX4_copy_0 rfl rfl ?_
    refine mt_iload_n dX4_copy_1 rfl ?_
    refine mt_callS (N := mX4_isRow) (Rc := rX4_isRow) (As := [.int row]) (st := [.ref 27]) dX4_copy_2 (kX4_isRow hl) sX4_isRow mw_1083 rfl (Nat.le_of_ble_eq_true rfl) ⟨⟨Nat.le_of_ble_eq_true rfl, Nat.le_of_ble_eq_true rfl⟩, (by first | exact Nat.le_of_ble_eq_true rfl | (simp only [rX4_isRow, rX4_isLet, rX4_room, rX4_refuse, rX4_did, rX4_coming, rX4_part, rX4_copy]; omega)), (by first | exact Nat.le_of_ble_eq_true rfl | (simp only [rX4_isRow, rX4_isLet, rX4_room, rX4_refuse, rX4_did, rX4_coming, rX4_part, rX4_copy]; omega))⟩ (fun v4 h5 n6 c7 => ?_) (fun _ _ _ hx => hx.elim)
    obtain ⟨c7a, c7b, c7c⟩ := c7
    rw [show (inN 4 row).isSome = false from by rw [hq2]; rfl] at c7a
    rw [c7a, c7b, c7c]
    show mT _ _ _ _ 5 [.ref 27, .int row, .int into, .double 0] [.int (nI 0), .ref 27] _ _ _ _
    refine mt_if_eq dX4_copy_5 (tgt := 19) rfl (fun q8 => ?_) (fun q8 => ?_)
    · have q8 := (mI_eq0 (by omega)).mp q8
      refine mt_iconst dX4_copy_19 (v := nI 0) rfl ?_
      refine mt_iconst dX4_copy_20 (v := nI 1) rfl ?_
      refine mt_callV (N := mX4_isLet) (Rc := rX4_isLet) (As := [.int (nI 0), .int (nI 1)]) (st := []) dX4_copy_21 (kX4_isLet (t := false) (f := true) hl C0) sX4_isLet mw_1092 mKX4 rfl C0 rfl (Nat.le_of_ble_eq_true rfl) ⟨⟨Nat.le_of_ble_eq_true rfl, Nat.le_of_ble_eq_true rfl⟩, (by first | exact Nat.le_of_ble_eq_true rfl | (simp only [rX4_isRow, rX4_isLet, rX4_room, rX4_refuse, rX4_did, rX4_coming, rX4_part, rX4_copy]; omega)), (by first | exact Nat.le_of_ble_eq_true rfl | (simp only [rX4_isRow, rX4_isLet, rX4_room, rX4_refuse, rX4_did, rX4_coming, rX4_part, rX4_copy]; omega))⟩ (fun v9 h10 n11 c12 => ?_) (fun _ _ _ hx => hx.elim)
      obtain ⟨c12a, c12b, c12c, c12d⟩ := c12
      rw [c12a, c12b]
      show mT _ _ _ _ 24 [.ref 27, .int row, .int into, .double 0] [.int (nI 0)] _ _ _ _
      refine mt_if_ne dX4_copy_24 (tgt := 29) rfl (fun q13 => ?_) (fun q13 => ?_)
      · have q13 := (not_congr (mI_eq0 (by omega))).mp q13
        exact absurd q13 (by decide)
      · have q13 := (mI_eq0 (by omega)).mp q13
        refine mt_iconst dX4_copy_27 (v := nI 0) rfl ?_
        refine mt_ireturn dX4_copy_28 rfl rfl (by first | exact Nat.le_of_ble_eq_true rfl | (simp only [rX4_isRow, rX4_isLet, rX4_room, rX4_refuse, rX4_did, rX4_coming, rX4_part, rX4_copy]; omega)) (by first | exact Nat.le_of_ble_eq_true rfl | (simp only [rX4_isRow, rX4_isLet, rX4_room, rX4_refuse, rX4_did, rX4_coming, rX4_part, rX4_copy]; omega)) ?_
        exact mOk.no (k := 1) (S' := S) (by simp only [mp_copy, dAt_n (k := 4) (x := row) hq2, if_pos q8, if_pos q13]) (by decide) rfl (by omega) c12c (by omega) (mRows.fr (n' := n) HR (by omega) (fun j j1 j2 j3 => c12d (j) (by omega)) (by omega)) (fun j hj => c12d j (by omega))
    · have q8 := (not_congr (mI_eq0 (by omega))).mp q8
      exact absurd q8 (by decide)
  · obtain ⟨hr3, rfl⟩ := inN_of hq2 (by first | decide | omega)
    obtain ⟨⟨ka_14, kb_14, kc_14, kd_14⟩, kf_14, ke_14, kg_14⟩ := AK_1 r3 hr3
    obtain ⟨⟨sa_14, sb_14, sc_14, sd_14⟩, sf_14, se_14, sg_14⟩ := AS_1 r3 hr3
    have kn_14 := NE_1 r3 r3 hr3 hr3
    have kl_14 := LE_1 r3 hr3
    have km_14 := rroom_le (r := r3)
    rcases hq15 : inN 4 into with _ | r16
    · refine mt_aload_n dX4_copy_0 rfl rfl ?_
      refine mt_iload_n dX4_copy_1 rfl ?_
      refine mt_callS (N := mX4_isRow) (Rc := rX4_isRow) (As := [.int (nI r3)]) (st := [.ref 27]) dX4_copy_2 (kX4_isRow hl) sX4_isRow mw_1083 rfl (Nat.le_of_ble_eq_true rfl) ⟨⟨Nat.le_of_ble_eq_true rfl, Nat.le_of_ble_eq_true rfl⟩, (by first | exact Nat.le_of_ble_eq_true rfl | (simp only [rX4_isRow, rX4_isLet, rX4_room, rX4_refuse, rX4_did, rX4_coming, rX4_part, rX4_copy]; omega)), (by first | exact Nat.le_of_ble_eq_true rfl | (simp only [rX4_isRow, rX4_isLet, rX4_room, rX4_refuse, rX4_did, rX4_coming, rX4_part, rX4_copy]; omega))⟩ (fun v17 h18 n19 c20 => ?_) (fun _ _ _ hx => hx.elim)
      obtain ⟨c20a, c20b, c20c⟩ := c20
      rw [show (inN 4 (nI r3)).isSome = true from by rw [inN_some hr3 (by decide)]; rfl] at c20a
      rw [c20a, c20b, c20c]
      show mT _ _ _ _ 5 [.ref 27, .int (nI r3), .int into, .double 0] [.int (nI 1), .ref 27] _ _ _ _
      refine mt_if_eq dX4_copy_5 (tgt := 19) rfl (fun q21 => ?_) (fun q21 => ?_)
      · have q21 := (mI_eq0 (by omega)).mp q21
        exact absurd q21 (by decide)
      · have q21 := (not_congr (mI_eq0 (by omega))).mp q21
        refine mt_iload_n dX4_copy_8 rfl ?_
        refine mt_callS (N := mX4_isRow) (Rc := rX4_isRow) (As := [.int into]) (st := [.ref 27]) dX4_copy_9 (kX4_isRow hl) sX4_isRow mw_1083 rfl (Nat.le_of_ble_eq_true rfl) ⟨⟨Nat.le_of_ble_eq_true rfl, Nat.le_of_ble_eq_true rfl⟩, (by first | exact Nat.le_of_ble_eq_true rfl | (simp only [rX4_isRow, rX4_isLet, rX4_room, rX4_refuse, rX4_did, rX4_coming, rX4_part, rX4_copy]; omega)), (by first | exact Nat.le_of_ble_eq_true rfl | (simp only [rX4_isRow, rX4_isLet, rX4_room, rX4_refuse, rX4_did, rX4_coming, rX4_part, rX4_copy]; omega))⟩ (fun v22 h23 n24 c25 => ?_) (fun _ _ _ hx => hx.elim)
        obtain ⟨c25a, c25b, c25c⟩ := c25
        rw [show (inN 4 into).isSome = false from by rw [hq15]; rfl] at c25a
        rw [c25a, c25b, c25c]
        show mT _ _ _ _ 12 [.ref 27, .int (nI r3), .int into, .double 0] [.int (nI 0), .ref 27] _ _ _ _
        refine mt_if_eq dX4_copy_12 (tgt := 19) rfl (fun q26 => ?_) (fun q26 => ?_)
        · have q26 := (mI_eq0 (by omega)).mp q26
          refine mt_iconst dX4_copy_19 (v := nI 0) rfl ?_
          refine mt_iconst dX4_copy_20 (v := nI 1) rfl ?_
          refine mt_callV (N := mX4_isLet) (Rc := rX4_isLet) (As := [.int (nI 0), .int (nI 1)]) (st := []) dX4_copy_21 (kX4_isLet (t := false) (f := true) hl C0) sX4_isLet mw_1092 mKX4 rfl C0 rfl (Nat.le_of_ble_eq_true rfl) ⟨⟨Nat.le_of_ble_eq_true rfl, Nat.le_of_ble_eq_true rfl⟩, (by first | exact Nat.le_of_ble_eq_true rfl | (simp only [rX4_isRow, rX4_isLet, rX4_room, rX4_refuse, rX4_did, rX4_coming, rX4_part, rX4_copy]; omega)), (by first | exact Nat.le_of_ble_eq_true rfl | (simp only [rX4_isRow, rX4_isLet, rX4_room, rX4_refuse, rX4_did, rX4_coming, rX4_part, rX4_copy]; omega))⟩ (fun v27 h28 n29 c30 => ?_) (fun _ _ _ hx => hx.elim)
          obtain ⟨c30a, c30b, c30c, c30d⟩ := c30
          rw [c30a, c30b]
          show mT _ _ _ _ 24 [.ref 27, .int (nI r3), .int into, .double 0] [.int (nI 0)] _ _ _ _
          refine mt_if_ne dX4_copy_24 (tgt := 29) rfl (fun q31 => ?_) (fun q31 => ?_)
          · have q31 := (not_congr (mI_eq0 (by omega))).mp q31
            exact absurd q31 (by decide)
          · have q31 := (mI_eq0 (by omega)).mp q31
            refine mt_iconst dX4_copy_27 (v := nI 0) rfl ?_
            refine mt_ireturn dX4_copy_28 rfl rfl (by first | exact Nat.le_of_ble_eq_true rfl | (simp only [rX4_isRow, rX4_isLet, rX4_room, rX4_refuse, rX4_did, rX4_coming, rX4_part, rX4_copy]; omega)) (by first | exact Nat.le_of_ble_eq_true rfl | (simp only [rX4_isRow, rX4_isLet, rX4_room, rX4_refuse, rX4_did, rX4_coming, rX4_part, rX4_copy]; omega)) ?_
            exact mOk.no (k := 1) (S' := S) (by simp only [mp_copy, dAt_s (k := 4) hr3 (by first | decide | omega), dAt_n (k := 4) (x := into) hq15, if_neg q21, if_pos q26, if_pos q31]) (by decide) rfl (by omega) c30c (by omega) (mRows.fr (n' := n) HR (by omega) (fun j j1 j2 j3 => c30d (j) (by omega)) (by omega)) (fun j hj => c30d j (by omega))
        · have q26 := (not_congr (mI_eq0 (by omega))).mp q26
          exact absurd q26 (by decide)
    · obtain ⟨hr16, rfl⟩ := inN_of hq15 (by first | decide | omega)
      obtain ⟨⟨ka_32, kb_32, kc_32, kd_32⟩, kf_32, ke_32, kg_32⟩ := AK_1 r16 hr16
      obtain ⟨⟨sa_32, sb_32, sc_32, sd_32⟩, sf_32, se_32, sg_32⟩ := AS_1 r16 hr16
      have kn_32 := NE_1 r16 r16 hr16 hr16
      have kl_32 := LE_1 r16 hr16
      have km_32 := rroom_le (r := r16)
      refine mt_aload_n dX4_copy_0 rfl rfl ?_
      refine mt_iload_n dX4_copy_1 rfl ?_
      refine mt_callS (N := mX4_isRow) (Rc := rX4_isRow) (As := [.int (nI r3)]) (st := [.ref 27]) dX4_copy_2 (kX4_isRow hl) sX4_isRow mw_1083 rfl (Nat.le_of_ble_eq_true rfl) ⟨⟨Nat.le_of_ble_eq_true rfl, Nat.le_of_ble_eq_true rfl⟩, (by first | exact Nat.le_of_ble_eq_true rfl | (simp only [rX4_isRow, rX4_isLet, rX4_room, rX4_refuse, rX4_did, rX4_coming, rX4_part, rX4_copy]; omega)), (by first | exact Nat.le_of_ble_eq_true rfl | (simp only [rX4_isRow, rX4_isLet, rX4_room, rX4_refuse, rX4_did, rX4_coming, rX4_part, rX4_copy]; omega))⟩ (fun v33 h34 n35 c36 => ?_) (fun _ _ _ hx => hx.elim)
      obtain ⟨c36a, c36b, c36c⟩ := c36
      rw [show (inN 4 (nI r3)).isSome = true from by rw [inN_some hr3 (by decide)]; rfl] at c36a
      rw [c36a, c36b, c36c]
      show mT _ _ _ _ 5 [.ref 27, .int (nI r3), .int (nI r16), .double 0] [.int (nI 1), .ref 27] _ _ _ _
      refine mt_if_eq dX4_copy_5 (tgt := 19) rfl (fun q37 => ?_) (fun q37 => ?_)
      · have q37 := (mI_eq0 (by omega)).mp q37
        exact absurd q37 (by decide)
      · have q37 := (not_congr (mI_eq0 (by omega))).mp q37
        refine mt_iload_n dX4_copy_8 rfl ?_
        refine mt_callS (N := mX4_isRow) (Rc := rX4_isRow) (As := [.int (nI r16)]) (st := [.ref 27]) dX4_copy_9 (kX4_isRow hl) sX4_isRow mw_1083 rfl (Nat.le_of_ble_eq_true rfl) ⟨⟨Nat.le_of_ble_eq_true rfl, Nat.le_of_ble_eq_true rfl⟩, (by first | exact Nat.le_of_ble_eq_true rfl | (simp only [rX4_isRow, rX4_isLet, rX4_room, rX4_refuse, rX4_did, rX4_coming, rX4_part, rX4_copy]; omega)), (by first | exact Nat.le_of_ble_eq_true rfl | (simp only [rX4_isRow, rX4_isLet, rX4_room, rX4_refuse, rX4_did, rX4_coming, rX4_part, rX4_copy]; omega))⟩ (fun v38 h39 n40 c41 => ?_) (fun _ _ _ hx => hx.elim)
        obtain ⟨c41a, c41b, c41c⟩ := c41
        rw [show (inN 4 (nI r16)).isSome = true from by rw [inN_some hr16 (by decide)]; rfl] at c41a
        rw [c41a, c41b, c41c]
        show mT _ _ _ _ 12 [.ref 27, .int (nI r3), .int (nI r16), .double 0] [.int (nI 1), .ref 27] _ _ _ _
        refine mt_if_eq dX4_copy_12 (tgt := 19) rfl (fun q42 => ?_) (fun q42 => ?_)
        · have q42 := (mI_eq0 (by omega)).mp q42
          exact absurd q42 (by decide)
        · have q42 := (not_congr (mI_eq0 (by omega))).mp q42
          refine mt_iconst dX4_copy_15 (v := nI 1) rfl ?_
          refine mt_goto dX4_copy_16 (tgt := 20) rfl ?_
          refine mt_iconst dX4_copy_20 (v := nI 1) rfl ?_
          refine mt_callV (N := mX4_isLet) (Rc := rX4_isLet) (As := [.int (nI 1), .int (nI 1)]) (st := []) dX4_copy_21 (kX4_isLet (t := true) (f := true) hl C0) sX4_isLet mw_1092 mKX4 rfl C0 rfl (Nat.le_of_ble_eq_true rfl) ⟨⟨Nat.le_of_ble_eq_true rfl, Nat.le_of_ble_eq_true rfl⟩, (by first | exact Nat.le_of_ble_eq_true rfl | (simp only [rX4_isRow, rX4_isLet, rX4_room, rX4_refuse, rX4_did, rX4_coming, rX4_part, rX4_copy]; omega)), (by first | exact Nat.le_of_ble_eq_true rfl | (simp only [rX4_isRow, rX4_isLet, rX4_room, rX4_refuse, rX4_did, rX4_coming, rX4_part, rX4_copy]; omega))⟩ (fun v43 h44 n45 c46 => ?_) (fun _ _ _ hx => hx.elim)
          obtain ⟨c46a, c46b, c46c, c46d⟩ := c46
          rw [c46a, c46b]
          show mT _ _ _ _ 24 [.ref 27, .int (nI r3), .int (nI r16), .double 0] [.int (nI 1)] _ _ _ _
          refine mt_if_ne dX4_copy_24 (tgt := 29) rfl (fun q47 => ?_) (fun q47 => ?_)
          · have q47 := (not_congr (mI_eq0 (by omega))).mp q47
            refine mt_aload_n dX4_copy_29 rfl rfl ?_
            refine mt_getfield mKX4 (i := 0) (by decide) mw_1053 dX4_copy_30 c46c rfl ?_
            refine mt_iload_n dX4_copy_33 rfl ?_
            refine mp_aaload dX4_copy_34 ((c46d (28) (by omega)).trans G28_1) (fun _ => rfl) rfl rfl (by omega) (by omega) (v := .ref (kx r3)) (by rw [GK_1 _ (by omega)]; rfl) ?_
            refine mt_alen dX4_copy_35 ((c46d (kx r3) (by omega)).trans ke_14) (by decide) ?_
            refine mp_istore_n dX4_copy_36 (ls' := [.ref 27, .int (nI r3), .int (nI r16), .int (nI ((S.1 r3).length))]) rfl (by decide) rfl ?_
            refine mt_iload_n dX4_copy_37 rfl ?_
            refine mt_iload_n dX4_copy_38 rfl ?_
            refine mt_callS (N := mX4_room) (Rc := rX4_room) (As := [.int (nI r16)]) (st := [.int (nI ((S.1 r3).length))]) dX4_copy_39 (kX4_room hl (by omega)) sX4_room mw_1089 rfl (Nat.le_of_ble_eq_true rfl) ⟨⟨Nat.le_of_ble_eq_true rfl, Nat.le_of_ble_eq_true rfl⟩, (by first | exact Nat.le_of_ble_eq_true rfl | (simp only [rX4_isRow, rX4_isLet, rX4_room, rX4_refuse, rX4_did, rX4_coming, rX4_part, rX4_copy]; omega)), (by first | exact Nat.le_of_ble_eq_true rfl | (simp only [rX4_isRow, rX4_isLet, rX4_room, rX4_refuse, rX4_did, rX4_coming, rX4_part, rX4_copy]; omega))⟩ (fun v48 h49 n50 c51 => ?_) (fun _ _ _ hx => hx.elim)
            obtain ⟨c51a, c51b, c51c⟩ := c51
            rw [c51a, c51b, c51c]
            show mT _ _ _ _ 42 [.ref 27, .int (nI r3), .int (nI r16), .int (nI ((S.1 r3).length))] [.int (nI (rroom r16)), .int (nI ((S.1 r3).length))] _ _ _ _
            refine mt_icmp_le dX4_copy_42 (tgt := 50) rfl (fun q52 => ?_) (fun q52 => ?_)
            · have q52 := Int32.not_lt.mpr q52
              have q52 := (not_congr (nI_ltI (by omega) (by omega))).mp q52
              refine mt_iload_n dX4_copy_50 rfl ?_
              refine mt_iload_n dX4_copy_51 rfl ?_
              refine mt_icmp_ne dX4_copy_52 (tgt := 61) rfl (fun q53 => ?_) (fun q53 => ?_)
              · have q53 := (not_congr (nI_eq (by omega) (by omega))).mp q53
                refine mt_aload_n dX4_copy_61 rfl rfl ?_
                refine mt_getfield mKX4 (i := 1) (by decide) mw_1054 dX4_copy_62 c46c rfl ?_
                refine mt_iload_n dX4_copy_65 rfl ?_
                refine mt_aload_n dX4_copy_66 rfl rfl ?_
                refine mt_iload_n dX4_copy_67 rfl ?_
                refine mt_iload_n dX4_copy_68 rfl ?_
                refine mt_callV (N := mX4_coming) (Rc := rX4_coming) (As := [.int (nI r3), .int (nI r16)]) (st := [.int (nI r16), .ref 33]) dX4_copy_69 (kX4_coming hl c46c (mRows.fr (n' := n) HR (by omega) (fun j j1 j2 j3 => c46d (j) (by omega)) (by omega)) (by omega) (by omega) (by omega)) sX4_coming mw_1199 mKX4 rfl c46c rfl (Nat.le_of_ble_eq_true rfl) ⟨⟨Nat.le_of_ble_eq_true rfl, Nat.le_of_ble_eq_true rfl⟩, (by first | exact Nat.le_of_ble_eq_true rfl | (simp only [rX4_isRow, rX4_isLet, rX4_room, rX4_refuse, rX4_did, rX4_coming, rX4_part, rX4_copy]; omega)), (by first | exact Nat.le_of_ble_eq_true rfl | (simp only [rX4_isRow, rX4_isLet, rX4_room, rX4_refuse, rX4_did, rX4_coming, rX4_part, rX4_copy]; omega))⟩ (fun v54 h55 n56 c57 => ?_) (fun _ _ _ hx => hx.elim)
                obtain ⟨c57a, c57b, ⟨c57g, c57c, c57d⟩, c57f, c57e⟩ := c57
                rw [c57a, c57b]
                have c57k : ∀ j, j ≠ n ∧ j ≠ 27 → h55 j = h44 j := fun j hj => c57e j hj.1 hj.2
                show mT _ _ _ _ 72 [.ref 27, .int (nI r3), .int (nI r16), .int (nI ((S.1 r3).length))] [.ref n, .int (nI r16), .ref 33] _ _ _ _
                refine mp_aastoreA dX4_copy_72 ((c57k (33) (by omega)).trans ((c46d (33) (by omega)).trans G33_1)) c57c rfl (by omega) (by omega) (fun h58 e59 f60 => ?_)
                refine mt_aload_n dX4_copy_73 rfl rfl ?_
                refine mt_getfield mKX4 (i := 0) (by decide) mw_1053 dX4_copy_74 ((f60 (27) (by omega)).trans c57f) rfl ?_
                refine mt_iload_n dX4_copy_77 rfl ?_
                refine mt_aload_n dX4_copy_78 rfl rfl ?_
                refine mt_getfield mKX4 (i := 0) (by decide) mw_1053 dX4_copy_79 ((f60 (27) (by omega)).trans c57f) rfl ?_
                refine mt_iload_n dX4_copy_82 rfl ?_
                refine mp_aaload dX4_copy_83 ((f60 (28) (by omega)).trans ((c57k (28) (by omega)).trans ((c46d (28) (by omega)).trans G28_1))) (fun _ => rfl) rfl rfl (by omega) (by omega) (v := .ref (kx r3)) (by rw [GK_1 _ (by omega)]; rfl) ?_
                refine mt_iconst dX4_copy_84 (v := nI 0) rfl ?_
                refine mt_iload_n dX4_copy_85 rfl ?_
                refine mt_callS (N := mX4_part) (Rc := rX4_part) (As := [.ref (kx r3), .int (nI 0), .int (nI ((S.1 r3).length))]) (st := [.int (nI r16), .ref 28]) dX4_copy_86 (kX4_part hl ((f60 (kx r3) (by omega)).trans ((c57k (kx r3) (by omega)).trans ((c46d (kx r3) (by omega)).trans ke_14))) (by omega) (by omega) (by omega) (by omega)) sX4_part mw_1180 rfl (Nat.le_of_ble_eq_true rfl) ⟨⟨Nat.le_of_ble_eq_true rfl, Nat.le_of_ble_eq_true rfl⟩, (by first | exact Nat.le_of_ble_eq_true rfl | (simp only [rX4_isRow, rX4_isLet, rX4_room, rX4_refuse, rX4_did, rX4_coming, rX4_part, rX4_copy]; omega)), (by first | exact Nat.le_of_ble_eq_true rfl | (simp only [rX4_isRow, rX4_isLet, rX4_room, rX4_refuse, rX4_did, rX4_coming, rX4_part, rX4_copy]; omega))⟩ (fun v61 h62 n63 c64 => ?_) (fun _ _ _ hx => hx.elim)
                obtain ⟨c64a, c64b, ⟨c64g, c64c, c64d⟩, c64e⟩ := c64
                rw [c64a, c64b]
                show mT _ _ _ _ 89 [.ref 27, .int (nI r3), .int (nI r16), .int (nI ((S.1 r3).length))] [.ref (n + 1), .int (nI r16), .ref 28] _ _ _ _
                refine mp_aastoreA dX4_copy_89 ((c64e (28) (by omega)).trans ((f60 (28) (by omega)).trans ((c57k (28) (by omega)).trans ((c46d (28) (by omega)).trans G28_1)))) c64c rfl (by omega) (by omega) (fun h65 e66 f67 => ?_)
                refine mt_aload_n dX4_copy_90 rfl rfl ?_
                refine mt_iload_n dX4_copy_91 rfl ?_
                refine mt_callV (N := mX4_did) (Rc := rX4_did) (As := [.int (nI ((S.1 r3).length))]) (st := []) dX4_copy_92 (kX4_did hl ((f67 (27) (by omega)).trans ((c64e (27) (by omega)).trans ((f60 (27) (by omega)).trans c57f)))) sX4_did mw_1105 mKX4 rfl ((f67 (27) (by omega)).trans ((c64e (27) (by omega)).trans ((f60 (27) (by omega)).trans c57f))) rfl (Nat.le_of_ble_eq_true rfl) ⟨⟨Nat.le_of_ble_eq_true rfl, Nat.le_of_ble_eq_true rfl⟩, (by first | exact Nat.le_of_ble_eq_true rfl | (simp only [rX4_isRow, rX4_isLet, rX4_room, rX4_refuse, rX4_did, rX4_coming, rX4_part, rX4_copy]; omega)), (by first | exact Nat.le_of_ble_eq_true rfl | (simp only [rX4_isRow, rX4_isLet, rX4_room, rX4_refuse, rX4_did, rX4_coming, rX4_part, rX4_copy]; omega))⟩ (fun v68 h69 n70 c71 => ?_) (fun _ _ _ hx => hx.elim)
                obtain ⟨c71a, c71b, c71c, c71d⟩ := c71
                rw [c71a, c71b]
                show mT _ _ _ _ 95 [.ref 27, .int (nI r3), .int (nI r16), .int (nI ((S.1 r3).length))] [.int (nI ((S.1 r3).length))] _ _ _ _
                refine mt_ireturn dX4_copy_95 rfl rfl (by first | exact Nat.le_of_ble_eq_true rfl | (simp only [rX4_isRow, rX4_isLet, rX4_room, rX4_refuse, rX4_did, rX4_coming, rX4_part, rX4_copy]; omega)) (by first | exact Nat.le_of_ble_eq_true rfl | (simp only [rX4_isRow, rX4_isLet, rX4_room, rX4_refuse, rX4_did, rX4_coming, rX4_part, rX4_copy]; omega)) ?_
                exact mOk.ofE (x := .int (nI ((S.1 r3).length))) (S' := ((cSet S r16 (zipF (xk (S.1 r3)) (comF r16 r3 (S.1 r3).length (S.1 r3) S.2.1) (S.1 r3).length)).1, comG r16 r3 (S.1 r3).length S.2.1, S.2.2.1 + nI 1, S.2.2.2.1, S.2.2.2.2)) (by simp only [mp_copy, dAt_s (k := 4) hr3 (by first | decide | omega), dAt_s (k := 4) hr16 (by first | decide | omega), if_neg q37, if_neg q42, if_neg q47, if_neg q52, if_neg q53, cSet_s] <;> first | rfl | simp_all) rfl (by omega) c71c (by omega) (mRows.upz (ys := zipF (xk (S.1 r3)) (comF r16 r3 (S.1 r3).length (S.1 r3) S.2.1) (S.1 r3).length) HR zipF_len (by omega) (by omega) (by omega) ⟨by omega, by omega⟩ ⟨by omega, by omega⟩ (by omega) ((c71d (28) (by omega)).trans e66) (fun q hq hne => (if_neg hne).trans (GK_1 q hq)) ((c71d (33) (by omega)).trans ((f67 (33) (by omega)).trans ((c64e (33) (by omega)).trans e59))) (fun q hq hne => (if_neg hne).trans (GS_1 q hq)) ((c71d (n + 1) (by omega)).trans ((f67 (n + 1) (by omega)).trans c64c)) ((c71d (n) (by omega)).trans ((f67 (n) (by omega)).trans ((c64e (n) (by omega)).trans ((f60 (n) (by omega)).trans c57c)))) (zip_k (fun i hi => (c64d i (by omega)).trans ((kg_14 _ (by omega)).trans (congrArg (xk (S.1 r3)) (Nat.zero_add i))))) (zip_t c57d) (by omega) (fun j j1 j2 j3 j4 => (c71d (j) (by omega)).trans ((f67 (j) (by omega)).trans ((c64e (j) (by omega)).trans ((f60 (j) (by omega)).trans ((c57k (j) (by omega)).trans (c46d (j) (by omega)))))))) (fun j hj => (c71d j (by omega)).trans ((f67 j (by omega)).trans ((c64e j (by omega)).trans ((f60 j (by omega)).trans ((c57k j (by omega)).trans (c46d j (by omega)))))))
              · have q53 := (nI_eq (by omega) (by omega)).mp q53
                refine mt_aload_n dX4_copy_55 rfl rfl ?_
                refine mt_iload_n dX4_copy_56 rfl ?_
                refine mt_callV (N := mX4_did) (Rc := rX4_did) (As := [.int (nI ((S.1 r3).length))]) (st := []) dX4_copy_57 (kX4_did hl c46c) sX4_did mw_1105 mKX4 rfl c46c rfl (Nat.le_of_ble_eq_true rfl) ⟨⟨Nat.le_of_ble_eq_true rfl, Nat.le_of_ble_eq_true rfl⟩, (by first | exact Nat.le_of_ble_eq_true rfl | (simp only [rX4_isRow, rX4_isLet, rX4_room, rX4_refuse, rX4_did, rX4_coming, rX4_part, rX4_copy]; omega)), (by first | exact Nat.le_of_ble_eq_true rfl | (simp only [rX4_isRow, rX4_isLet, rX4_room, rX4_refuse, rX4_did, rX4_coming, rX4_part, rX4_copy]; omega))⟩ (fun v72 h73 n74 c75 => ?_) (fun _ _ _ hx => hx.elim)
                obtain ⟨c75a, c75b, c75c, c75d⟩ := c75
                rw [c75a, c75b]
                show mT _ _ _ _ 60 [.ref 27, .int (nI r3), .int (nI r16), .int (nI ((S.1 r3).length))] [.int (nI ((S.1 r3).length))] _ _ _ _
                refine mt_ireturn dX4_copy_60 rfl rfl (by first | exact Nat.le_of_ble_eq_true rfl | (simp only [rX4_isRow, rX4_isLet, rX4_room, rX4_refuse, rX4_did, rX4_coming, rX4_part, rX4_copy]; omega)) (by first | exact Nat.le_of_ble_eq_true rfl | (simp only [rX4_isRow, rX4_isLet, rX4_room, rX4_refuse, rX4_did, rX4_coming, rX4_part, rX4_copy]; omega)) ?_
                exact mOk.of (x := .int (nI ((S.1 r3).length))) (S' := ((S).1, S.2.1, S.2.2.1 + nI 1, S.2.2.2.1, S.2.2.2.2)) (by simp only [mp_copy, dAt_s (k := 4) hr3 (by first | decide | omega), dAt_s (k := 4) hr16 (by first | decide | omega), if_neg q37, if_neg q42, if_neg q47, if_neg q52, if_pos q53, cSet_s] <;> first | rfl | simp_all) rfl (by omega) c75c (by omega) (mRows.fr (n' := n) HR (by omega) (fun j j1 j2 j3 => (c75d (j) (by omega)).trans (c46d (j) (by omega))) (by omega)) (fun j hj => (c75d j (by omega)).trans (c46d j (by omega)))
            · have q52 := Int32.not_le.mp q52
              have q52 := (nI_ltI (by omega) (by omega)).mp q52
              refine mt_aload_n dX4_copy_45 rfl rfl ?_
              refine mt_callV (N := mX4_refuse) (Rc := rX4_refuse) (As := []) (st := []) dX4_copy_46 (kX4_refuse hl c46c) sX4_refuse mw_1115 mKX4 rfl c46c rfl (Nat.le_of_ble_eq_true rfl) ⟨⟨Nat.le_of_ble_eq_true rfl, Nat.le_of_ble_eq_true rfl⟩, (by first | exact Nat.le_of_ble_eq_true rfl | (simp only [rX4_isRow, rX4_isLet, rX4_room, rX4_refuse, rX4_did, rX4_coming, rX4_part, rX4_copy]; omega)), (by first | exact Nat.le_of_ble_eq_true rfl | (simp only [rX4_isRow, rX4_isLet, rX4_room, rX4_refuse, rX4_did, rX4_coming, rX4_part, rX4_copy]; omega))⟩ (fun v76 h77 n78 c79 => ?_) (fun _ _ _ hx => hx.elim)
              obtain ⟨c79a, c79b, c79c, c79d⟩ := c79
              rw [c79a, c79b]
              show mT _ _ _ _ 49 [.ref 27, .int (nI r3), .int (nI r16), .int (nI ((S.1 r3).length))] [.int (-9)] _ _ _ _
              refine mt_ireturn dX4_copy_49 rfl rfl (by first | exact Nat.le_of_ble_eq_true rfl | (simp only [rX4_isRow, rX4_isLet, rX4_room, rX4_refuse, rX4_did, rX4_coming, rX4_part, rX4_copy]; omega)) (by first | exact Nat.le_of_ble_eq_true rfl | (simp only [rX4_isRow, rX4_isLet, rX4_room, rX4_refuse, rX4_did, rX4_coming, rX4_part, rX4_copy]; omega)) ?_
              exact mOk.of (x := .int (-9)) (S' := ((S).1, S.2.1, S.2.2.1, S.2.2.2.1 + nI 1, S.2.2.2.2)) (by simp only [mp_copy, dAt_s (k := 4) hr3 (by first | decide | omega), dAt_s (k := 4) hr16 (by first | decide | omega), if_neg q37, if_neg q42, if_neg q47, if_pos q52, cSet_s] <;> first | rfl | simp_all) rfl (by omega) c79c (by omega) (mRows.fr (n' := n) HR (by omega) (fun j j1 j2 j3 => (c79d (j) (by omega)).trans (c46d (j) (by omega))) (by omega)) (fun j hj => (c79d j (by omega)).trans (c46d j (by omega)))
          · have q47 := (mI_eq0 (by omega)).mp q47
            exact absurd q47 (by decide)
abbrev rX4_join : Room := { frames := 2, cells := 3, slots := 1920, locals := 46 }
def mp_join (S : cS) (row : Int32) (other : Int32) : Nat × Value × cS := dAt S 4 row fun r => dAt S 4 other fun q => if rroom r < (S.1 r).length + (S.1 q).length then (0, .int (-9), cRef S) else (0, .int (nI ((S.1 r).length + (S.1 q).length)), cAct (cGiv (cSet S r (jnL (S.1 r) (xk (S.1 q)) (comF r q (S.1 q).length (S.1 q) S.2.1) (S.1 q).length)) (comG r q (S.1 q).length S.2.1)))
set_option maxRecDepth 100000 in
set_option maxHeartbeats 2000000 in
theorem kX4_join {l : Launch} (hl : l.stackTraces = false) {h : mH} {n : Nat} {S : cS} {th : Int32} {row : Int32} {other : Int32} (C : mAt h n S th) : mC l mX4_join rX4_join [.ref 27, .int row, .int other] h n (mOk (mp_join S row other) (.int (nI 0)) h n) (mNX) := by
  obtain ⟨C0, h39, kx, sx, HR⟩ := id C
  obtain ⟨⟨gk_1, G28_1, GK_1⟩, ⟨gs_1, G33_1, GS_1⟩, AK_1, AS_1, NE_1, NQ_1, LE_1⟩ := id HR
  refine mm_enter hl (by decide +kernel) rfl rfl rfl (Nat.le_of_ble_eq_true rfl) ?_
  show mT _ _ _ _ 0 [.ref 27, .int row, .int other] [] _ _ 0 0
  rcases hq2 : inN 4 row with _ | r3
  · refine mt_aload_n dX4_join_0 rfl rfl ?_
    refine mt_iload_n dX4_join_1 rfl ?_
    refine mt_callS (N := mX4_isRow) (Rc := rX4_isRow) (As := [.int row]) (st := [.ref 27]) dX4_join_2 (kX4_isRow hl) sX4_isRow mw_1083 rfl (Nat.le_of_ble_eq_true rfl) ⟨⟨Nat.le_of_ble_eq_true rfl, Nat.le_of_ble_eq_true rfl⟩, (by first | exact Nat.le_of_ble_eq_true rfl | (simp only [rX4_isRow, rX4_isLet, rX4_room, rX4_refuse, rX4_coming, rX4_both, rX4_did, rX4_join]; omega)), (by first | exact Nat.le_of_ble_eq_true rfl | (simp only [rX4_isRow, rX4_isLet, rX4_room, rX4_refuse, rX4_coming, rX4_both, rX4_did, rX4_join]; omega))⟩ (fun v4 h5 n6 c7 => ?_) (fun _ _ _ hx => hx.elim)
    obtain ⟨c7a, c7b, c7c⟩ := c7
    rw [show (inN 4 row).isSome = false from by rw [hq2]; rfl] at c7a
    rw [c7a, c7b, c7c]
    show mT _ _ _ _ 5 [.ref 27, .int row, .int other] [.int (nI 0), .ref 27] _ _ _ _
    refine mt_if_eq dX4_join_5 (tgt := 19) rfl (fun q8 => ?_) (fun q8 => ?_)
    · have q8 := (mI_eq0 (by omega)).mp q8
      refine mt_iconst dX4_join_19 (v := nI 0) rfl ?_
      refine mt_iconst dX4_join_20 (v := nI 1) rfl ?_
      refine mt_callV (N := mX4_isLet) (Rc := rX4_isLet) (As := [.int (nI 0), .int (nI 1)]) (st := []) dX4_join_21 (kX4_isLet (t := false) (f := true) hl C0) sX4_isLet mw_1092 mKX4 rfl C0 rfl (Nat.le_of_ble_eq_true rfl) ⟨⟨Nat.le_of_ble_eq_true rfl, Nat.le_of_ble_eq_true rfl⟩, (by first | exact Nat.le_of_ble_eq_true rfl | (simp only [rX4_isRow, rX4_isLet, rX4_room, rX4_refuse, rX4_coming, rX4_both, rX4_did, rX4_join]; omega)), (by first | exact Nat.le_of_ble_eq_true rfl | (simp only [rX4_isRow, rX4_isLet, rX4_room, rX4_refuse, rX4_coming, rX4_both, rX4_did, rX4_join]; omega))⟩ (fun v9 h10 n11 c12 => ?_) (fun _ _ _ hx => hx.elim)
      obtain ⟨c12a, c12b, c12c, c12d⟩ := c12
      rw [c12a, c12b]
      show mT _ _ _ _ 24 [.ref 27, .int row, .int other] [.int (nI 0)] _ _ _ _
      refine mt_if_ne dX4_join_24 (tgt := 29) rfl (fun q13 => ?_) (fun q13 => ?_)
      · have q13 := (not_congr (mI_eq0 (by omega))).mp q13
        exact absurd q13 (by decide)
      · have q13 := (mI_eq0 (by omega)).mp q13
        refine mt_iconst dX4_join_27 (v := nI 0) rfl ?_
        refine mt_ireturn dX4_join_28 rfl rfl (by first | exact Nat.le_of_ble_eq_true rfl | (simp only [rX4_isRow, rX4_isLet, rX4_room, rX4_refuse, rX4_coming, rX4_both, rX4_did, rX4_join]; omega)) (by first | exact Nat.le_of_ble_eq_true rfl | (simp only [rX4_isRow, rX4_isLet, rX4_room, rX4_refuse, rX4_coming, rX4_both, rX4_did, rX4_join]; omega)) ?_
        exact mOk.no (k := 1) (S' := S) (by simp only [mp_join, dAt_n (k := 4) (x := row) hq2, if_pos q8, if_pos q13]) (by decide) rfl (by omega) c12c (by omega) (mRows.fr (n' := n) HR (by omega) (fun j j1 j2 j3 => c12d (j) (by omega)) (by omega)) (fun j hj => c12d j (by omega))
    · have q8 := (not_congr (mI_eq0 (by omega))).mp q8
      exact absurd q8 (by decide)
  · obtain ⟨hr3, rfl⟩ := inN_of hq2 (by first | decide | omega)
    obtain ⟨⟨ka_14, kb_14, kc_14, kd_14⟩, kf_14, ke_14, kg_14⟩ := AK_1 r3 hr3
    obtain ⟨⟨sa_14, sb_14, sc_14, sd_14⟩, sf_14, se_14, sg_14⟩ := AS_1 r3 hr3
    have kn_14 := NE_1 r3 r3 hr3 hr3
    have kl_14 := LE_1 r3 hr3
    have km_14 := rroom_le (r := r3)
    rcases hq15 : inN 4 other with _ | r16
    · refine mt_aload_n dX4_join_0 rfl rfl ?_
      refine mt_iload_n dX4_join_1 rfl ?_
      refine mt_callS (N := mX4_isRow) (Rc := rX4_isRow) (As := [.int (nI r3)]) (st := [.ref 27]) dX4_join_2 (kX4_isRow hl) sX4_isRow mw_1083 rfl (Nat.le_of_ble_eq_true rfl) ⟨⟨Nat.le_of_ble_eq_true rfl, Nat.le_of_ble_eq_true rfl⟩, (by first | exact Nat.le_of_ble_eq_true rfl | (simp only [rX4_isRow, rX4_isLet, rX4_room, rX4_refuse, rX4_coming, rX4_both, rX4_did, rX4_join]; omega)), (by first | exact Nat.le_of_ble_eq_true rfl | (simp only [rX4_isRow, rX4_isLet, rX4_room, rX4_refuse, rX4_coming, rX4_both, rX4_did, rX4_join]; omega))⟩ (fun v17 h18 n19 c20 => ?_) (fun _ _ _ hx => hx.elim)
      obtain ⟨c20a, c20b, c20c⟩ := c20
      rw [show (inN 4 (nI r3)).isSome = true from by rw [inN_some hr3 (by decide)]; rfl] at c20a
      rw [c20a, c20b, c20c]
      show mT _ _ _ _ 5 [.ref 27, .int (nI r3), .int other] [.int (nI 1), .ref 27] _ _ _ _
      refine mt_if_eq dX4_join_5 (tgt := 19) rfl (fun q21 => ?_) (fun q21 => ?_)
      · have q21 := (mI_eq0 (by omega)).mp q21
        exact absurd q21 (by decide)
      · have q21 := (not_congr (mI_eq0 (by omega))).mp q21
        refine mt_iload_n dX4_join_8 rfl ?_
        refine mt_callS (N := mX4_isRow) (Rc := rX4_isRow) (As := [.int other]) (st := [.ref 27]) dX4_join_9 (kX4_isRow hl) sX4_isRow mw_1083 rfl (Nat.le_of_ble_eq_true rfl) ⟨⟨Nat.le_of_ble_eq_true rfl, Nat.le_of_ble_eq_true rfl⟩, (by first | exact Nat.le_of_ble_eq_true rfl | (simp only [rX4_isRow, rX4_isLet, rX4_room, rX4_refuse, rX4_coming, rX4_both, rX4_did, rX4_join]; omega)), (by first | exact Nat.le_of_ble_eq_true rfl | (simp only [rX4_isRow, rX4_isLet, rX4_room, rX4_refuse, rX4_coming, rX4_both, rX4_did, rX4_join]; omega))⟩ (fun v22 h23 n24 c25 => ?_) (fun _ _ _ hx => hx.elim)
        obtain ⟨c25a, c25b, c25c⟩ := c25
        rw [show (inN 4 other).isSome = false from by rw [hq15]; rfl] at c25a
        rw [c25a, c25b, c25c]
        show mT _ _ _ _ 12 [.ref 27, .int (nI r3), .int other] [.int (nI 0), .ref 27] _ _ _ _
        refine mt_if_eq dX4_join_12 (tgt := 19) rfl (fun q26 => ?_) (fun q26 => ?_)
        · have q26 := (mI_eq0 (by omega)).mp q26
          refine mt_iconst dX4_join_19 (v := nI 0) rfl ?_
          refine mt_iconst dX4_join_20 (v := nI 1) rfl ?_
          refine mt_callV (N := mX4_isLet) (Rc := rX4_isLet) (As := [.int (nI 0), .int (nI 1)]) (st := []) dX4_join_21 (kX4_isLet (t := false) (f := true) hl C0) sX4_isLet mw_1092 mKX4 rfl C0 rfl (Nat.le_of_ble_eq_true rfl) ⟨⟨Nat.le_of_ble_eq_true rfl, Nat.le_of_ble_eq_true rfl⟩, (by first | exact Nat.le_of_ble_eq_true rfl | (simp only [rX4_isRow, rX4_isLet, rX4_room, rX4_refuse, rX4_coming, rX4_both, rX4_did, rX4_join]; omega)), (by first | exact Nat.le_of_ble_eq_true rfl | (simp only [rX4_isRow, rX4_isLet, rX4_room, rX4_refuse, rX4_coming, rX4_both, rX4_did, rX4_join]; omega))⟩ (fun v27 h28 n29 c30 => ?_) (fun _ _ _ hx => hx.elim)
          obtain ⟨c30a, c30b, c30c, c30d⟩ := c30
          rw [c30a, c30b]
          show mT _ _ _ _ 24 [.ref 27, .int (nI r3), .int other] [.int (nI 0)] _ _ _ _
          refine mt_if_ne dX4_join_24 (tgt := 29) rfl (fun q31 => ?_) (fun q31 => ?_)
          · have q31 := (not_congr (mI_eq0 (by omega))).mp q31
            exact absurd q31 (by decide)
          · have q31 := (mI_eq0 (by omega)).mp q31
            refine mt_iconst dX4_join_27 (v := nI 0) rfl ?_
            refine mt_ireturn dX4_join_28 rfl rfl (by first | exact Nat.le_of_ble_eq_true rfl | (simp only [rX4_isRow, rX4_isLet, rX4_room, rX4_refuse, rX4_coming, rX4_both, rX4_did, rX4_join]; omega)) (by first | exact Nat.le_of_ble_eq_true rfl | (simp only [rX4_isRow, rX4_isLet, rX4_room, rX4_refuse, rX4_coming, rX4_both, rX4_did, rX4_join]; omega)) ?_
            exact mOk.no (k := 1) (S' := S) (by simp only [mp_join, dAt_s (k := 4) hr3 (by first | decide | omega), dAt_n (k := 4) (x := other) hq15, if_neg q21, if_pos q26, if_pos q31]) (by decide) rfl (by omega) c30c (by omega) (mRows.fr (n' := n) HR (by omega) (fun j j1 j2 j3 => c30d (j) (by omega)) (by omega)) (fun j hj => c30d j (by omega))
        · have q26 := (not_congr (mI_eq0 (by omega))).mp q26
          exact absurd q26 (by decide)
    · obtain ⟨hr16, rfl⟩ := inN_of hq15 (by first | decide | omega)
      obtain ⟨⟨ka_32, kb_32, kc_32, kd_32⟩, kf_32, ke_32, kg_32⟩ := AK_1 r16 hr16
      obtain ⟨⟨sa_32, sb_32, sc_32, sd_32⟩, sf_32, se_32, sg_32⟩ := AS_1 r16 hr16
      have kn_32 := NE_1 r16 r16 hr16 hr16
      have kl_32 := LE_1 r16 hr16
      have km_32 := rroom_le (r := r16)
      refine mt_aload_n dX4_join_0 rfl rfl ?_
      refine mt_iload_n dX4_join_1 rfl ?_
      refine mt_callS (N := mX4_isRow) (Rc := rX4_isRow) (As := [.int (nI r3)]) (st := [.ref 27]) dX4_join_2 (kX4_isRow hl) sX4_isRow mw_1083 rfl (Nat.le_of_ble_eq_true rfl) ⟨⟨Nat.le_of_ble_eq_true rfl, Nat.le_of_ble_eq_true rfl⟩, (by first | exact Nat.le_of_ble_eq_true rfl | (simp only [rX4_isRow, rX4_isLet, rX4_room, rX4_refuse, rX4_coming, rX4_both, rX4_did, rX4_join]; omega)), (by first | exact Nat.le_of_ble_eq_true rfl | (simp only [rX4_isRow, rX4_isLet, rX4_room, rX4_refuse, rX4_coming, rX4_both, rX4_did, rX4_join]; omega))⟩ (fun v33 h34 n35 c36 => ?_) (fun _ _ _ hx => hx.elim)
      obtain ⟨c36a, c36b, c36c⟩ := c36
      rw [show (inN 4 (nI r3)).isSome = true from by rw [inN_some hr3 (by decide)]; rfl] at c36a
      rw [c36a, c36b, c36c]
      show mT _ _ _ _ 5 [.ref 27, .int (nI r3), .int (nI r16)] [.int (nI 1), .ref 27] _ _ _ _
      refine mt_if_eq dX4_join_5 (tgt := 19) rfl (fun q37 => ?_) (fun q37 => ?_)
      · have q37 := (mI_eq0 (by omega)).mp q37
        exact absurd q37 (by decide)
      · have q37 := (not_congr (mI_eq0 (by omega))).mp q37
        refine mt_iload_n dX4_join_8 rfl ?_
        refine mt_callS (N := mX4_isRow) (Rc := rX4_isRow) (As := [.int (nI r16)]) (st := [.ref 27]) dX4_join_9 (kX4_isRow hl) sX4_isRow mw_1083 rfl (Nat.le_of_ble_eq_true rfl) ⟨⟨Nat.le_of_ble_eq_true rfl, Nat.le_of_ble_eq_true rfl⟩, (by first | exact Nat.le_of_ble_eq_true rfl | (simp only [rX4_isRow, rX4_isLet, rX4_room, rX4_refuse, rX4_coming, rX4_both, rX4_did, rX4_join]; omega)), (by first | exact Nat.le_of_ble_eq_true rfl | (simp only [rX4_isRow, rX4_isLet, rX4_room, rX4_refuse, rX4_coming, rX4_both, rX4_did, rX4_join]; omega))⟩ (fun v38 h39 n40 c41 => ?_) (fun _ _ _ hx => hx.elim)
        obtain ⟨c41a, c41b, c41c⟩ := c41
        rw [show (inN 4 (nI r16)).isSome = true from by rw [inN_some hr16 (by decide)]; rfl] at c41a
        rw [c41a, c41b, c41c]
        show mT _ _ _ _ 12 [.ref 27, .int (nI r3), .int (nI r16)] [.int (nI 1), .ref 27] _ _ _ _
        refine mt_if_eq dX4_join_12 (tgt := 19) rfl (fun q42 => ?_) (fun q42 => ?_)
        · have q42 := (mI_eq0 (by omega)).mp q42
          exact absurd q42 (by decide)
        · have q42 := (not_congr (mI_eq0 (by omega))).mp q42
          refine mt_iconst dX4_join_15 (v := nI 1) rfl ?_
          refine mt_goto dX4_join_16 (tgt := 20) rfl ?_
          refine mt_iconst dX4_join_20 (v := nI 1) rfl ?_
          refine mt_callV (N := mX4_isLet) (Rc := rX4_isLet) (As := [.int (nI 1), .int (nI 1)]) (st := []) dX4_join_21 (kX4_isLet (t := true) (f := true) hl C0) sX4_isLet mw_1092 mKX4 rfl C0 rfl (Nat.le_of_ble_eq_true rfl) ⟨⟨Nat.le_of_ble_eq_true rfl, Nat.le_of_ble_eq_true rfl⟩, (by first | exact Nat.le_of_ble_eq_true rfl | (simp only [rX4_isRow, rX4_isLet, rX4_room, rX4_refuse, rX4_coming, rX4_both, rX4_did, rX4_join]; omega)), (by first | exact Nat.le_of_ble_eq_true rfl | (simp only [rX4_isRow, rX4_isLet, rX4_room, rX4_refuse, rX4_coming, rX4_both, rX4_did, rX4_join]; omega))⟩ (fun v43 h44 n45 c46 => ?_) (fun _ _ _ hx => hx.elim)
          obtain ⟨c46a, c46b, c46c, c46d⟩ := c46
          rw [c46a, c46b]
          show mT _ _ _ _ 24 [.ref 27, .int (nI r3), .int (nI r16)] [.int (nI 1)] _ _ _ _
          refine mt_if_ne dX4_join_24 (tgt := 29) rfl (fun q47 => ?_) (fun q47 => ?_)
          · have q47 := (not_congr (mI_eq0 (by omega))).mp q47
            refine mt_aload_n dX4_join_29 rfl rfl ?_
            refine mt_getfield mKX4 (i := 0) (by decide) mw_1053 dX4_join_30 c46c rfl ?_
            refine mt_iload_n dX4_join_33 rfl ?_
            refine mp_aaload dX4_join_34 ((c46d (28) (by omega)).trans G28_1) (fun _ => rfl) rfl rfl (by omega) (by omega) (v := .ref (kx r3)) (by rw [GK_1 _ (by omega)]; rfl) ?_
            refine mt_alen dX4_join_35 ((c46d (kx r3) (by omega)).trans ke_14) (by decide) ?_
            refine mt_aload_n dX4_join_36 rfl rfl ?_
            refine mt_getfield mKX4 (i := 0) (by decide) mw_1053 dX4_join_37 c46c rfl ?_
            refine mt_iload_n dX4_join_40 rfl ?_
            refine mp_aaload dX4_join_41 ((c46d (28) (by omega)).trans G28_1) (fun _ => rfl) rfl rfl (by omega) (by omega) (v := .ref (kx r16)) (by rw [GK_1 _ (by omega)]; rfl) ?_
            refine mt_alen dX4_join_42 ((c46d (kx r16) (by omega)).trans ke_32) (by decide) ?_
            refine mp_iadd dX4_join_43 (v := nI (((S.1 r3).length) + ((S.1 r16).length))) (nI_add _ _) ?_
            refine mt_iload_n dX4_join_44 rfl ?_
            refine mt_callS (N := mX4_room) (Rc := rX4_room) (As := [.int (nI r3)]) (st := [.int (nI (((S.1 r3).length) + ((S.1 r16).length)))]) dX4_join_45 (kX4_room hl (by omega)) sX4_room mw_1089 rfl (Nat.le_of_ble_eq_true rfl) ⟨⟨Nat.le_of_ble_eq_true rfl, Nat.le_of_ble_eq_true rfl⟩, (by first | exact Nat.le_of_ble_eq_true rfl | (simp only [rX4_isRow, rX4_isLet, rX4_room, rX4_refuse, rX4_coming, rX4_both, rX4_did, rX4_join]; omega)), (by first | exact Nat.le_of_ble_eq_true rfl | (simp only [rX4_isRow, rX4_isLet, rX4_room, rX4_refuse, rX4_coming, rX4_both, rX4_did, rX4_join]; omega))⟩ (fun v48 h49 n50 c51 => ?_) (fun _ _ _ hx => hx.elim)
            obtain ⟨c51a, c51b, c51c⟩ := c51
            rw [c51a, c51b, c51c]
            show mT _ _ _ _ 48 [.ref 27, .int (nI r3), .int (nI r16)] [.int (nI (rroom r3)), .int (nI (((S.1 r3).length) + ((S.1 r16).length)))] _ _ _ _
            refine mt_icmp_le dX4_join_48 (tgt := 56) rfl (fun q52 => ?_) (fun q52 => ?_)
            · have q52 := Int32.not_lt.mpr q52
              have q52 := (not_congr (nI_ltI (by omega) (by omega))).mp q52
              refine mt_aload_n dX4_join_56 rfl rfl ?_
              refine mt_getfield mKX4 (i := 1) (by decide) mw_1054 dX4_join_57 c46c rfl ?_
              refine mt_iload_n dX4_join_60 rfl ?_
              refine mt_aload_n dX4_join_61 rfl rfl ?_
              refine mt_getfield mKX4 (i := 1) (by decide) mw_1054 dX4_join_62 c46c rfl ?_
              refine mt_iload_n dX4_join_65 rfl ?_
              refine mp_aaload dX4_join_66 ((c46d (33) (by omega)).trans G33_1) (fun _ => rfl) rfl rfl (by omega) (by omega) (v := .ref (sx r3)) (by rw [GS_1 _ (by omega)]; rfl) ?_
              refine mt_aload_n dX4_join_67 rfl rfl ?_
              refine mt_iload_n dX4_join_68 rfl ?_
              refine mt_iload_n dX4_join_69 rfl ?_
              refine mt_callV (N := mX4_coming) (Rc := rX4_coming) (As := [.int (nI r16), .int (nI r3)]) (st := [.ref (sx r3), .int (nI r3), .ref 33]) dX4_join_70 (kX4_coming hl c46c (mRows.fr (n' := n) HR (by omega) (fun j j1 j2 j3 => c46d (j) (by omega)) (by omega)) (by omega) (by omega) (by omega)) sX4_coming mw_1199 mKX4 rfl c46c rfl (Nat.le_of_ble_eq_true rfl) ⟨⟨Nat.le_of_ble_eq_true rfl, Nat.le_of_ble_eq_true rfl⟩, (by first | exact Nat.le_of_ble_eq_true rfl | (simp only [rX4_isRow, rX4_isLet, rX4_room, rX4_refuse, rX4_coming, rX4_both, rX4_did, rX4_join]; omega)), (by first | exact Nat.le_of_ble_eq_true rfl | (simp only [rX4_isRow, rX4_isLet, rX4_room, rX4_refuse, rX4_coming, rX4_both, rX4_did, rX4_join]; omega))⟩ (fun v53 h54 n55 c56 => ?_) (fun _ _ _ hx => hx.elim)
              obtain ⟨c56a, c56b, ⟨c56g, c56c, c56d⟩, c56f, c56e⟩ := c56
              rw [c56a, c56b]
              have c56k : ∀ j, j ≠ n ∧ j ≠ 27 → h54 j = h44 j := fun j hj => c56e j hj.1 hj.2
              show mT _ _ _ _ 73 [.ref 27, .int (nI r3), .int (nI r16)] [.ref n, .ref (sx r3), .int (nI r3), .ref 33] _ _ _ _
              refine mt_callS (N := mX4_both) (Rc := rX4_both) (As := [.ref (sx r3), .ref n]) (st := [.int (nI r3), .ref 33]) dX4_join_73 (kX4_both hl ((c56k (sx r3) (by omega)).trans ((c46d (sx r3) (by omega)).trans se_14)) c56c (by omega) (by omega) (by omega)) sX4_both mw_1119 rfl (Nat.le_of_ble_eq_true rfl) ⟨⟨Nat.le_of_ble_eq_true rfl, Nat.le_of_ble_eq_true rfl⟩, (by first | exact Nat.le_of_ble_eq_true rfl | (simp only [rX4_isRow, rX4_isLet, rX4_room, rX4_refuse, rX4_coming, rX4_both, rX4_did, rX4_join]; omega)), (by first | exact Nat.le_of_ble_eq_true rfl | (simp only [rX4_isRow, rX4_isLet, rX4_room, rX4_refuse, rX4_coming, rX4_both, rX4_did, rX4_join]; omega))⟩ (fun v57 h58 n59 c60 => ?_) (fun _ _ _ hx => hx.elim)
              obtain ⟨c60a, c60b, ⟨c60g, c60c, c60d⟩, c60e⟩ := c60
              rw [c60a, c60b]
              show mT _ _ _ _ 76 [.ref 27, .int (nI r3), .int (nI r16)] [.ref (n + 1), .int (nI r3), .ref 33] _ _ _ _
              refine mp_aastoreA dX4_join_76 ((c60e (33) (by omega)).trans ((c56k (33) (by omega)).trans ((c46d (33) (by omega)).trans G33_1))) c60c rfl (by omega) (by omega) (fun h61 e62 f63 => ?_)
              refine mt_aload_n dX4_join_77 rfl rfl ?_
              refine mt_getfield mKX4 (i := 0) (by decide) mw_1053 dX4_join_78 ((f63 (27) (by omega)).trans ((c60e (27) (by omega)).trans c56f)) rfl ?_
              refine mt_iload_n dX4_join_81 rfl ?_
              refine mt_aload_n dX4_join_82 rfl rfl ?_
              refine mt_getfield mKX4 (i := 0) (by decide) mw_1053 dX4_join_83 ((f63 (27) (by omega)).trans ((c60e (27) (by omega)).trans c56f)) rfl ?_
              refine mt_iload_n dX4_join_86 rfl ?_
              refine mp_aaload dX4_join_87 ((f63 (28) (by omega)).trans ((c60e (28) (by omega)).trans ((c56k (28) (by omega)).trans ((c46d (28) (by omega)).trans G28_1)))) (fun _ => rfl) rfl rfl (by omega) (by omega) (v := .ref (kx r3)) (by rw [GK_1 _ (by omega)]; rfl) ?_
              refine mt_aload_n dX4_join_88 rfl rfl ?_
              refine mt_getfield mKX4 (i := 0) (by decide) mw_1053 dX4_join_89 ((f63 (27) (by omega)).trans ((c60e (27) (by omega)).trans c56f)) rfl ?_
              refine mt_iload_n dX4_join_92 rfl ?_
              refine mp_aaload dX4_join_93 ((f63 (28) (by omega)).trans ((c60e (28) (by omega)).trans ((c56k (28) (by omega)).trans ((c46d (28) (by omega)).trans G28_1)))) (fun _ => rfl) rfl rfl (by omega) (by omega) (v := .ref (kx r16)) (by rw [GK_1 _ (by omega)]; rfl) ?_
              refine mt_callS (N := mX4_both) (Rc := rX4_both) (As := [.ref (kx r3), .ref (kx r16)]) (st := [.int (nI r3), .ref 28]) dX4_join_94 (kX4_both hl ((f63 (kx r3) (by omega)).trans ((c60e (kx r3) (by omega)).trans ((c56k (kx r3) (by omega)).trans ((c46d (kx r3) (by omega)).trans ke_14)))) ((f63 (kx r16) (by omega)).trans ((c60e (kx r16) (by omega)).trans ((c56k (kx r16) (by omega)).trans ((c46d (kx r16) (by omega)).trans ke_32)))) (by omega) (by omega) (by omega)) sX4_both mw_1119 rfl (Nat.le_of_ble_eq_true rfl) ⟨⟨Nat.le_of_ble_eq_true rfl, Nat.le_of_ble_eq_true rfl⟩, (by first | exact Nat.le_of_ble_eq_true rfl | (simp only [rX4_isRow, rX4_isLet, rX4_room, rX4_refuse, rX4_coming, rX4_both, rX4_did, rX4_join]; omega)), (by first | exact Nat.le_of_ble_eq_true rfl | (simp only [rX4_isRow, rX4_isLet, rX4_room, rX4_refuse, rX4_coming, rX4_both, rX4_did, rX4_join]; omega))⟩ (fun v64 h65 n66 c67 => ?_) (fun _ _ _ hx => hx.elim)
              obtain ⟨c67a, c67b, ⟨c67g, c67c, c67d⟩, c67e⟩ := c67
              rw [c67a, c67b]
              show mT _ _ _ _ 97 [.ref 27, .int (nI r3), .int (nI r16)] [.ref (n + 2), .int (nI r3), .ref 28] _ _ _ _
              refine mp_aastoreA dX4_join_97 ((c67e (28) (by omega)).trans ((f63 (28) (by omega)).trans ((c60e (28) (by omega)).trans ((c56k (28) (by omega)).trans ((c46d (28) (by omega)).trans G28_1))))) c67c rfl (by omega) (by omega) (fun h68 e69 f70 => ?_)
              refine mt_aload_n dX4_join_98 rfl rfl ?_
              refine mt_aload_n dX4_join_99 rfl rfl ?_
              refine mt_getfield mKX4 (i := 0) (by decide) mw_1053 dX4_join_100 ((f70 (27) (by omega)).trans ((c67e (27) (by omega)).trans ((f63 (27) (by omega)).trans ((c60e (27) (by omega)).trans c56f)))) rfl ?_
              refine mt_iload_n dX4_join_103 rfl ?_
              refine mp_aaload dX4_join_104 e69 (fun _ => rfl) rfl rfl (by omega) (by omega) (v := .ref (n + 2)) va_rf_up ?_
              refine mt_alen dX4_join_105 ((f70 (n + 2) (by omega)).trans c67c) (by decide) ?_
              refine mt_callV (N := mX4_did) (Rc := rX4_did) (As := [.int (nI ((S.1 r3).length + (S.1 r16).length))]) (st := []) dX4_join_106 (kX4_did hl ((f70 (27) (by omega)).trans ((c67e (27) (by omega)).trans ((f63 (27) (by omega)).trans ((c60e (27) (by omega)).trans c56f))))) sX4_did mw_1105 mKX4 rfl ((f70 (27) (by omega)).trans ((c67e (27) (by omega)).trans ((f63 (27) (by omega)).trans ((c60e (27) (by omega)).trans c56f)))) rfl (Nat.le_of_ble_eq_true rfl) ⟨⟨Nat.le_of_ble_eq_true rfl, Nat.le_of_ble_eq_true rfl⟩, (by first | exact Nat.le_of_ble_eq_true rfl | (simp only [rX4_isRow, rX4_isLet, rX4_room, rX4_refuse, rX4_coming, rX4_both, rX4_did, rX4_join]; omega)), (by first | exact Nat.le_of_ble_eq_true rfl | (simp only [rX4_isRow, rX4_isLet, rX4_room, rX4_refuse, rX4_coming, rX4_both, rX4_did, rX4_join]; omega))⟩ (fun v71 h72 n73 c74 => ?_) (fun _ _ _ hx => hx.elim)
              obtain ⟨c74a, c74b, c74c, c74d⟩ := c74
              rw [c74a, c74b]
              show mT _ _ _ _ 109 [.ref 27, .int (nI r3), .int (nI r16)] [.int (nI ((S.1 r3).length + (S.1 r16).length))] _ _ _ _
              refine mt_ireturn dX4_join_109 rfl rfl (by first | exact Nat.le_of_ble_eq_true rfl | (simp only [rX4_isRow, rX4_isLet, rX4_room, rX4_refuse, rX4_coming, rX4_both, rX4_did, rX4_join]; omega)) (by first | exact Nat.le_of_ble_eq_true rfl | (simp only [rX4_isRow, rX4_isLet, rX4_room, rX4_refuse, rX4_coming, rX4_both, rX4_did, rX4_join]; omega)) ?_
              exact mOk.ofE (x := .int (nI ((S.1 r3).length + (S.1 r16).length))) (S' := ((cSet S r3 (jnL (S.1 r3) (xk (S.1 r16)) (comF r3 r16 (S.1 r16).length (S.1 r16) S.2.1) (S.1 r16).length)).1, comG r3 r16 (S.1 r16).length S.2.1, S.2.2.1 + nI 1, S.2.2.2.1, S.2.2.2.2)) (by simp only [mp_join, dAt_s (k := 4) hr3 (by first | decide | omega), dAt_s (k := 4) hr16 (by first | decide | omega), if_neg q37, if_neg q42, if_neg q47, if_neg q52, cSet_s] <;> first | rfl | simp_all) rfl (by omega) c74c (by omega) (mRows.upz (ys := jnL (S.1 r3) (xk (S.1 r16)) (comF r3 r16 (S.1 r16).length (S.1 r16) S.2.1) (S.1 r16).length) HR jnL_len (by omega) (by omega) (by omega) ⟨by omega, by omega⟩ ⟨by omega, by omega⟩ (by omega) ((c74d (28) (by omega)).trans e69) (fun q hq hne => (if_neg hne).trans (GK_1 q hq)) ((c74d (33) (by omega)).trans ((f70 (33) (by omega)).trans ((c67e (33) (by omega)).trans e62))) (fun q hq hne => (if_neg hne).trans (GS_1 q hq)) ((c74d (n + 2) (by omega)).trans ((f70 (n + 2) (by omega)).trans c67c)) ((c74d (n + 1) (by omega)).trans ((f70 (n + 1) (by omega)).trans ((c67e (n + 1) (by omega)).trans ((f63 (n + 1) (by omega)).trans c60c)))) (jn_k c67d kg_14 kg_32) (jn_t c60d sg_14 c56d) (by omega) (fun j j1 j2 j3 j4 => (c74d (j) (by omega)).trans ((f70 (j) (by omega)).trans ((c67e (j) (by omega)).trans ((f63 (j) (by omega)).trans ((c60e (j) (by omega)).trans ((c56k (j) (by omega)).trans (c46d (j) (by omega))))))))) (fun j hj => (c74d j (by omega)).trans ((f70 j (by omega)).trans ((c67e j (by omega)).trans ((f63 j (by omega)).trans ((c60e j (by omega)).trans ((c56k j (by omega)).trans (c46d j (by omega))))))))
            · have q52 := Int32.not_le.mp q52
              have q52 := (nI_ltI (by omega) (by omega)).mp q52
              refine mt_aload_n dX4_join_51 rfl rfl ?_
              refine mt_callV (N := mX4_refuse) (Rc := rX4_refuse) (As := []) (st := []) dX4_join_52 (kX4_refuse hl c46c) sX4_refuse mw_1115 mKX4 rfl c46c rfl (Nat.le_of_ble_eq_true rfl) ⟨⟨Nat.le_of_ble_eq_true rfl, Nat.le_of_ble_eq_true rfl⟩, (by first | exact Nat.le_of_ble_eq_true rfl | (simp only [rX4_isRow, rX4_isLet, rX4_room, rX4_refuse, rX4_coming, rX4_both, rX4_did, rX4_join]; omega)), (by first | exact Nat.le_of_ble_eq_true rfl | (simp only [rX4_isRow, rX4_isLet, rX4_room, rX4_refuse, rX4_coming, rX4_both, rX4_did, rX4_join]; omega))⟩ (fun v75 h76 n77 c78 => ?_) (fun _ _ _ hx => hx.elim)
              obtain ⟨c78a, c78b, c78c, c78d⟩ := c78
              rw [c78a, c78b]
              show mT _ _ _ _ 55 [.ref 27, .int (nI r3), .int (nI r16)] [.int (-9)] _ _ _ _
              refine mt_ireturn dX4_join_55 rfl rfl (by first | exact Nat.le_of_ble_eq_true rfl | (simp only [rX4_isRow, rX4_isLet, rX4_room, rX4_refuse, rX4_coming, rX4_both, rX4_did, rX4_join]; omega)) (by first | exact Nat.le_of_ble_eq_true rfl | (simp only [rX4_isRow, rX4_isLet, rX4_room, rX4_refuse, rX4_coming, rX4_both, rX4_did, rX4_join]; omega)) ?_
              exact mOk.of (x := .int (-9)) (S' := ((S).1, S.2.1, S.2.2.1, S.2.2.2.1 + nI 1, S.2.2.2.2)) (by simp only [mp_join, dAt_s (k := 4) hr3 (by first | decide | omega), dAt_s (k := 4) hr16 (by first | decide | omega), if_neg q37, if_neg q42, if_neg q47, if_pos q52, cSet_s] <;> first | rfl | simp_all) rfl (by omega) c78c (by omega) (mRows.fr (n' := n) HR (by omega) (fun j j1 j2 j3 => (c78d (j) (by omega)).trans (c46d (j) (by omega))) (by omega)) (fun j hj => (c78d j (by omega)).trans (c46d j (by omega)))
          · have q47 := (mI_eq0 (by omega)).mp q47
            exact absurd q47 (by decide)
set_option maxRecDepth 100000 in
set_option maxHeartbeats 2000000 in
theorem tX4_sort_44 {l : Launch} {R : Room} {K : mK} {cc sc : Nat} {h : mH} {n : Nat} {S : cS} {kx sx : Nat → Nat} {g ac rf kn th : Int32} {r : Nat} {A B m : Nat} {xs : List mIt} {f1 f2 : Nat → Int32} {r9 : Int32} (C0 : h 27 = .inr (.inr (6, [.ref 28, .ref 33, .int g, .int ac, .int rf, .int kn, .int th]))) (HR : mRows h n S kx sx) (h39 : 39 ≤ n) (hr : r < 4) (eA : h A = .inl (0, m, f1)) (eB : h B = .inl (0, m, f2)) (hA : ∀ i, i < m → f1 i = xk xs i) (hB : ∀ i, i < m → f2 i = xt xs i) (hm : (S.1 r).length = m) (kk0 : ∀ (acc : Int32) (i : Nat), (acc = r9) → mT l mX4_sort R K 99 [.ref 27, .int (nI r), .ref A, .ref B, .int acc, .int (nI i)] [] h n cc sc) : ∀ (N0 : Nat) (i : Nat) (acc : Int32), (m - i) < N0 → (mlp (srS xs (S.1 r)) (m - i) i acc = r9) → (i ≤ m) → mT l mX4_sort R K 44 [.ref 27, .int (nI r), .ref A, .ref B, .int acc, .int (nI i)] [] h n cc sc := by
  intro N0
  induction N0 with
  | zero => intro i acc hm; exact absurd hm (Nat.not_lt_zero _)
  | succ N0 ih =>
    intro i acc hm hr9 hi
    obtain ⟨⟨gk_1, G28_1, GK_1⟩, ⟨gs_1, G33_1, GS_1⟩, AK_1, AS_1, NE_1, NQ_1, LE_1⟩ := id HR
    obtain ⟨⟨ka_2, kb_2, kc_2, kd_2⟩, kf_2, ke_2, kg_2⟩ := AK_1 r hr
    obtain ⟨⟨sa_2, sb_2, sc_2, sd_2⟩, sf_2, se_2, sg_2⟩ := AS_1 r hr
    have kn_2 := NE_1 r r hr hr
    have kl_2 := LE_1 r hr
    have km_2 := rroom_le (r := r)
    refine mt_iload dX4_sort_44 rfl ?_
    refine mt_aload_n dX4_sort_46 rfl rfl ?_
    refine mt_alen dX4_sort_47 eA (by decide) ?_
    refine mt_icmp_ge dX4_sort_48 (tgt := 99) rfl (fun q3 => ?_) (fun q3 => ?_)
    · have q3 := Int32.not_lt.mpr q3
      have q3 := (not_congr (nI_ltI (by omega) (by omega))).mp q3
      exact kk0 acc i ((mlp_end (f := srS xs (S.1 r)) (by omega)).symm.trans hr9)
    · have q3 := Int32.not_le.mp q3
      have q3 := (nI_ltI (by omega) (by omega)).mp q3
      refine mt_iload dX4_sort_51 rfl ?_
      refine mt_aload_n dX4_sort_53 rfl rfl ?_
      refine mt_iload dX4_sort_54 rfl ?_
      refine mp_iaload dX4_sort_56 eA rfl (by omega) (by omega) (v := xk xs i) (hA _ (by omega)) ?_
      refine mt_aload_n dX4_sort_57 rfl rfl ?_
      refine mt_getfield mKX4 (i := 0) (by decide) mw_1053 dX4_sort_58 C0 rfl ?_
      refine mt_iload_n dX4_sort_61 rfl ?_
      refine mp_aaload dX4_sort_62 G28_1 (fun _ => rfl) rfl rfl (by omega) (by omega) (v := .ref (kx r)) (by rw [GK_1 _ (by omega)]; rfl) ?_
      refine mt_iload dX4_sort_63 rfl ?_
      refine mp_iaload dX4_sort_65 ke_2 rfl (by omega) (by omega) (v := xk (S.1 r) i) (kg_2 _ (by omega)) ?_
      refine mt_icmp_ne dX4_sort_66 (tgt := 89) rfl (fun q4 => ?_) (fun q4 => ?_)
      · refine mt_iconst dX4_sort_89 (v := nI 1) rfl ?_
        refine mp_iadd dX4_sort_90 (v := acc + (nI 1)) rfl ?_
        refine mp_istore dX4_sort_91 (ls' := [.ref 27, .int (nI r), .ref A, .ref B, .int (acc + (nI 1)), .int (nI i)]) rfl (by decide) rfl ?_
        refine mp_iinc dX4_sort_93 rfl (v := nI (i + 1)) mI_inc (ls' := [.ref 27, .int (nI r), .ref A, .ref B, .int (acc + (nI 1)), .int (nI (i + 1))]) rfl (by decide) rfl ?_
        refine mt_goto dX4_sort_96 (tgt := 44) rfl ?_
        exact ih (i + 1) (acc + (nI 1)) (by omega) ((mlp_go (f := srS xs (S.1 r)) (by omega) (by simp [srS, q4])).symm.trans hr9) (by omega)
      · refine mt_aload_n dX4_sort_69 rfl rfl ?_
        refine mt_iload dX4_sort_70 rfl ?_
        refine mp_iaload dX4_sort_72 eB rfl (by omega) (by omega) (v := xt xs i) (hB _ (by omega)) ?_
        refine mt_aload_n dX4_sort_73 rfl rfl ?_
        refine mt_getfield mKX4 (i := 1) (by decide) mw_1054 dX4_sort_74 C0 rfl ?_
        refine mt_iload_n dX4_sort_77 rfl ?_
        refine mp_aaload dX4_sort_78 G33_1 (fun _ => rfl) rfl rfl (by omega) (by omega) (v := .ref (sx r)) (by rw [GS_1 _ (by omega)]; rfl) ?_
        refine mt_iload dX4_sort_79 rfl ?_
        refine mp_iaload dX4_sort_81 se_2 rfl (by omega) (by omega) (v := xt (S.1 r) i) (sg_2 _ (by omega)) ?_
        refine mt_icmp_ne dX4_sort_82 (tgt := 89) rfl (fun q5 => ?_) (fun q5 => ?_)
        · refine mt_iconst dX4_sort_89 (v := nI 1) rfl ?_
          refine mp_iadd dX4_sort_90 (v := acc + (nI 1)) rfl ?_
          refine mp_istore dX4_sort_91 (ls' := [.ref 27, .int (nI r), .ref A, .ref B, .int (acc + (nI 1)), .int (nI i)]) rfl (by decide) rfl ?_
          refine mp_iinc dX4_sort_93 rfl (v := nI (i + 1)) mI_inc (ls' := [.ref 27, .int (nI r), .ref A, .ref B, .int (acc + (nI 1)), .int (nI (i + 1))]) rfl (by decide) rfl ?_
          refine mt_goto dX4_sort_96 (tgt := 44) rfl ?_
          exact ih (i + 1) (acc + (nI 1)) (by omega) ((mlp_go (f := srS xs (S.1 r)) (by omega) (by simp [srS, q4, q5])).symm.trans hr9) (by omega)
        · refine mt_iconst dX4_sort_85 (v := nI 0) rfl ?_
          refine mt_goto dX4_sort_86 (tgt := 90) rfl ?_
          refine mp_iadd dX4_sort_90 (v := acc + (nI 0)) rfl ?_
          refine mp_istore dX4_sort_91 (ls' := [.ref 27, .int (nI r), .ref A, .ref B, .int (acc + (nI 0)), .int (nI i)]) rfl (by decide) rfl ?_
          refine mp_iinc dX4_sort_93 rfl (v := nI (i + 1)) mI_inc (ls' := [.ref 27, .int (nI r), .ref A, .ref B, .int (acc + (nI 0)), .int (nI (i + 1))]) rfl (by decide) rfl ?_
          refine mt_goto dX4_sort_96 (tgt := 44) rfl ?_
          exact ih (i + 1) (acc + (nI 0)) (by omega) ((mlp_go (f := srS xs (S.1 r)) (by omega) (by simp [srS, q4, q5])).symm.trans hr9) (by omega)
abbrev rX4_sort : Room := { frames := 2, cells := 3, slots := 960, locals := 47 }
def mp_sort (S : cS) (row : Int32) : Nat × Value × cS := dAt S 4 row fun r => (0, .int (mlp (srS (S.1 r) (chF (S.1 r) (scat (S.1 r)) (S.1 r).length)) ((S.1 r).length - 0) 0 (nI 0)), cAct (cSet S r (chF (S.1 r) (scat (S.1 r)) (S.1 r).length)))
set_option maxRecDepth 100000 in
set_option maxHeartbeats 2000000 in
theorem kX4_sort {l : Launch} (hl : l.stackTraces = false) {h : mH} {n : Nat} {S : cS} {th : Int32} {row : Int32} (C : mAt h n S th) : mC l mX4_sort rX4_sort [.ref 27, .int row] h n (mOk (mp_sort S row) (.int (nI 0)) h n) (mNX) := by
  obtain ⟨C0, h39, kx, sx, HR⟩ := id C
  obtain ⟨⟨gk_1, G28_1, GK_1⟩, ⟨gs_1, G33_1, GS_1⟩, AK_1, AS_1, NE_1, NQ_1, LE_1⟩ := id HR
  refine mm_enter hl (by decide +kernel) rfl rfl rfl (Nat.le_of_ble_eq_true rfl) ?_
  show mT _ _ _ _ 0 [.ref 27, .int row, .double 0, .double 0, .double 0, .double 0] [] _ _ 0 0
  rcases hq2 : inN 4 row with _ | r3
  · refine mt_aload_n dX4_sort_0 rfl rfl ?_
    refine mt_iload_n dX4_sort_1 rfl ?_
    refine mt_callS (N := mX4_isRow) (Rc := rX4_isRow) (As := [.int row]) (st := [.ref 27]) dX4_sort_2 (kX4_isRow hl) sX4_isRow mw_1083 rfl (Nat.le_of_ble_eq_true rfl) ⟨⟨Nat.le_of_ble_eq_true rfl, Nat.le_of_ble_eq_true rfl⟩, (by first | exact Nat.le_of_ble_eq_true rfl | (simp only [rX4_isRow, rX4_isLet, rX4_sorted, rX4_choose, rX4_did, rX4_sort]; omega)), (by first | exact Nat.le_of_ble_eq_true rfl | (simp only [rX4_isRow, rX4_isLet, rX4_sorted, rX4_choose, rX4_did, rX4_sort]; omega))⟩ (fun v4 h5 n6 c7 => ?_) (fun _ _ _ hx => hx.elim)
    obtain ⟨c7a, c7b, c7c⟩ := c7
    rw [show (inN 4 row).isSome = false from by rw [hq2]; rfl] at c7a
    rw [c7a, c7b, c7c]
    show mT _ _ _ _ 5 [.ref 27, .int row, .double 0, .double 0, .double 0, .double 0] [.int (nI 0), .ref 27] _ _ _ _
    refine mt_iconst dX4_sort_5 (v := nI 1) rfl ?_
    refine mt_callV (N := mX4_isLet) (Rc := rX4_isLet) (As := [.int (nI 0), .int (nI 1)]) (st := []) dX4_sort_6 (kX4_isLet (t := false) (f := true) hl C0) sX4_isLet mw_1092 mKX4 rfl C0 rfl (Nat.le_of_ble_eq_true rfl) ⟨⟨Nat.le_of_ble_eq_true rfl, Nat.le_of_ble_eq_true rfl⟩, (by first | exact Nat.le_of_ble_eq_true rfl | (simp only [rX4_isRow, rX4_isLet, rX4_sorted, rX4_choose, rX4_did, rX4_sort]; omega)), (by first | exact Nat.le_of_ble_eq_true rfl | (simp only [rX4_isRow, rX4_isLet, rX4_sorted, rX4_choose, rX4_did, rX4_sort]; omega))⟩ (fun v8 h9 n10 c11 => ?_) (fun _ _ _ hx => hx.elim)
    obtain ⟨c11a, c11b, c11c, c11d⟩ := c11
    rw [c11a, c11b]
    show mT _ _ _ _ 9 [.ref 27, .int row, .double 0, .double 0, .double 0, .double 0] [.int (nI 0)] _ _ _ _
    refine mt_if_ne dX4_sort_9 (tgt := 14) rfl (fun q12 => ?_) (fun q12 => ?_)
    · have q12 := (not_congr (mI_eq0 (by omega))).mp q12
      exact absurd q12 (by decide)
    · have q12 := (mI_eq0 (by omega)).mp q12
      refine mt_iconst dX4_sort_12 (v := nI 0) rfl ?_
      refine mt_ireturn dX4_sort_13 rfl rfl (by first | exact Nat.le_of_ble_eq_true rfl | (simp only [rX4_isRow, rX4_isLet, rX4_sorted, rX4_choose, rX4_did, rX4_sort]; omega)) (by first | exact Nat.le_of_ble_eq_true rfl | (simp only [rX4_isRow, rX4_isLet, rX4_sorted, rX4_choose, rX4_did, rX4_sort]; omega)) ?_
      exact mOk.no (k := 1) (S' := S) (by simp only [mp_sort, dAt_n (k := 4) (x := row) hq2, if_pos q12]) (by decide) rfl (by omega) c11c (by omega) (mRows.fr (n' := n) HR (by omega) (fun j j1 j2 j3 => c11d (j) (by omega)) (by omega)) (fun j hj => c11d j (by omega))
  · obtain ⟨hr3, rfl⟩ := inN_of hq2 (by first | decide | omega)
    obtain ⟨⟨ka_13, kb_13, kc_13, kd_13⟩, kf_13, ke_13, kg_13⟩ := AK_1 r3 hr3
    obtain ⟨⟨sa_13, sb_13, sc_13, sd_13⟩, sf_13, se_13, sg_13⟩ := AS_1 r3 hr3
    have kn_13 := NE_1 r3 r3 hr3 hr3
    have kl_13 := LE_1 r3 hr3
    have km_13 := rroom_le (r := r3)
    refine mt_aload_n dX4_sort_0 rfl rfl ?_
    refine mt_iload_n dX4_sort_1 rfl ?_
    refine mt_callS (N := mX4_isRow) (Rc := rX4_isRow) (As := [.int (nI r3)]) (st := [.ref 27]) dX4_sort_2 (kX4_isRow hl) sX4_isRow mw_1083 rfl (Nat.le_of_ble_eq_true rfl) ⟨⟨Nat.le_of_ble_eq_true rfl, Nat.le_of_ble_eq_true rfl⟩, (by first | exact Nat.le_of_ble_eq_true rfl | (simp only [rX4_isRow, rX4_isLet, rX4_sorted, rX4_choose, rX4_did, rX4_sort]; omega)), (by first | exact Nat.le_of_ble_eq_true rfl | (simp only [rX4_isRow, rX4_isLet, rX4_sorted, rX4_choose, rX4_did, rX4_sort]; omega))⟩ (fun v14 h15 n16 c17 => ?_) (fun _ _ _ hx => hx.elim)
    obtain ⟨c17a, c17b, c17c⟩ := c17
    rw [show (inN 4 (nI r3)).isSome = true from by rw [inN_some hr3 (by decide)]; rfl] at c17a
    rw [c17a, c17b, c17c]
    show mT _ _ _ _ 5 [.ref 27, .int (nI r3), .double 0, .double 0, .double 0, .double 0] [.int (nI 1), .ref 27] _ _ _ _
    refine mt_iconst dX4_sort_5 (v := nI 1) rfl ?_
    refine mt_callV (N := mX4_isLet) (Rc := rX4_isLet) (As := [.int (nI 1), .int (nI 1)]) (st := []) dX4_sort_6 (kX4_isLet (t := true) (f := true) hl C0) sX4_isLet mw_1092 mKX4 rfl C0 rfl (Nat.le_of_ble_eq_true rfl) ⟨⟨Nat.le_of_ble_eq_true rfl, Nat.le_of_ble_eq_true rfl⟩, (by first | exact Nat.le_of_ble_eq_true rfl | (simp only [rX4_isRow, rX4_isLet, rX4_sorted, rX4_choose, rX4_did, rX4_sort]; omega)), (by first | exact Nat.le_of_ble_eq_true rfl | (simp only [rX4_isRow, rX4_isLet, rX4_sorted, rX4_choose, rX4_did, rX4_sort]; omega))⟩ (fun v18 h19 n20 c21 => ?_) (fun _ _ _ hx => hx.elim)
    obtain ⟨c21a, c21b, c21c, c21d⟩ := c21
    rw [c21a, c21b]
    show mT _ _ _ _ 9 [.ref 27, .int (nI r3), .double 0, .double 0, .double 0, .double 0] [.int (nI 1)] _ _ _ _
    refine mt_if_ne dX4_sort_9 (tgt := 14) rfl (fun q22 => ?_) (fun q22 => ?_)
    · have q22 := (not_congr (mI_eq0 (by omega))).mp q22
      refine mt_aload_n dX4_sort_14 rfl rfl ?_
      refine mt_getfield mKX4 (i := 0) (by decide) mw_1053 dX4_sort_15 c21c rfl ?_
      refine mt_iload_n dX4_sort_18 rfl ?_
      refine mp_aaload dX4_sort_19 ((c21d (28) (by omega)).trans G28_1) (fun _ => rfl) rfl rfl (by omega) (by omega) (v := .ref (kx r3)) (by rw [GK_1 _ (by omega)]; rfl) ?_
      refine mp_astore_n dX4_sort_20 (ls' := [.ref 27, .int (nI r3), .ref (kx r3), .double 0, .double 0, .double 0]) rfl rfl (by decide) rfl ?_
      refine mt_aload_n dX4_sort_21 rfl rfl ?_
      refine mt_getfield mKX4 (i := 1) (by decide) mw_1054 dX4_sort_22 c21c rfl ?_
      refine mt_iload_n dX4_sort_25 rfl ?_
      refine mp_aaload dX4_sort_26 ((c21d (33) (by omega)).trans G33_1) (fun _ => rfl) rfl rfl (by omega) (by omega) (v := .ref (sx r3)) (by rw [GS_1 _ (by omega)]; rfl) ?_
      refine mp_astore_n dX4_sort_27 (ls' := [.ref 27, .int (nI r3), .ref (kx r3), .ref (sx r3), .double 0, .double 0]) rfl rfl (by decide) rfl ?_
      refine mt_aload_n dX4_sort_28 rfl rfl ?_
      refine mt_iload_n dX4_sort_29 rfl ?_
      refine mt_aload_n dX4_sort_30 rfl rfl ?_
      refine mt_iload_n dX4_sort_31 rfl ?_
      refine mt_callV (N := mX4_sorted) (Rc := rX4_sorted) (As := [.int (nI r3)]) (st := [.int (nI r3), .ref 27]) dX4_sort_32 (kX4_sorted hl c21c (mRows.fr (n' := n) HR (by omega) (fun j j1 j2 j3 => c21d (j) (by omega)) (by omega)) (by omega) (by omega)) sX4_sorted mw_1187 mKX4 rfl c21c rfl (Nat.le_of_ble_eq_true rfl) ⟨⟨Nat.le_of_ble_eq_true rfl, Nat.le_of_ble_eq_true rfl⟩, (by first | exact Nat.le_of_ble_eq_true rfl | (simp only [rX4_isRow, rX4_isLet, rX4_sorted, rX4_choose, rX4_did, rX4_sort]; omega)), (by first | exact Nat.le_of_ble_eq_true rfl | (simp only [rX4_isRow, rX4_isLet, rX4_sorted, rX4_choose, rX4_did, rX4_sort]; omega))⟩ (fun v23 h24 n25 c26 => ?_) (fun _ _ _ hx => hx.elim)
      obtain ⟨c26a, c26b, ⟨c26g, c26c, c26d⟩, c26e⟩ := c26
      rw [c26a, c26b]
      show mT _ _ _ _ 35 [.ref 27, .int (nI r3), .ref (kx r3), .ref (sx r3), .double 0, .double 0] [.ref n, .int (nI r3), .ref 27] _ _ _ _
      refine mt_callV (N := mX4_choose) (Rc := rX4_choose) (As := [.int (nI r3), .ref n]) (st := []) dX4_sort_35 (kX4_choose (pl := scat (S.1 r3)) hl ((c26e (27) (by omega)).trans c21c) (mRows.fr (n' := n + 1) HR (by omega) (fun j j1 j2 j3 => (c26e (j) (by omega)).trans (c21d (j) (by omega))) (by omega)) (by omega) (by omega) c26c (fun i hi => ⟨c26d i hi, scat_lt (by omega) i⟩) (by omega) (by omega)) sX4_choose mw_1134 mKX4 rfl ((c26e (27) (by omega)).trans c21c) rfl (Nat.le_of_ble_eq_true rfl) ⟨⟨Nat.le_of_ble_eq_true rfl, Nat.le_of_ble_eq_true rfl⟩, (by first | exact Nat.le_of_ble_eq_true rfl | (simp only [rX4_isRow, rX4_isLet, rX4_sorted, rX4_choose, rX4_did, rX4_sort]; omega)), (by first | exact Nat.le_of_ble_eq_true rfl | (simp only [rX4_isRow, rX4_isLet, rX4_sorted, rX4_choose, rX4_did, rX4_sort]; omega))⟩ (fun v27 h28 n29 c30 => ?_) (fun _ _ _ hx => hx.elim)
      obtain ⟨c30a, c30b, c30c, c30d, c30e⟩ := c30
      rw [c30a, c30b]
      have c30k : ∀ j, j < n + 1 ∧ j ≠ 28 ∧ j ≠ 33 → h28 j = h24 j := fun j hj => c30e j hj.1 hj.2.1 hj.2.2
      obtain ⟨Sz31, eSz31⟩ : ∃ s9 : cS, s9 = cSet S r3 (chF (S.1 r3) (scat (S.1 r3)) ((S.1 r3).length)) := ⟨_, rfl⟩
      obtain ⟨kxz31, sxz31, HRz31⟩ : ∃ k9 s9, mRows h28 (n + 3) Sz31 k9 s9 := by rw [eSz31]; exact ⟨_, _, c30c⟩
      have eLz31 : (Sz31.1 r3).length = (S.1 r3).length := by rw [eSz31, cSet_s]; exact chF_l
      obtain ⟨⟨gk_32, G28_32, GK_32⟩, ⟨gs_32, G33_32, GS_32⟩, AK_32, AS_32, NE_32, NQ_32, LE_32⟩ := id HRz31
      obtain ⟨⟨ka_33, kb_33, kc_33, kd_33⟩, kf_33, ke_33, kg_33⟩ := AK_32 r3 (by omega)
      obtain ⟨⟨sa_33, sb_33, sc_33, sd_33⟩, sf_33, se_33, sg_33⟩ := AS_32 r3 (by omega)
      have kn_33 := NE_32 r3 r3 (by omega) (by omega)
      have kl_33 := LE_32 r3 (by omega)
      have km_33 := rroom_le (r := r3)
      show mT _ _ _ _ 38 [.ref 27, .int (nI r3), .ref (kx r3), .ref (sx r3), .double 0, .double 0] [] _ _ _ _
      refine mt_iconst dX4_sort_38 (v := nI 0) rfl ?_
      refine mp_istore dX4_sort_39 (ls' := [.ref 27, .int (nI r3), .ref (kx r3), .ref (sx r3), .int (nI 0), .double 0]) rfl (by decide) rfl ?_
      refine mt_iconst dX4_sort_41 (v := nI 0) rfl ?_
      refine mp_istore dX4_sort_42 (ls' := [.ref 27, .int (nI r3), .ref (kx r3), .ref (sx r3), .int (nI 0), .int (nI 0)]) rfl (by decide) rfl ?_
      refine tX4_sort_44 c30d HRz31 (by omega) hr3 ((c30k (kx r3) (by omega)).trans ((c26e (kx r3) (by omega)).trans ((c21d (kx r3) (by omega)).trans ke_13))) ((c30k (sx r3) (by omega)).trans ((c26e (sx r3) (by omega)).trans ((c21d (sx r3) (by omega)).trans se_13))) kg_13 sg_13 eLz31 (fun acc_34 i_35 z36 => ?_) _ 0 (nI 0) (Nat.lt_succ_self _) rfl (by omega)
      refine mt_aload_n dX4_sort_99 rfl rfl ?_
      refine mt_iload dX4_sort_100 rfl ?_
      refine mt_callV (N := mX4_did) (Rc := rX4_did) (As := [.int acc_34]) (st := []) dX4_sort_102 (kX4_did hl c30d) sX4_did mw_1105 mKX4 rfl c30d rfl (Nat.le_of_ble_eq_true rfl) ⟨⟨Nat.le_of_ble_eq_true rfl, Nat.le_of_ble_eq_true rfl⟩, (by first | exact Nat.le_of_ble_eq_true rfl | (simp only [rX4_isRow, rX4_isLet, rX4_sorted, rX4_choose, rX4_did, rX4_sort]; omega)), (by first | exact Nat.le_of_ble_eq_true rfl | (simp only [rX4_isRow, rX4_isLet, rX4_sorted, rX4_choose, rX4_did, rX4_sort]; omega))⟩ (fun v37 h38 n39 c40 => ?_) (fun _ _ _ hx => hx.elim)
      obtain ⟨c40a, c40b, c40c, c40d⟩ := c40
      rw [c40a, c40b]
      show mT _ _ _ _ 105 [.ref 27, .int (nI r3), .ref (kx r3), .ref (sx r3), .int acc_34, .int (nI i_35)] [.int acc_34] _ _ _ _
      refine mt_ireturn dX4_sort_105 rfl rfl (by first | exact Nat.le_of_ble_eq_true rfl | (simp only [rX4_isRow, rX4_isLet, rX4_sorted, rX4_choose, rX4_did, rX4_sort]; omega)) (by first | exact Nat.le_of_ble_eq_true rfl | (simp only [rX4_isRow, rX4_isLet, rX4_sorted, rX4_choose, rX4_did, rX4_sort]; omega)) ?_
      exact mOk.of (x := .int acc_34) (S' := ((Sz31).1, S.2.1, S.2.2.1 + nI 1, S.2.2.2.1, S.2.2.2.2)) (by rw [z36, eSz31]; simp only [mp_sort, dAt_s (k := 4) hr3 (by first | decide | omega), if_neg q22, cSet_s] <;> first | rfl | simp_all) rfl (by omega) c40c (by omega) (mRows.fr (n' := n + 3) HRz31 (by omega) (fun j j1 j2 j3 => c40d (j) (by omega)) (by omega)) (fun j hj => (c40d j (by omega)).trans ((c30k j (by omega)).trans ((c26e j (by omega)).trans (c21d j (by omega)))))
    · have q22 := (mI_eq0 (by omega)).mp q22
      exact absurd q22 (by decide)
