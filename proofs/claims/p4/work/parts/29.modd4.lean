/-! ===== the reference: house, digest ===== -/
abbrev rX4_house : Room := { frames := 2, cells := 1, slots := 6, locals := 46 }
set_option maxRecDepth 100000 in
set_option maxHeartbeats 2000000 in
theorem tX4_house_35 {l : Launch} {K : mK} {h : mH} {n : Nat} {S : cS} {kx sx : Nat → Nat} {g ac rf kn th : Int32} {w9 : Nat} {r9 : Nat × Int32} (hl : l.stackTraces = false) (C0 : h 27 = .inr (.inr (6, [.ref 28, .ref 33, .int g, .int ac, .int rf, .int kn, .int th]))) (HR : mRows h n S kx sx) (h39 : 39 ≤ n) (kk0 : ∀ (items : Nat) (so : Int32) (i : Nat), ((items, so) = r9) → mT l mX4_house rX4_house K 76 [.ref 27, .int (nI w9), .int (nI items), .int so, .int (nI i)] [] h n 0 0) : ∀ (N0 : Nat) (i : Nat) (items : Nat) (so : Int32), (4 - i) < N0 → (mlp (mhS S) (4 - i) i (items, so) = r9) → (i ≤ 4) → mT l mX4_house rX4_house K 35 [.ref 27, .int (nI w9), .int (nI items), .int so, .int (nI i)] [] h n 0 0 := by
  intro N0
  induction N0 with
  | zero => intro i items so hm; exact absurd hm (Nat.not_lt_zero _)
  | succ N0 ih =>
    intro i items so hm hr9 hi
    obtain ⟨⟨gk_1, G28_1, GK_1⟩, ⟨gs_1, G33_1, GS_1⟩, AK_1, AS_1, NE_1, NQ_1, LE_1⟩ := id HR
    refine mt_iload dX4_house_35 rfl ?_
    refine mt_iconst dX4_house_37 (v := nI 4) rfl ?_
    refine mt_icmp_ge dX4_house_38 (tgt := 76) rfl (fun q2 => ?_) (fun q2 => ?_)
    · have q2 := Int32.not_lt.mpr q2
      have q2 := (not_congr (nI_ltI (by omega) (by omega))).mp q2
      exact kk0 items so i ((mlp_end (f := mhS S) (by omega)).symm.trans hr9)
    · have q2 := Int32.not_le.mp q2
      have q2 := (nI_ltI (by omega) (by omega)).mp q2
      obtain ⟨⟨ka_3, kb_3, kc_3, kd_3⟩, kf_3, ke_3, kg_3⟩ := AK_1 i (by omega)
      obtain ⟨⟨sa_3, sb_3, sc_3, sd_3⟩, sf_3, se_3, sg_3⟩ := AS_1 i (by omega)
      have kn_3 := NE_1 i i (by omega) (by omega)
      have kl_3 := LE_1 i (by omega)
      have km_3 := rroom_le (r := i)
      refine mt_iload_n dX4_house_41 rfl ?_
      refine mt_aload_n dX4_house_42 rfl rfl ?_
      refine mt_getfield mKX4 (i := 0) (by decide) mw_1053 dX4_house_43 C0 rfl ?_
      refine mt_iload dX4_house_46 rfl ?_
      refine mp_aaload dX4_house_48 G28_1 (fun _ => rfl) rfl rfl (by omega) (by omega) (v := .ref (kx i)) (by rw [GK_1 _ (by omega)]; rfl) ?_
      refine mt_alen dX4_house_49 ke_3 (by decide) ?_
      refine mp_iadd dX4_house_50 (v := nI (items + ((S.1 i).length))) (nI_add _ _) ?_
      refine mp_istore_n dX4_house_51 (ls' := [.ref 27, .int (nI w9), .int (nI (items + ((S.1 i).length))), .int so, .int (nI i)]) rfl (by decide) rfl ?_
      refine mt_iload_n dX4_house_52 rfl ?_
      refine mt_aload_n dX4_house_53 rfl rfl ?_
      refine mt_iload dX4_house_54 rfl ?_
      refine mt_iconst dX4_house_56 (v := nI 1) rfl ?_
      refine mt_callV (N := mX4_pairs) (Rc := rX4_pairs) (As := [.int (nI i), .int (nI 1)]) (st := [.int so]) dX4_house_57 (kX4_pairs hl C0 HR (by omega)) sX4_pairs mw_1146 mKX4 rfl C0 rfl (Nat.le_of_ble_eq_true rfl) ⟨⟨Nat.le_of_ble_eq_true rfl, Nat.le_of_ble_eq_true rfl⟩, Nat.le_of_ble_eq_true rfl, Nat.le_of_ble_eq_true rfl⟩ (fun v4 h5 n6 c7 => ?_) (fun _ _ _ hx => hx.elim)
      obtain ⟨c7a, c7b, c7c⟩ := c7
      rw [c7a, c7b, c7c]
      show mT _ _ _ _ 60 [.ref 27, .int (nI w9), .int (nI (items + ((S.1 i).length))), .int so, .int (nI i)] [.int (mq_pairs (S.1 i) (nI 1)), .int so] _ _ _ _
      refine mt_if_ne dX4_house_60 (tgt := 67) rfl (fun q8 => ?_) (fun q8 => ?_)
      · refine mt_iconst dX4_house_67 (v := nI 0) rfl ?_
        refine mp_iadd dX4_house_68 (v := so + (nI 0)) rfl ?_
        refine mp_istore_n dX4_house_69 (ls' := [.ref 27, .int (nI w9), .int (nI (items + ((S.1 i).length))), .int (so + (nI 0)), .int (nI i)]) rfl (by decide) rfl ?_
        refine mp_iinc dX4_house_70 rfl (v := nI (i + 1)) mI_inc (ls' := [.ref 27, .int (nI w9), .int (nI (items + ((S.1 i).length))), .int (so + (nI 0)), .int (nI (i + 1))]) rfl (by decide) rfl ?_
        refine mt_goto dX4_house_73 (tgt := 35) rfl ?_
        exact ih (i + 1) (items + ((S.1 i).length)) (so + (nI 0)) (by omega) ((mlp_go (f := mhS S) (by omega) (by simp only [mhS, if_neg q8])).symm.trans hr9) (by omega)
      · refine mt_iconst dX4_house_63 (v := nI 1) rfl ?_
        refine mt_goto dX4_house_64 (tgt := 68) rfl ?_
        refine mp_iadd dX4_house_68 (v := so + (nI 1)) rfl ?_
        refine mp_istore_n dX4_house_69 (ls' := [.ref 27, .int (nI w9), .int (nI (items + ((S.1 i).length))), .int (so + (nI 1)), .int (nI i)]) rfl (by decide) rfl ?_
        refine mp_iinc dX4_house_70 rfl (v := nI (i + 1)) mI_inc (ls' := [.ref 27, .int (nI w9), .int (nI (items + ((S.1 i).length))), .int (so + (nI 1)), .int (nI (i + 1))]) rfl (by decide) rfl ?_
        refine mt_goto dX4_house_73 (tgt := 35) rfl ?_
        exact ih (i + 1) (items + ((S.1 i).length)) (so + (nI 1)) (by omega) ((mlp_go (f := mhS S) (by omega) (by simp only [mhS, if_pos q8])).symm.trans hr9) (by omega)
set_option maxRecDepth 100000 in
set_option maxHeartbeats 2000000 in
theorem kX4_house {l : Launch} (hl : l.stackTraces = false) {h : mH} {n : Nat} {S : cS} {th : Int32} {what : Int32} (C : mAt h n S th) : mC l mX4_house rX4_house [.ref 27, .int what] h n (mOkq (mp_house S what) (.int (nI 0)) h n) (mNX) := by
  obtain ⟨C0, h39, kx, sx, HR⟩ := id C
  obtain ⟨⟨gk_1, G28_1, GK_1⟩, ⟨gs_1, G33_1, GS_1⟩, AK_1, AS_1, NE_1, NQ_1, LE_1⟩ := id HR
  refine mm_enter hl (by decide +kernel) rfl rfl rfl (Nat.le_of_ble_eq_true rfl) ?_
  show mT _ _ _ _ 0 [.ref 27, .int what, .double 0, .double 0, .double 0] [] _ _ 0 0
  rcases hq : inN 6 what with _ | w9
  · refine mt_aload_n dX4_house_0 rfl rfl ?_
    refine mt_iload_n dX4_house_1 rfl ?_
    refine mt_iconst dX4_house_2 (v := nI 0) rfl ?_
    refine mt_iconst dX4_house_3 (v := nI 5) rfl ?_
    refine mt_callS (N := mX4_isIn) (Rc := rX4_isIn) (As := [.int what, .int (nI 0), .int (nI 5)]) (st := [.ref 27]) dX4_house_4 (kX4_isIn hl) sX4_isIn mw_1086 rfl (Nat.le_of_ble_eq_true rfl) ⟨⟨Nat.le_of_ble_eq_true rfl, Nat.le_of_ble_eq_true rfl⟩, Nat.le_of_ble_eq_true rfl, Nat.le_of_ble_eq_true rfl⟩ (fun v2 h3 n4 c5 => ?_) (fun _ _ _ hx => hx.elim)
    obtain ⟨c5a, c5b, c5c⟩ := c5
    rw [show inR what (nI 0) (nI 5) = false from inR_f (k := 5) hq (by decide)] at c5a
    rw [c5a, c5b, c5c]
    show mT _ _ _ _ 7 [.ref 27, .int what, .double 0, .double 0, .double 0] [.int (nI 0), .ref 27] _ _ _ _
    refine mt_if_eq dX4_house_7 (tgt := 14) rfl (fun q6 => ?_) (fun q6 => ?_)
    · have q6 := (mI_eq0 (by omega)).mp q6
      refine mt_iconst dX4_house_14 (v := nI 1) rfl ?_
      refine mp_putfield mKX4 (i := 6) (fs' := [.ref 28, .ref 33, .int S.2.1, .int S.2.2.1, .int S.2.2.2.1, .int S.2.2.2.2, .int (nI 1)]) (by decide) mw_1059 rfl dX4_house_15 C0 (Nat.le_of_ble_eq_true rfl) rfl rfl (fun h7 e8 f9 => ?_)
      refine mt_aload_n dX4_house_18 rfl rfl ?_
      refine mt_getfield mKX4 (i := 6) (by decide) mw_1059 dX4_house_19 e8 rfl ?_
      refine mt_iconst dX4_house_22 (v := nI 1) rfl ?_
      refine mt_icmp_ne dX4_house_23 (tgt := 28) rfl (fun q10 => ?_) (fun q10 => ?_)
      · have q10 := (not_congr (nI_eq (by omega) (by omega))).mp q10
        exact absurd q10 (by decide)
      · have q10 := (nI_eq (by omega) (by omega)).mp q10
        refine mt_iconst dX4_house_26 (v := nI 0) rfl ?_
        refine mt_ireturn dX4_house_27 rfl rfl (Nat.le_of_ble_eq_true rfl) (Nat.le_of_ble_eq_true rfl) ?_
        exact mOkq.no (k := 1) (S' := S) (by simp only [mp_house_n hq, if_pos q6, if_pos q10]) (by decide) rfl (by omega) e8 (by omega) (mRows.fr (n' := n) HR (by omega) (fun j j1 j2 j3 => f9 (j) (by omega)) (by omega)) (fun j hj => f9 j (by omega))
    · have q6 := (not_congr (mI_eq0 (by omega))).mp q6
      exact absurd q6 (by decide)
  · obtain ⟨hw9, rfl⟩ := inN_of hq (by decide)
    refine mt_aload_n dX4_house_0 rfl rfl ?_
    refine mt_iload_n dX4_house_1 rfl ?_
    refine mt_iconst dX4_house_2 (v := nI 0) rfl ?_
    refine mt_iconst dX4_house_3 (v := nI 5) rfl ?_
    refine mt_callS (N := mX4_isIn) (Rc := rX4_isIn) (As := [.int (nI w9), .int (nI 0), .int (nI 5)]) (st := [.ref 27]) dX4_house_4 (kX4_isIn hl) sX4_isIn mw_1086 rfl (Nat.le_of_ble_eq_true rfl) ⟨⟨Nat.le_of_ble_eq_true rfl, Nat.le_of_ble_eq_true rfl⟩, Nat.le_of_ble_eq_true rfl, Nat.le_of_ble_eq_true rfl⟩ (fun v11 h12 n13 c14 => ?_) (fun _ _ _ hx => hx.elim)
    obtain ⟨c14a, c14b, c14c⟩ := c14
    rw [show inR (nI w9) (nI 0) (nI 5) = true from inR_t (k := 5) hw9 (by decide)] at c14a
    rw [c14a, c14b, c14c]
    show mT _ _ _ _ 7 [.ref 27, .int (nI w9), .double 0, .double 0, .double 0] [.int (nI 1), .ref 27] _ _ _ _
    refine mt_if_eq dX4_house_7 (tgt := 14) rfl (fun q15 => ?_) (fun q15 => ?_)
    · have q15 := (mI_eq0 (by omega)).mp q15
      exact absurd q15 (by decide)
    · have q15 := (not_congr (mI_eq0 (by omega))).mp q15
      refine mt_iconst dX4_house_10 (v := nI 0) rfl ?_
      refine mt_goto dX4_house_11 (tgt := 15) rfl ?_
      refine mp_putfield mKX4 (i := 6) (fs' := [.ref 28, .ref 33, .int S.2.1, .int S.2.2.1, .int S.2.2.2.1, .int S.2.2.2.2, .int (nI 0)]) (by decide) mw_1059 rfl dX4_house_15 C0 (Nat.le_of_ble_eq_true rfl) rfl rfl (fun h16 e17 f18 => ?_)
      refine mt_aload_n dX4_house_18 rfl rfl ?_
      refine mt_getfield mKX4 (i := 6) (by decide) mw_1059 dX4_house_19 e17 rfl ?_
      refine mt_iconst dX4_house_22 (v := nI 1) rfl ?_
      refine mt_icmp_ne dX4_house_23 (tgt := 28) rfl (fun q19 => ?_) (fun q19 => ?_)
      · have q19 := (not_congr (nI_eq (by omega) (by omega))).mp q19
        refine mt_iconst dX4_house_28 (v := nI 0) rfl ?_
        refine mp_istore_n dX4_house_29 (ls' := [.ref 27, .int (nI w9), .int (nI 0), .double 0, .double 0]) rfl (by decide) rfl ?_
        refine mt_iconst dX4_house_30 (v := nI 0) rfl ?_
        refine mp_istore_n dX4_house_31 (ls' := [.ref 27, .int (nI w9), .int (nI 0), .int (nI 0), .double 0]) rfl (by decide) rfl ?_
        refine mt_iconst dX4_house_32 (v := nI 0) rfl ?_
        refine mp_istore dX4_house_33 (ls' := [.ref 27, .int (nI w9), .int (nI 0), .int (nI 0), .int (nI 0)]) rfl (by decide) rfl ?_
        refine tX4_house_35 hl e17 (mRows.fr (n' := n) HR (by omega) (fun j j1 j2 j3 => f18 (j) (by omega)) (by omega)) (by omega) (fun items_20 so_21 i_22 z23 => ?_) _ 0 0 (nI 0) (Nat.lt_succ_self _) rfl (by omega)
        refine mt_bipush dX4_house_76 (v := nI 6) (by decide) ?_
        refine mp_newarray dX4_house_78 mw_87 rfl (by omega) (by simp only [rX4_house]; omega) (by simp only [rX4_house]; omega) (fun h24 e25 f26 => ?_)
        refine mt_dup dX4_house_80 rfl ?_
        refine mt_iconst dX4_house_81 (v := nI 0) rfl ?_
        refine mt_iload_n dX4_house_82 rfl ?_
        refine mp_iastore dX4_house_83 e25 rfl (by omega) (by omega) (fun h27 e28 f29 => ?_)
        refine mt_dup dX4_house_84 rfl ?_
        refine mt_iconst dX4_house_85 (v := nI 1) rfl ?_
        refine mt_aload_n dX4_house_86 rfl rfl ?_
        refine mt_getfield mKX4 (i := 3) (by decide) mw_1056 dX4_house_87 ((f29 (27) (by omega)).trans ((f26 (27) (by omega)).trans e17)) rfl ?_
        refine mp_iastore dX4_house_90 e28 rfl (by omega) (by omega) (fun h30 e31 f32 => ?_)
        refine mt_dup dX4_house_91 rfl ?_
        refine mt_iconst dX4_house_92 (v := nI 2) rfl ?_
        refine mt_aload_n dX4_house_93 rfl rfl ?_
        refine mt_getfield mKX4 (i := 4) (by decide) mw_1057 dX4_house_94 ((f32 (27) (by omega)).trans ((f29 (27) (by omega)).trans ((f26 (27) (by omega)).trans e17))) rfl ?_
        refine mp_iastore dX4_house_97 e31 rfl (by omega) (by omega) (fun h33 e34 f35 => ?_)
        refine mt_dup dX4_house_98 rfl ?_
        refine mt_iconst dX4_house_99 (v := nI 3) rfl ?_
        refine mt_aload_n dX4_house_100 rfl rfl ?_
        refine mt_getfield mKX4 (i := 5) (by decide) mw_1058 dX4_house_101 ((f35 (27) (by omega)).trans ((f32 (27) (by omega)).trans ((f29 (27) (by omega)).trans ((f26 (27) (by omega)).trans e17)))) rfl ?_
        refine mp_iastore dX4_house_104 e34 rfl (by omega) (by omega) (fun h36 e37 f38 => ?_)
        refine mt_dup dX4_house_105 rfl ?_
        refine mt_iconst dX4_house_106 (v := nI 4) rfl ?_
        refine mt_aload_n dX4_house_107 rfl rfl ?_
        refine mt_getfield mKX4 (i := 2) (by decide) mw_1055 dX4_house_108 ((f38 (27) (by omega)).trans ((f35 (27) (by omega)).trans ((f32 (27) (by omega)).trans ((f29 (27) (by omega)).trans ((f26 (27) (by omega)).trans e17))))) rfl ?_
        refine mp_iastore dX4_house_111 e37 rfl (by omega) (by omega) (fun h39 e40 f41 => ?_)
        refine mt_dup dX4_house_112 rfl ?_
        refine mt_iconst dX4_house_113 (v := nI 5) rfl ?_
        refine mt_iload_n dX4_house_114 rfl ?_
        refine mp_iastore dX4_house_115 e40 rfl (by omega) (by omega) (fun h42 e43 f44 => ?_)
        refine mp_astore dX4_house_116 (ls' := [.ref 27, .int (nI w9), .int (nI items_20), .int so_21, .ref n]) rfl rfl (by decide) rfl ?_
        refine mt_aload dX4_house_118 rfl rfl ?_
        obtain rfl | rfl | rfl | rfl | rfl | rfl : w9 = 0 ∨ w9 = 1 ∨ w9 = 2 ∨ w9 = 3 ∨ w9 = 4 ∨ w9 = 5 := by omega
        · refine mt_iload_n dX4_house_120 rfl ?_
          refine mp_iaload dX4_house_121 e43 rfl (by omega) (by omega) (v := (upd (upd (upd (upd (upd (upd (fun _ => (0 : Int32)) 0 (nI items_20)) 1 S.2.2.1) 2 S.2.2.2.1) 3 S.2.2.2.2) 4 S.2.1) 5 so_21) 0) rfl ?_
          refine mt_ireturn dX4_house_122 rfl rfl (by simp only [rX4_house]; omega) (by simp only [rX4_house]; omega) ?_
          exact mOkq.of (x := .int ((upd (upd (upd (upd (upd (upd (fun _ => (0 : Int32)) 0 (nI items_20)) 1 S.2.2.1) 2 S.2.2.2.1) 3 S.2.2.2.2) 4 S.2.1) 5 so_21) 0)) (S' := ((S).1, S.2.1, S.2.2.1, S.2.2.2.1, S.2.2.2.2)) (by rw [mp_house_s (w := 0) (by decide)]; simp only [mq_house]; first | (rw [← (show (items_20, so_21) = mhF S from z23)]; simp [upd]; done) | (simp [upd]; done)) rfl (by omega) ((f44 (27) (by omega)).trans ((f41 (27) (by omega)).trans ((f38 (27) (by omega)).trans ((f35 (27) (by omega)).trans ((f32 (27) (by omega)).trans ((f29 (27) (by omega)).trans ((f26 (27) (by omega)).trans e17))))))) (by omega) (mRows.fr (n' := n + 1) HR (by omega) (fun j j1 j2 j3 => (f44 (j) (by omega)).trans ((f41 (j) (by omega)).trans ((f38 (j) (by omega)).trans ((f35 (j) (by omega)).trans ((f32 (j) (by omega)).trans ((f29 (j) (by omega)).trans ((f26 (j) (by omega)).trans (f18 (j) (by omega))))))))) (by omega)) (fun j hj => (f44 j (by omega)).trans ((f41 j (by omega)).trans ((f38 j (by omega)).trans ((f35 j (by omega)).trans ((f32 j (by omega)).trans ((f29 j (by omega)).trans ((f26 j (by omega)).trans (f18 j (by omega)))))))))
        · refine mt_iload_n dX4_house_120 rfl ?_
          refine mp_iaload dX4_house_121 e43 rfl (by omega) (by omega) (v := (upd (upd (upd (upd (upd (upd (fun _ => (0 : Int32)) 0 (nI items_20)) 1 S.2.2.1) 2 S.2.2.2.1) 3 S.2.2.2.2) 4 S.2.1) 5 so_21) 1) rfl ?_
          refine mt_ireturn dX4_house_122 rfl rfl (by simp only [rX4_house]; omega) (by simp only [rX4_house]; omega) ?_
          exact mOkq.of (x := .int ((upd (upd (upd (upd (upd (upd (fun _ => (0 : Int32)) 0 (nI items_20)) 1 S.2.2.1) 2 S.2.2.2.1) 3 S.2.2.2.2) 4 S.2.1) 5 so_21) 1)) (S' := ((S).1, S.2.1, S.2.2.1, S.2.2.2.1, S.2.2.2.2)) (by rw [mp_house_s (w := 1) (by decide)]; simp only [mq_house]; first | (rw [← (show (items_20, so_21) = mhF S from z23)]; simp [upd]; done) | (simp [upd]; done)) rfl (by omega) ((f44 (27) (by omega)).trans ((f41 (27) (by omega)).trans ((f38 (27) (by omega)).trans ((f35 (27) (by omega)).trans ((f32 (27) (by omega)).trans ((f29 (27) (by omega)).trans ((f26 (27) (by omega)).trans e17))))))) (by omega) (mRows.fr (n' := n + 1) HR (by omega) (fun j j1 j2 j3 => (f44 (j) (by omega)).trans ((f41 (j) (by omega)).trans ((f38 (j) (by omega)).trans ((f35 (j) (by omega)).trans ((f32 (j) (by omega)).trans ((f29 (j) (by omega)).trans ((f26 (j) (by omega)).trans (f18 (j) (by omega))))))))) (by omega)) (fun j hj => (f44 j (by omega)).trans ((f41 j (by omega)).trans ((f38 j (by omega)).trans ((f35 j (by omega)).trans ((f32 j (by omega)).trans ((f29 j (by omega)).trans ((f26 j (by omega)).trans (f18 j (by omega)))))))))
        · refine mt_iload_n dX4_house_120 rfl ?_
          refine mp_iaload dX4_house_121 e43 rfl (by omega) (by omega) (v := (upd (upd (upd (upd (upd (upd (fun _ => (0 : Int32)) 0 (nI items_20)) 1 S.2.2.1) 2 S.2.2.2.1) 3 S.2.2.2.2) 4 S.2.1) 5 so_21) 2) rfl ?_
          refine mt_ireturn dX4_house_122 rfl rfl (by simp only [rX4_house]; omega) (by simp only [rX4_house]; omega) ?_
          exact mOkq.of (x := .int ((upd (upd (upd (upd (upd (upd (fun _ => (0 : Int32)) 0 (nI items_20)) 1 S.2.2.1) 2 S.2.2.2.1) 3 S.2.2.2.2) 4 S.2.1) 5 so_21) 2)) (S' := ((S).1, S.2.1, S.2.2.1, S.2.2.2.1, S.2.2.2.2)) (by rw [mp_house_s (w := 2) (by decide)]; simp only [mq_house]; first | (rw [← (show (items_20, so_21) = mhF S from z23)]; simp [upd]; done) | (simp [upd]; done)) rfl (by omega) ((f44 (27) (by omega)).trans ((f41 (27) (by omega)).trans ((f38 (27) (by omega)).trans ((f35 (27) (by omega)).trans ((f32 (27) (by omega)).trans ((f29 (27) (by omega)).trans ((f26 (27) (by omega)).trans e17))))))) (by omega) (mRows.fr (n' := n + 1) HR (by omega) (fun j j1 j2 j3 => (f44 (j) (by omega)).trans ((f41 (j) (by omega)).trans ((f38 (j) (by omega)).trans ((f35 (j) (by omega)).trans ((f32 (j) (by omega)).trans ((f29 (j) (by omega)).trans ((f26 (j) (by omega)).trans (f18 (j) (by omega))))))))) (by omega)) (fun j hj => (f44 j (by omega)).trans ((f41 j (by omega)).trans ((f38 j (by omega)).trans ((f35 j (by omega)).trans ((f32 j (by omega)).trans ((f29 j (by omega)).trans ((f26 j (by omega)).trans (f18 j (by omega)))))))))
        · refine mt_iload_n dX4_house_120 rfl ?_
          refine mp_iaload dX4_house_121 e43 rfl (by omega) (by omega) (v := (upd (upd (upd (upd (upd (upd (fun _ => (0 : Int32)) 0 (nI items_20)) 1 S.2.2.1) 2 S.2.2.2.1) 3 S.2.2.2.2) 4 S.2.1) 5 so_21) 3) rfl ?_
          refine mt_ireturn dX4_house_122 rfl rfl (by simp only [rX4_house]; omega) (by simp only [rX4_house]; omega) ?_
          exact mOkq.of (x := .int ((upd (upd (upd (upd (upd (upd (fun _ => (0 : Int32)) 0 (nI items_20)) 1 S.2.2.1) 2 S.2.2.2.1) 3 S.2.2.2.2) 4 S.2.1) 5 so_21) 3)) (S' := ((S).1, S.2.1, S.2.2.1, S.2.2.2.1, S.2.2.2.2)) (by rw [mp_house_s (w := 3) (by decide)]; simp only [mq_house]; first | (rw [← (show (items_20, so_21) = mhF S from z23)]; simp [upd]; done) | (simp [upd]; done)) rfl (by omega) ((f44 (27) (by omega)).trans ((f41 (27) (by omega)).trans ((f38 (27) (by omega)).trans ((f35 (27) (by omega)).trans ((f32 (27) (by omega)).trans ((f29 (27) (by omega)).trans ((f26 (27) (by omega)).trans e17))))))) (by omega) (mRows.fr (n' := n + 1) HR (by omega) (fun j j1 j2 j3 => (f44 (j) (by omega)).trans ((f41 (j) (by omega)).trans ((f38 (j) (by omega)).trans ((f35 (j) (by omega)).trans ((f32 (j) (by omega)).trans ((f29 (j) (by omega)).trans ((f26 (j) (by omega)).trans (f18 (j) (by omega))))))))) (by omega)) (fun j hj => (f44 j (by omega)).trans ((f41 j (by omega)).trans ((f38 j (by omega)).trans ((f35 j (by omega)).trans ((f32 j (by omega)).trans ((f29 j (by omega)).trans ((f26 j (by omega)).trans (f18 j (by omega)))))))))
        · refine mt_iload_n dX4_house_120 rfl ?_
          refine mp_iaload dX4_house_121 e43 rfl (by omega) (by omega) (v := (upd (upd (upd (upd (upd (upd (fun _ => (0 : Int32)) 0 (nI items_20)) 1 S.2.2.1) 2 S.2.2.2.1) 3 S.2.2.2.2) 4 S.2.1) 5 so_21) 4) rfl ?_
          refine mt_ireturn dX4_house_122 rfl rfl (by simp only [rX4_house]; omega) (by simp only [rX4_house]; omega) ?_
          exact mOkq.of (x := .int ((upd (upd (upd (upd (upd (upd (fun _ => (0 : Int32)) 0 (nI items_20)) 1 S.2.2.1) 2 S.2.2.2.1) 3 S.2.2.2.2) 4 S.2.1) 5 so_21) 4)) (S' := ((S).1, S.2.1, S.2.2.1, S.2.2.2.1, S.2.2.2.2)) (by rw [mp_house_s (w := 4) (by decide)]; simp only [mq_house]; first | (rw [← (show (items_20, so_21) = mhF S from z23)]; simp [upd]; done) | (simp [upd]; done)) rfl (by omega) ((f44 (27) (by omega)).trans ((f41 (27) (by omega)).trans ((f38 (27) (by omega)).trans ((f35 (27) (by omega)).trans ((f32 (27) (by omega)).trans ((f29 (27) (by omega)).trans ((f26 (27) (by omega)).trans e17))))))) (by omega) (mRows.fr (n' := n + 1) HR (by omega) (fun j j1 j2 j3 => (f44 (j) (by omega)).trans ((f41 (j) (by omega)).trans ((f38 (j) (by omega)).trans ((f35 (j) (by omega)).trans ((f32 (j) (by omega)).trans ((f29 (j) (by omega)).trans ((f26 (j) (by omega)).trans (f18 (j) (by omega))))))))) (by omega)) (fun j hj => (f44 j (by omega)).trans ((f41 j (by omega)).trans ((f38 j (by omega)).trans ((f35 j (by omega)).trans ((f32 j (by omega)).trans ((f29 j (by omega)).trans ((f26 j (by omega)).trans (f18 j (by omega)))))))))
        · refine mt_iload_n dX4_house_120 rfl ?_
          refine mp_iaload dX4_house_121 e43 rfl (by omega) (by omega) (v := (upd (upd (upd (upd (upd (upd (fun _ => (0 : Int32)) 0 (nI items_20)) 1 S.2.2.1) 2 S.2.2.2.1) 3 S.2.2.2.2) 4 S.2.1) 5 so_21) 5) rfl ?_
          refine mt_ireturn dX4_house_122 rfl rfl (by simp only [rX4_house]; omega) (by simp only [rX4_house]; omega) ?_
          exact mOkq.of (x := .int ((upd (upd (upd (upd (upd (upd (fun _ => (0 : Int32)) 0 (nI items_20)) 1 S.2.2.1) 2 S.2.2.2.1) 3 S.2.2.2.2) 4 S.2.1) 5 so_21) 5)) (S' := ((S).1, S.2.1, S.2.2.1, S.2.2.2.1, S.2.2.2.2)) (by rw [mp_house_s (w := 5) (by decide)]; simp only [mq_house]; first | (rw [← (show (items_20, so_21) = mhF S from z23)]; simp [upd]; done) | (simp [upd]; done)) rfl (by omega) ((f44 (27) (by omega)).trans ((f41 (27) (by omega)).trans ((f38 (27) (by omega)).trans ((f35 (27) (by omega)).trans ((f32 (27) (by omega)).trans ((f29 (27) (by omega)).trans ((f26 (27) (by omega)).trans e17))))))) (by omega) (mRows.fr (n' := n + 1) HR (by omega) (fun j j1 j2 j3 => (f44 (j) (by omega)).trans ((f41 (j) (by omega)).trans ((f38 (j) (by omega)).trans ((f35 (j) (by omega)).trans ((f32 (j) (by omega)).trans ((f29 (j) (by omega)).trans ((f26 (j) (by omega)).trans (f18 (j) (by omega))))))))) (by omega)) (fun j hj => (f44 j (by omega)).trans ((f41 j (by omega)).trans ((f38 j (by omega)).trans ((f35 j (by omega)).trans ((f32 j (by omega)).trans ((f29 j (by omega)).trans ((f26 j (by omega)).trans (f18 j (by omega)))))))))
      · have q19 := (nI_eq (by omega) (by omega)).mp q19
        exact absurd q19 (by decide)
abbrev rX4_digest : Room := { frames := 3, cells := 10, slots := 72, locals := 70 }
set_option maxRecDepth 100000 in
set_option maxHeartbeats 2000000 in
theorem tX4_digest_107 {l : Launch} {R : Room} {K : mK} {cc sc : Nat} {h : mH} {n a9 i : Nat} {S : cS} {r9 : Int64} {f9 : Nat → Int32} (e9 : h a9 = .inl (0, 9, f9)) (hf9 : ∀ k, k < 9 → f9 k = mdA S i k) (kk0 : ∀ (d : Int64) (k : Nat), (d = r9) → mT l mX4_digest R K 137 [.ref 27, .long d, .double 0, .int (nI i), .ref a9, .ref a9, .int (nI 9), .int (nI k), .double 0] [] h n cc sc) : ∀ (N0 : Nat) (k : Nat) (d : Int64), (9 - k) < N0 → (mlp (mdS S i) (9 - k) k d = r9) → (k ≤ 9) → mT l mX4_digest R K 107 [.ref 27, .long d, .double 0, .int (nI i), .ref a9, .ref a9, .int (nI 9), .int (nI k), .double 0] [] h n cc sc := by
  intro N0
  induction N0 with
  | zero => intro k d hm; exact absurd hm (Nat.not_lt_zero _)
  | succ N0 ih =>
    intro k d hm hr9 hk
    refine mt_iload dX4_digest_107 rfl ?_
    refine mt_iload dX4_digest_109 rfl ?_
    refine mt_icmp_ge dX4_digest_111 (tgt := 137) rfl (fun q1 => ?_) (fun q1 => ?_)
    · have q1 := Int32.not_lt.mpr q1
      have q1 := (not_congr (nI_ltI (by omega) (by omega))).mp q1
      exact kk0 d k ((mlp_end (f := mdS S i) (by omega)).symm.trans hr9)
    · have q1 := Int32.not_le.mp q1
      have q1 := (nI_ltI (by omega) (by omega)).mp q1
      refine mt_aload dX4_digest_114 rfl rfl ?_
      refine mt_iload dX4_digest_116 rfl ?_
      refine mp_iaload dX4_digest_118 e9 rfl (by omega) (by omega) (v := mdA S i k) (hf9 _ (by omega)) ?_
      refine mp_istore dX4_digest_119 (ls' := [.ref 27, .long d, .double 0, .int (nI i), .ref a9, .ref a9, .int (nI 9), .int (nI k), .int (mdA S i k)]) rfl (by decide) rfl ?_
      refine mt_lload_n dX4_digest_121 rfl ?_
      refine mt_ldc2 (v := 31) dX4_digest_122 mw_1369 ?_
      refine mt_lmul dX4_digest_125 ?_
      refine mt_iload dX4_digest_126 rfl ?_
      refine mt_i2l dX4_digest_128 ?_
      refine mt_ladd dX4_digest_129 ?_
      refine mp_lstore_n dX4_digest_130 (ls' := [.ref 27, .long ((d * 31) + ((mdA S i k).toInt64)), .double 0, .int (nI i), .ref a9, .ref a9, .int (nI 9), .int (nI k), .int (mdA S i k)]) rfl (by decide) rfl ?_
      refine mp_iinc dX4_digest_131 rfl (v := nI (k + 1)) mI_inc (ls' := [.ref 27, .long ((d * 31) + ((mdA S i k).toInt64)), .double 0, .int (nI i), .ref a9, .ref a9, .int (nI 9), .int (nI (k + 1)), .int (mdA S i k)]) rfl (by decide) rfl ?_
      refine mt_goto dX4_digest_134 (tgt := 107) rfl ?_
      refine mt_drop 8 (ls' := [.ref 27, .long ((d * 31) + ((mdA S i k).toInt64)), .double 0, .int (nI i), .ref a9, .ref a9, .int (nI 9), .int (nI (k + 1)), .double 0]) rfl ?_
      exact ih (k + 1) ((d * 31) + ((mdA S i k).toInt64)) (by omega) ((mlp_go (f := mdS S i) (by omega) rfl).symm.trans hr9) (by omega)
set_option maxRecDepth 100000 in
set_option maxHeartbeats 2000000 in
theorem tX4_digest_6 {l : Launch} {K : mK} {S : cS} {r9 : Int64} {h0 : mH} {n0 : Nat} (hl : l.stackTraces = false) (kk0 : ∀ (i : Nat) (d : Int64) (h : mH) (n : Nat) (th : Int32), (mAt h n S th) → (n0 ≤ n) → (∀ j, (j < n0 ∧ j ≠ 27) → h j = h0 j) → (d = r9) → mT l mX4_digest rX4_digest K 143 [.ref 27, .long d, .double 0, .int (nI i), .double 0, .double 0, .double 0, .double 0, .double 0] [] h n 4 36) : ∀ (N0 : Nat) (i : Nat) (d : Int64) (h : mH) (n : Nat) (th : Int32), (4 - i) < N0 → (mAt h n S th) → (n0 ≤ n) → (∀ j, (j < n0 ∧ j ≠ 27) → h j = h0 j) → (mlp (mdRow S) (4 - i) i d = r9) → (i ≤ 4) → mT l mX4_digest rX4_digest K 6 [.ref 27, .long d, .double 0, .int (nI i), .double 0, .double 0, .double 0, .double 0, .double 0] [] h n (1 * i) (9 * i) := by
  intro N0
  induction N0 with
  | zero => intro i d h n th hm; exact absurd hm (Nat.not_lt_zero _)
  | succ N0 ih =>
    intro i d h n th hm C hn0 hfr hr9 hi
    obtain ⟨C0, h39, kx, sx, HR⟩ := id C
    obtain ⟨⟨gk_1, G28_1, GK_1⟩, ⟨gs_1, G33_1, GS_1⟩, AK_1, AS_1, NE_1, NQ_1, LE_1⟩ := id HR
    refine mt_iload_n dX4_digest_6 rfl ?_
    refine mt_iconst dX4_digest_7 (v := nI 4) rfl ?_
    refine mt_icmp_ge dX4_digest_8 (tgt := 143) rfl (fun q2 => ?_) (fun q2 => ?_)
    · have q2 := Int32.not_lt.mpr q2
      have q2 := (not_congr (nI_ltI (by omega) (by omega))).mp q2
      refine mt_widen (cc' := 4) (sc' := 36) (by first | omega | (simp only [rX4_many, rX4_mark, rX4_wrong, rX4_ties, rX4_runs, rX4_longest, rX4_sum, rX4_unlike_, rX4_house, rX4_digest]; omega)) (by first | omega | (simp only [rX4_many, rX4_mark, rX4_wrong, rX4_ties, rX4_runs, rX4_longest, rX4_sum, rX4_unlike_, rX4_house, rX4_digest]; omega)) ?_
      exact kk0 i d h n th C hn0 hfr ((mlp_end (f := mdRow S) (by omega)).symm.trans hr9)
    · have q2 := Int32.not_le.mp q2
      have q2 := (nI_ltI (by omega) (by omega)).mp q2
      refine mt_bipush dX4_digest_11 (v := nI 9) (by decide) ?_
      refine mp_newarray dX4_digest_13 mw_87 rfl (by omega) (by simp only [rX4_digest]; omega) (by simp only [rX4_digest]; omega) (fun h3 e4 f5 => ?_)
      refine mt_dup dX4_digest_15 rfl ?_
      refine mt_iconst dX4_digest_16 (v := nI 0) rfl ?_
      refine mt_aload_n dX4_digest_17 rfl rfl ?_
      refine mt_iload_n dX4_digest_18 rfl ?_
      have hs6 := show sp_many S (nI i) = (0, .int (nI (S.1 i).length), S) from by simp only [sp_many, dAt_s (show i < 4 by omega) (by decide)]
      have hmhs6 : mAt h3 (n + 1) S th := ⟨(f5 (27) (by omega)).trans C0, by omega, _, _, mRows.fr (n' := n + 1) HR (by omega) (fun j j1 j2 j3 => f5 (j) (by omega)) (by omega)⟩
      refine mt_callV (N := mX4_many) (Rc := rX4_many) (As := [.int (nI i)]) (st := [.int (nI 0), .ref n, .ref n]) dX4_digest_19 (kX4_many hl hmhs6) sX4_many mw_1361 mKX4 rfl ((f5 (27) (by omega)).trans C0) rfl (Nat.le_of_ble_eq_true rfl) ⟨⟨Nat.le_of_ble_eq_true rfl, Nat.le_of_ble_eq_true rfl⟩, (by simp only [rX4_many, rX4_mark, rX4_wrong, rX4_ties, rX4_runs, rX4_longest, rX4_sum, rX4_unlike_, rX4_house, rX4_digest]; omega), (by simp only [rX4_many, rX4_mark, rX4_wrong, rX4_ties, rX4_runs, rX4_longest, rX4_sum, rX4_unlike_, rX4_house, rX4_digest]; omega)⟩ (fun v7 h8 n9 c10 => ?_) (fun _ _ _ hx => hx.elim)
      obtain ⟨c10a, c10b, c10c, c10d⟩ := c10.use hs6
      rw [c10a]
      show mT _ _ _ _ 22 [.ref 27, .long d, .double 0, .int (nI i), .double 0, .double 0, .double 0, .double 0, .double 0] [.int (nI ((S.1 i).length)), .int (nI 0), .ref n, .ref n] _ _ _ _
      refine mp_iastore dX4_digest_22 ((c10d (n) (by omega)).trans e4) rfl (by omega) (by omega) (fun h11 e12 f13 => ?_)
      refine mt_dup dX4_digest_23 rfl ?_
      refine mt_iconst dX4_digest_24 (v := nI 1) rfl ?_
      refine mt_aload_n dX4_digest_25 rfl rfl ?_
      refine mt_iload_n dX4_digest_26 rfl ?_
      refine mt_iconst dX4_digest_27 (v := nI 0) rfl ?_
      have hs14 := show sp_mark S (nI i) false = (0, .int (q_mark (S.1 i) false), S) from by simp only [sp_mark, dAt_s (show i < 4 by omega) (by decide)]
      have hmhs14 : mAt h11 n9 S (nI 0) := ⟨(f13 (27) (by omega)).trans c10c.1, by omega, _, _, mRows.fr (n' := n9) HR (by omega) (fun j j1 j2 j3 => (f13 (j) (by omega)).trans ((c10d (j) (by omega)).trans (f5 (j) (by omega)))) (by omega)⟩
      refine mt_callV (N := mX4_mark) (Rc := rX4_mark) (As := [.int (nI i), .int (nI 0)]) (st := [.int (nI 1), .ref n, .ref n]) dX4_digest_28 (kX4_mark (isStamps := false) hl hmhs14) sX4_mark mw_1362 mKX4 rfl ((f13 (27) (by omega)).trans c10c.1) rfl (Nat.le_of_ble_eq_true rfl) ⟨⟨Nat.le_of_ble_eq_true rfl, Nat.le_of_ble_eq_true rfl⟩, (by simp only [rX4_many, rX4_mark, rX4_wrong, rX4_ties, rX4_runs, rX4_longest, rX4_sum, rX4_unlike_, rX4_house, rX4_digest]; omega), (by simp only [rX4_many, rX4_mark, rX4_wrong, rX4_ties, rX4_runs, rX4_longest, rX4_sum, rX4_unlike_, rX4_house, rX4_digest]; omega)⟩ (fun v15 h16 n17 c18 => ?_) (fun _ _ _ hx => hx.elim)
      obtain ⟨c18a, c18b, c18c, c18d⟩ := c18.use hs14
      rw [c18a]
      show mT _ _ _ _ 31 [.ref 27, .long d, .double 0, .int (nI i), .double 0, .double 0, .double 0, .double 0, .double 0] [.int (q_mark (S.1 i) false), .int (nI 1), .ref n, .ref n] _ _ _ _
      refine mp_iastore dX4_digest_31 ((c18d (n) (by omega)).trans e12) rfl (by omega) (by omega) (fun h19 e20 f21 => ?_)
      refine mt_dup dX4_digest_32 rfl ?_
      refine mt_iconst dX4_digest_33 (v := nI 2) rfl ?_
      refine mt_aload_n dX4_digest_34 rfl rfl ?_
      refine mt_iload_n dX4_digest_35 rfl ?_
      refine mt_iconst dX4_digest_36 (v := nI 1) rfl ?_
      have hs22 := show sp_mark S (nI i) true = (0, .int (q_mark (S.1 i) true), S) from by simp only [sp_mark, dAt_s (show i < 4 by omega) (by decide)]
      have hmhs22 : mAt h19 n17 S (nI 0) := ⟨(f21 (27) (by omega)).trans c18c.1, by omega, _, _, mRows.fr (n' := n17) HR (by omega) (fun j j1 j2 j3 => (f21 (j) (by omega)).trans ((c18d (j) (by omega)).trans ((f13 (j) (by omega)).trans ((c10d (j) (by omega)).trans (f5 (j) (by omega)))))) (by omega)⟩
      refine mt_callV (N := mX4_mark) (Rc := rX4_mark) (As := [.int (nI i), .int (nI 1)]) (st := [.int (nI 2), .ref n, .ref n]) dX4_digest_37 (kX4_mark (isStamps := true) hl hmhs22) sX4_mark mw_1362 mKX4 rfl ((f21 (27) (by omega)).trans c18c.1) rfl (Nat.le_of_ble_eq_true rfl) ⟨⟨Nat.le_of_ble_eq_true rfl, Nat.le_of_ble_eq_true rfl⟩, (by simp only [rX4_many, rX4_mark, rX4_wrong, rX4_ties, rX4_runs, rX4_longest, rX4_sum, rX4_unlike_, rX4_house, rX4_digest]; omega), (by simp only [rX4_many, rX4_mark, rX4_wrong, rX4_ties, rX4_runs, rX4_longest, rX4_sum, rX4_unlike_, rX4_house, rX4_digest]; omega)⟩ (fun v23 h24 n25 c26 => ?_) (fun _ _ _ hx => hx.elim)
      obtain ⟨c26a, c26b, c26c, c26d⟩ := c26.use hs22
      rw [c26a]
      show mT _ _ _ _ 40 [.ref 27, .long d, .double 0, .int (nI i), .double 0, .double 0, .double 0, .double 0, .double 0] [.int (q_mark (S.1 i) true), .int (nI 2), .ref n, .ref n] _ _ _ _
      refine mp_iastore dX4_digest_40 ((c26d (n) (by omega)).trans e20) rfl (by omega) (by omega) (fun h27 e28 f29 => ?_)
      refine mt_dup dX4_digest_41 rfl ?_
      refine mt_iconst dX4_digest_42 (v := nI 3) rfl ?_
      refine mt_aload_n dX4_digest_43 rfl rfl ?_
      refine mt_iload_n dX4_digest_44 rfl ?_
      refine mt_iconst dX4_digest_45 (v := nI 0) rfl ?_
      have hs30 := show mp_wrong S (nI i) (nI 0) = (0, .int (mq_pairs (S.1 i) (nI 1)), S) from by simp only [mp_wrong, dAt_s (show i < 4 by omega) (by decide), dArg_s (k := 2) (j := 0) (by decide) (by decide)]
      have hmhs30 : mAt h27 n25 S (nI 0) := ⟨(f29 (27) (by omega)).trans c26c.1, by omega, _, _, mRows.fr (n' := n25) HR (by omega) (fun j j1 j2 j3 => (f29 (j) (by omega)).trans ((c26d (j) (by omega)).trans ((f21 (j) (by omega)).trans ((c18d (j) (by omega)).trans ((f13 (j) (by omega)).trans ((c10d (j) (by omega)).trans (f5 (j) (by omega)))))))) (by omega)⟩
      refine mt_callV (N := mX4_wrong) (Rc := rX4_wrong) (As := [.int (nI i), .int (nI 0)]) (st := [.int (nI 3), .ref n, .ref n]) dX4_digest_46 (kX4_wrong hl hmhs30) sX4_wrong mw_1363 mKX4 rfl ((f29 (27) (by omega)).trans c26c.1) rfl (Nat.le_of_ble_eq_true rfl) ⟨⟨Nat.le_of_ble_eq_true rfl, Nat.le_of_ble_eq_true rfl⟩, (by simp only [rX4_many, rX4_mark, rX4_wrong, rX4_ties, rX4_runs, rX4_longest, rX4_sum, rX4_unlike_, rX4_house, rX4_digest]; omega), (by simp only [rX4_many, rX4_mark, rX4_wrong, rX4_ties, rX4_runs, rX4_longest, rX4_sum, rX4_unlike_, rX4_house, rX4_digest]; omega)⟩ (fun v31 h32 n33 c34 => ?_) (fun _ _ _ hx => hx.elim)
      obtain ⟨c34a, c34b, c34c, c34d⟩ := c34.use hs30
      rw [c34a]
      show mT _ _ _ _ 49 [.ref 27, .long d, .double 0, .int (nI i), .double 0, .double 0, .double 0, .double 0, .double 0] [.int (mq_pairs (S.1 i) (nI 1)), .int (nI 3), .ref n, .ref n] _ _ _ _
      refine mp_iastore dX4_digest_49 ((c34d (n) (by omega)).trans e28) rfl (by omega) (by omega) (fun h35 e36 f37 => ?_)
      refine mt_dup dX4_digest_50 rfl ?_
      refine mt_iconst dX4_digest_51 (v := nI 4) rfl ?_
      refine mt_aload_n dX4_digest_52 rfl rfl ?_
      refine mt_iload_n dX4_digest_53 rfl ?_
      have hs38 := show mp_ties S (nI i) = (0, .int (mq_pairs (S.1 i) (nI 0)), S) from by simp only [mp_ties, dAt_s (show i < 4 by omega) (by decide)]
      have hmhs38 : mAt h35 n33 S (nI 0) := ⟨(f37 (27) (by omega)).trans c34c.1, by omega, _, _, mRows.fr (n' := n33) HR (by omega) (fun j j1 j2 j3 => (f37 (j) (by omega)).trans ((c34d (j) (by omega)).trans ((f29 (j) (by omega)).trans ((c26d (j) (by omega)).trans ((f21 (j) (by omega)).trans ((c18d (j) (by omega)).trans ((f13 (j) (by omega)).trans ((c10d (j) (by omega)).trans (f5 (j) (by omega)))))))))) (by omega)⟩
      refine mt_callV (N := mX4_ties) (Rc := rX4_ties) (As := [.int (nI i)]) (st := [.int (nI 4), .ref n, .ref n]) dX4_digest_54 (kX4_ties hl hmhs38) sX4_ties mw_1364 mKX4 rfl ((f37 (27) (by omega)).trans c34c.1) rfl (Nat.le_of_ble_eq_true rfl) ⟨⟨Nat.le_of_ble_eq_true rfl, Nat.le_of_ble_eq_true rfl⟩, (by simp only [rX4_many, rX4_mark, rX4_wrong, rX4_ties, rX4_runs, rX4_longest, rX4_sum, rX4_unlike_, rX4_house, rX4_digest]; omega), (by simp only [rX4_many, rX4_mark, rX4_wrong, rX4_ties, rX4_runs, rX4_longest, rX4_sum, rX4_unlike_, rX4_house, rX4_digest]; omega)⟩ (fun v39 h40 n41 c42 => ?_) (fun _ _ _ hx => hx.elim)
      obtain ⟨c42a, c42b, c42c, c42d⟩ := c42.use hs38
      rw [c42a]
      show mT _ _ _ _ 57 [.ref 27, .long d, .double 0, .int (nI i), .double 0, .double 0, .double 0, .double 0, .double 0] [.int (mq_pairs (S.1 i) (nI 0)), .int (nI 4), .ref n, .ref n] _ _ _ _
      refine mp_iastore dX4_digest_57 ((c42d (n) (by omega)).trans e36) rfl (by omega) (by omega) (fun h43 e44 f45 => ?_)
      refine mt_dup dX4_digest_58 rfl ?_
      refine mt_iconst dX4_digest_59 (v := nI 5) rfl ?_
      refine mt_aload_n dX4_digest_60 rfl rfl ?_
      refine mt_iload_n dX4_digest_61 rfl ?_
      have hs46 := show mp_runs S (nI i) = (0, .int (mruns (S.1 i) (S.1 i).length 0 (nI 0)), S) from by simp only [mp_runs, dAt_s (show i < 4 by omega) (by decide)]
      have hmhs46 : mAt h43 n41 S (nI 0) := ⟨(f45 (27) (by omega)).trans c42c.1, by omega, _, _, mRows.fr (n' := n41) HR (by omega) (fun j j1 j2 j3 => (f45 (j) (by omega)).trans ((c42d (j) (by omega)).trans ((f37 (j) (by omega)).trans ((c34d (j) (by omega)).trans ((f29 (j) (by omega)).trans ((c26d (j) (by omega)).trans ((f21 (j) (by omega)).trans ((c18d (j) (by omega)).trans ((f13 (j) (by omega)).trans ((c10d (j) (by omega)).trans (f5 (j) (by omega)))))))))))) (by omega)⟩
      refine mt_callV (N := mX4_runs) (Rc := rX4_runs) (As := [.int (nI i)]) (st := [.int (nI 5), .ref n, .ref n]) dX4_digest_62 (kX4_runs hl hmhs46) sX4_runs mw_1365 mKX4 rfl ((f45 (27) (by omega)).trans c42c.1) rfl (Nat.le_of_ble_eq_true rfl) ⟨⟨Nat.le_of_ble_eq_true rfl, Nat.le_of_ble_eq_true rfl⟩, (by simp only [rX4_many, rX4_mark, rX4_wrong, rX4_ties, rX4_runs, rX4_longest, rX4_sum, rX4_unlike_, rX4_house, rX4_digest]; omega), (by simp only [rX4_many, rX4_mark, rX4_wrong, rX4_ties, rX4_runs, rX4_longest, rX4_sum, rX4_unlike_, rX4_house, rX4_digest]; omega)⟩ (fun v47 h48 n49 c50 => ?_) (fun _ _ _ hx => hx.elim)
      obtain ⟨c50a, c50b, c50c, c50d⟩ := c50.use hs46
      rw [c50a]
      show mT _ _ _ _ 65 [.ref 27, .long d, .double 0, .int (nI i), .double 0, .double 0, .double 0, .double 0, .double 0] [.int (mruns (S.1 i) (S.1 i).length 0 (nI 0)), .int (nI 5), .ref n, .ref n] _ _ _ _
      refine mp_iastore dX4_digest_65 ((c50d (n) (by omega)).trans e44) rfl (by omega) (by omega) (fun h51 e52 f53 => ?_)
      refine mt_dup dX4_digest_66 rfl ?_
      refine mt_bipush dX4_digest_67 (v := nI 6) (by decide) ?_
      refine mt_aload_n dX4_digest_69 rfl rfl ?_
      refine mt_iload_n dX4_digest_70 rfl ?_
      have hs54 := show mp_longest S (nI i) = (0, .int (nI (mlp (lgS (S.1 i)) ((S.1 i).length - 0) 0 0)), S) from by simp only [mp_longest, dAt_s (show i < 4 by omega) (by decide)]
      have hmhs54 : mAt h51 n49 S (nI 0) := ⟨(f53 (27) (by omega)).trans c50c.1, by omega, _, _, mRows.fr (n' := n49) HR (by omega) (fun j j1 j2 j3 => (f53 (j) (by omega)).trans ((c50d (j) (by omega)).trans ((f45 (j) (by omega)).trans ((c42d (j) (by omega)).trans ((f37 (j) (by omega)).trans ((c34d (j) (by omega)).trans ((f29 (j) (by omega)).trans ((c26d (j) (by omega)).trans ((f21 (j) (by omega)).trans ((c18d (j) (by omega)).trans ((f13 (j) (by omega)).trans ((c10d (j) (by omega)).trans (f5 (j) (by omega)))))))))))))) (by omega)⟩
      refine mt_callV (N := mX4_longest) (Rc := rX4_longest) (As := [.int (nI i)]) (st := [.int (nI 6), .ref n, .ref n]) dX4_digest_71 (kX4_longest hl hmhs54) sX4_longest mw_1366 mKX4 rfl ((f53 (27) (by omega)).trans c50c.1) rfl (Nat.le_of_ble_eq_true rfl) ⟨⟨Nat.le_of_ble_eq_true rfl, Nat.le_of_ble_eq_true rfl⟩, (by simp only [rX4_many, rX4_mark, rX4_wrong, rX4_ties, rX4_runs, rX4_longest, rX4_sum, rX4_unlike_, rX4_house, rX4_digest]; omega), (by simp only [rX4_many, rX4_mark, rX4_wrong, rX4_ties, rX4_runs, rX4_longest, rX4_sum, rX4_unlike_, rX4_house, rX4_digest]; omega)⟩ (fun v55 h56 n57 c58 => ?_) (fun _ _ _ hx => hx.elim)
      obtain ⟨c58a, c58b, c58c, c58d⟩ := c58.use hs54
      rw [c58a]
      show mT _ _ _ _ 74 [.ref 27, .long d, .double 0, .int (nI i), .double 0, .double 0, .double 0, .double 0, .double 0] [.int (nI (mlp (lgS (S.1 i)) ((S.1 i).length - 0) 0 0)), .int (nI 6), .ref n, .ref n] _ _ _ _
      refine mp_iastore dX4_digest_74 ((c58d (n) (by omega)).trans e52) rfl (by omega) (by omega) (fun h59 e60 f61 => ?_)
      refine mt_dup dX4_digest_75 rfl ?_
      refine mt_bipush dX4_digest_76 (v := nI 7) (by decide) ?_
      refine mt_aload_n dX4_digest_78 rfl rfl ?_
      refine mt_iload_n dX4_digest_79 rfl ?_
      have hs62 := show mp_sum S (nI i) = (0, .int (mlp (suS (S.1 i)) ((S.1 i).length - 0) 0 (nI 0)), S) from by simp only [mp_sum, dAt_s (show i < 4 by omega) (by decide)]
      have hmhs62 : mAt h59 n57 S (nI 0) := ⟨(f61 (27) (by omega)).trans c58c.1, by omega, _, _, mRows.fr (n' := n57) HR (by omega) (fun j j1 j2 j3 => (f61 (j) (by omega)).trans ((c58d (j) (by omega)).trans ((f53 (j) (by omega)).trans ((c50d (j) (by omega)).trans ((f45 (j) (by omega)).trans ((c42d (j) (by omega)).trans ((f37 (j) (by omega)).trans ((c34d (j) (by omega)).trans ((f29 (j) (by omega)).trans ((c26d (j) (by omega)).trans ((f21 (j) (by omega)).trans ((c18d (j) (by omega)).trans ((f13 (j) (by omega)).trans ((c10d (j) (by omega)).trans (f5 (j) (by omega)))))))))))))))) (by omega)⟩
      refine mt_callV (N := mX4_sum) (Rc := rX4_sum) (As := [.int (nI i)]) (st := [.int (nI 7), .ref n, .ref n]) dX4_digest_80 (kX4_sum hl hmhs62) sX4_sum mw_1367 mKX4 rfl ((f61 (27) (by omega)).trans c58c.1) rfl (Nat.le_of_ble_eq_true rfl) ⟨⟨Nat.le_of_ble_eq_true rfl, Nat.le_of_ble_eq_true rfl⟩, (by simp only [rX4_many, rX4_mark, rX4_wrong, rX4_ties, rX4_runs, rX4_longest, rX4_sum, rX4_unlike_, rX4_house, rX4_digest]; omega), (by simp only [rX4_many, rX4_mark, rX4_wrong, rX4_ties, rX4_runs, rX4_longest, rX4_sum, rX4_unlike_, rX4_house, rX4_digest]; omega)⟩ (fun v63 h64 n65 c66 => ?_) (fun _ _ _ hx => hx.elim)
      obtain ⟨c66a, c66b, c66c, c66d⟩ := c66.use hs62
      rw [c66a]
      show mT _ _ _ _ 83 [.ref 27, .long d, .double 0, .int (nI i), .double 0, .double 0, .double 0, .double 0, .double 0] [.int (mlp (suS (S.1 i)) ((S.1 i).length - 0) 0 (nI 0)), .int (nI 7), .ref n, .ref n] _ _ _ _
      refine mp_iastore dX4_digest_83 ((c66d (n) (by omega)).trans e60) rfl (by omega) (by omega) (fun h67 e68 f69 => ?_)
      refine mt_dup dX4_digest_84 rfl ?_
      refine mt_bipush dX4_digest_85 (v := nI 8) (by decide) ?_
      refine mt_aload_n dX4_digest_87 rfl rfl ?_
      refine mt_iload_n dX4_digest_88 rfl ?_
      have hs70 := show mp_unlike S (nI i) = (0, .int (mlp (ulS (S.1 i)) ((S.1 i).length - 0) 0 (nI 0)), S) from by simp only [mp_unlike, dAt_s (show i < 4 by omega) (by decide)]
      have hmhs70 : mAt h67 n65 S (nI 0) := ⟨(f69 (27) (by omega)).trans c66c.1, by omega, _, _, mRows.fr (n' := n65) HR (by omega) (fun j j1 j2 j3 => (f69 (j) (by omega)).trans ((c66d (j) (by omega)).trans ((f61 (j) (by omega)).trans ((c58d (j) (by omega)).trans ((f53 (j) (by omega)).trans ((c50d (j) (by omega)).trans ((f45 (j) (by omega)).trans ((c42d (j) (by omega)).trans ((f37 (j) (by omega)).trans ((c34d (j) (by omega)).trans ((f29 (j) (by omega)).trans ((c26d (j) (by omega)).trans ((f21 (j) (by omega)).trans ((c18d (j) (by omega)).trans ((f13 (j) (by omega)).trans ((c10d (j) (by omega)).trans (f5 (j) (by omega)))))))))))))))))) (by omega)⟩
      refine mt_callV (N := mX4_unlike_) (Rc := rX4_unlike_) (As := [.int (nI i)]) (st := [.int (nI 8), .ref n, .ref n]) dX4_digest_89 (kX4_unlike_ hl hmhs70) sX4_unlike_ mw_1368 mKX4 rfl ((f69 (27) (by omega)).trans c66c.1) rfl (Nat.le_of_ble_eq_true rfl) ⟨⟨Nat.le_of_ble_eq_true rfl, Nat.le_of_ble_eq_true rfl⟩, (by simp only [rX4_many, rX4_mark, rX4_wrong, rX4_ties, rX4_runs, rX4_longest, rX4_sum, rX4_unlike_, rX4_house, rX4_digest]; omega), (by simp only [rX4_many, rX4_mark, rX4_wrong, rX4_ties, rX4_runs, rX4_longest, rX4_sum, rX4_unlike_, rX4_house, rX4_digest]; omega)⟩ (fun v71 h72 n73 c74 => ?_) (fun _ _ _ hx => hx.elim)
      obtain ⟨c74a, c74b, c74c, c74d⟩ := c74.use hs70
      rw [c74a]
      show mT _ _ _ _ 92 [.ref 27, .long d, .double 0, .int (nI i), .double 0, .double 0, .double 0, .double 0, .double 0] [.int (mlp (ulS (S.1 i)) ((S.1 i).length - 0) 0 (nI 0)), .int (nI 8), .ref n, .ref n] _ _ _ _
      refine mp_iastore dX4_digest_92 ((c74d (n) (by omega)).trans e68) rfl (by omega) (by omega) (fun h75 e76 f77 => ?_)
      refine mp_astore dX4_digest_93 (ls' := [.ref 27, .long d, .double 0, .int (nI i), .ref n, .double 0, .double 0, .double 0, .double 0]) rfl rfl (by decide) rfl ?_
      refine mt_aload dX4_digest_95 rfl rfl ?_
      refine mp_astore dX4_digest_97 (ls' := [.ref 27, .long d, .double 0, .int (nI i), .ref n, .ref n, .double 0, .double 0, .double 0]) rfl rfl (by decide) rfl ?_
      refine mt_aload dX4_digest_99 rfl rfl ?_
      refine mt_alen dX4_digest_101 e76 (by decide) ?_
      refine mp_istore dX4_digest_102 (ls' := [.ref 27, .long d, .double 0, .int (nI i), .ref n, .ref n, .int (nI 9), .double 0, .double 0]) rfl (by decide) rfl ?_
      have hf9 : ∀ k, k < 9 → (upd (upd (upd (upd (upd (upd (upd (upd (upd (fun _ => (0 : Int32)) 0 (nI ((S.1 i).length))) 1 (q_mark (S.1 i) false)) 2 (q_mark (S.1 i) true)) 3 (mq_pairs (S.1 i) (nI 1))) 4 (mq_pairs (S.1 i) (nI 0))) 5 (mruns (S.1 i) (S.1 i).length 0 (nI 0))) 6 (nI (mlp (lgS (S.1 i)) ((S.1 i).length - 0) 0 0))) 7 (mlp (suS (S.1 i)) ((S.1 i).length - 0) 0 (nI 0))) 8 (mlp (ulS (S.1 i)) ((S.1 i).length - 0) 0 (nI 0))) k = mdA S i k := by
        intro k hk
        obtain rfl | rfl | rfl | rfl | rfl | rfl | rfl | rfl | rfl : k = 0 ∨ k = 1 ∨ k = 2 ∨ k = 3 ∨ k = 4 ∨ k = 5 ∨ k = 6 ∨ k = 7 ∨ k = 8 := by omega
        all_goals rfl
      refine mt_iconst dX4_digest_104 (v := nI 0) rfl ?_
      refine mp_istore dX4_digest_105 (ls' := [.ref 27, .long d, .double 0, .int (nI i), .ref n, .ref n, .int (nI 9), .int (nI 0), .double 0]) rfl (by decide) rfl ?_
      refine tX4_digest_107 e76 hf9 (fun d_78 k_79 z80 => ?_) _ 0 d (Nat.lt_succ_self _) rfl (by omega)
      refine mp_iinc dX4_digest_137 rfl (v := nI (i + 1)) mI_inc (ls' := [.ref 27, .long d_78, .double 0, .int (nI (i + 1)), .ref n, .ref n, .int (nI 9), .int (nI k_79), .double 0]) rfl (by decide) rfl ?_
      refine mt_goto dX4_digest_140 (tgt := 6) rfl ?_
      refine mt_drop 4 (ls' := [.ref 27, .long d_78, .double 0, .int (nI (i + 1)), .double 0, .ref n, .int (nI 9), .int (nI k_79), .double 0]) rfl ?_
      refine mt_drop 5 (ls' := [.ref 27, .long d_78, .double 0, .int (nI (i + 1)), .double 0, .double 0, .int (nI 9), .int (nI k_79), .double 0]) rfl ?_
      refine mt_drop 6 (ls' := [.ref 27, .long d_78, .double 0, .int (nI (i + 1)), .double 0, .double 0, .double 0, .int (nI k_79), .double 0]) rfl ?_
      refine mt_drop 7 (ls' := [.ref 27, .long d_78, .double 0, .int (nI (i + 1)), .double 0, .double 0, .double 0, .double 0, .double 0]) rfl ?_
      refine mt_widen (cc' := 1 * (i + 1)) (sc' := 9 * (i + 1)) (by first | omega | (simp only [rX4_many, rX4_mark, rX4_wrong, rX4_ties, rX4_runs, rX4_longest, rX4_sum, rX4_unlike_, rX4_house, rX4_digest]; omega)) (by first | omega | (simp only [rX4_many, rX4_mark, rX4_wrong, rX4_ties, rX4_runs, rX4_longest, rX4_sum, rX4_unlike_, rX4_house, rX4_digest]; omega)) ?_
      exact ih (i + 1) d_78 h75 n73 (nI 0) (by omega) (⟨(f77 (27) (by omega)).trans c74c.1, by omega, _, _, mRows.fr (n' := n73) HR (by omega) (fun j j1 j2 j3 => (f77 (j) (by omega)).trans ((c74d (j) (by omega)).trans ((f69 (j) (by omega)).trans ((c66d (j) (by omega)).trans ((f61 (j) (by omega)).trans ((c58d (j) (by omega)).trans ((f53 (j) (by omega)).trans ((c50d (j) (by omega)).trans ((f45 (j) (by omega)).trans ((c42d (j) (by omega)).trans ((f37 (j) (by omega)).trans ((c34d (j) (by omega)).trans ((f29 (j) (by omega)).trans ((c26d (j) (by omega)).trans ((f21 (j) (by omega)).trans ((c18d (j) (by omega)).trans ((f13 (j) (by omega)).trans ((c10d (j) (by omega)).trans (f5 (j) (by omega)))))))))))))))))))) (by omega)⟩) (by omega) (fun j hj => ((f77 j (by omega)).trans ((c74d j (by omega)).trans ((f69 j (by omega)).trans ((c66d j (by omega)).trans ((f61 j (by omega)).trans ((c58d j (by omega)).trans ((f53 j (by omega)).trans ((c50d j (by omega)).trans ((f45 j (by omega)).trans ((c42d j (by omega)).trans ((f37 j (by omega)).trans ((c34d j (by omega)).trans ((f29 j (by omega)).trans ((c26d j (by omega)).trans ((f21 j (by omega)).trans ((c18d j (by omega)).trans ((f13 j (by omega)).trans ((c10d j (by omega)).trans (f5 j (by omega)))))))))))))))))))).trans (hfr j hj)) ((mlp_go (f := mdRow S) (by omega) z80.symm).symm.trans hr9) (by omega)
set_option maxRecDepth 100000 in
set_option maxHeartbeats 2000000 in
theorem tX4_digest_145 {l : Launch} {K : mK} {S : cS} {r9 : Int64} {h0 : mH} {n0 : Nat} (hl : l.stackTraces = false) (kk0 : ∀ (i : Nat) (d : Int64) (h : mH) (n : Nat) (th : Int32), (mAt h n S th) → (n0 ≤ n) → (∀ j, (j < n0 ∧ j ≠ 27) → h j = h0 j) → (d = r9) → mT l mX4_digest rX4_digest K 170 [.ref 27, .long d, .double 0, .int (nI i), .double 0, .double 0, .double 0, .double 0, .double 0] [] h n 10 72) : ∀ (N0 : Nat) (i : Nat) (d : Int64) (h : mH) (n : Nat) (th : Int32), (6 - i) < N0 → (mAt h n S th) → (n0 ≤ n) → (∀ j, (j < n0 ∧ j ≠ 27) → h j = h0 j) → (mlp (mdHouse S) (6 - i) i d = r9) → (i ≤ 6) → mT l mX4_digest rX4_digest K 145 [.ref 27, .long d, .double 0, .int (nI i), .double 0, .double 0, .double 0, .double 0, .double 0] [] h n (4 + i) (36 + 6 * i) := by
  intro N0
  induction N0 with
  | zero => intro i d h n th hm; exact absurd hm (Nat.not_lt_zero _)
  | succ N0 ih =>
    intro i d h n th hm C hn0 hfr hr9 hi
    obtain ⟨C0, h39, kx, sx, HR⟩ := id C
    obtain ⟨⟨gk_1, G28_1, GK_1⟩, ⟨gs_1, G33_1, GS_1⟩, AK_1, AS_1, NE_1, NQ_1, LE_1⟩ := id HR
    refine mt_iload_n dX4_digest_145 rfl ?_
    refine mt_bipush dX4_digest_146 (v := nI 6) (by decide) ?_
    refine mt_icmp_ge dX4_digest_148 (tgt := 170) rfl (fun q2 => ?_) (fun q2 => ?_)
    · have q2 := Int32.not_lt.mpr q2
      have q2 := (not_congr (nI_ltI (by omega) (by omega))).mp q2
      refine mt_widen (cc' := 10) (sc' := 72) (by first | omega | (simp only [rX4_many, rX4_mark, rX4_wrong, rX4_ties, rX4_runs, rX4_longest, rX4_sum, rX4_unlike_, rX4_house, rX4_digest]; omega)) (by first | omega | (simp only [rX4_many, rX4_mark, rX4_wrong, rX4_ties, rX4_runs, rX4_longest, rX4_sum, rX4_unlike_, rX4_house, rX4_digest]; omega)) ?_
      exact kk0 i d h n th C hn0 hfr ((mlp_end (f := mdHouse S) (by omega)).symm.trans hr9)
    · have q2 := Int32.not_le.mp q2
      have q2 := (nI_ltI (by omega) (by omega)).mp q2
      refine mt_lload_n dX4_digest_151 rfl ?_
      refine mt_ldc2 (v := 31) dX4_digest_152 mw_1369 ?_
      refine mt_lmul dX4_digest_155 ?_
      refine mt_aload_n dX4_digest_156 rfl rfl ?_
      refine mt_iload_n dX4_digest_157 rfl ?_
      have hs3 := mp_house_s (S := S) (show i < 6 by omega)
      have hmhs3 : mAt h n S th := ⟨C0, by omega, _, _, HR⟩
      refine mt_callV (N := mX4_house) (Rc := rX4_house) (As := [.int (nI i)]) (st := [.long (d * 31)]) dX4_digest_158 (kX4_house hl hmhs3) sX4_house mw_1370 mKX4 rfl C0 rfl (Nat.le_of_ble_eq_true rfl) ⟨⟨Nat.le_of_ble_eq_true rfl, Nat.le_of_ble_eq_true rfl⟩, (by simp only [rX4_many, rX4_mark, rX4_wrong, rX4_ties, rX4_runs, rX4_longest, rX4_sum, rX4_unlike_, rX4_house, rX4_digest]; omega), (by simp only [rX4_many, rX4_mark, rX4_wrong, rX4_ties, rX4_runs, rX4_longest, rX4_sum, rX4_unlike_, rX4_house, rX4_digest]; omega)⟩ (fun v4 h5 n6 c7 => ?_) (fun _ _ _ hx => hx.elim)
      obtain ⟨c7a, c7b, c7c, c7d⟩ := c7.use hs3
      rw [c7a]
      show mT _ _ _ _ 161 [.ref 27, .long d, .double 0, .int (nI i), .double 0, .double 0, .double 0, .double 0, .double 0] [.int (mq_house S i), .long (d * 31)] _ _ _ _
      refine mt_i2l dX4_digest_161 ?_
      refine mt_ladd dX4_digest_162 ?_
      refine mp_lstore_n dX4_digest_163 (ls' := [.ref 27, .long ((d * 31) + ((mq_house S i).toInt64)), .double 0, .int (nI i), .double 0, .double 0, .double 0, .double 0, .double 0]) rfl (by decide) rfl ?_
      refine mp_iinc dX4_digest_164 rfl (v := nI (i + 1)) mI_inc (ls' := [.ref 27, .long ((d * 31) + ((mq_house S i).toInt64)), .double 0, .int (nI (i + 1)), .double 0, .double 0, .double 0, .double 0, .double 0]) rfl (by decide) rfl ?_
      refine mt_goto dX4_digest_167 (tgt := 145) rfl ?_
      refine mt_widen (cc' := 4 + (i + 1)) (sc' := 36 + 6 * (i + 1)) (by first | omega | (simp only [rX4_many, rX4_mark, rX4_wrong, rX4_ties, rX4_runs, rX4_longest, rX4_sum, rX4_unlike_, rX4_house, rX4_digest]; omega)) (by first | omega | (simp only [rX4_many, rX4_mark, rX4_wrong, rX4_ties, rX4_runs, rX4_longest, rX4_sum, rX4_unlike_, rX4_house, rX4_digest]; omega)) ?_
      exact ih (i + 1) ((d * 31) + ((mq_house S i).toInt64)) h5 n6 (nI 0) (by omega) (⟨c7c.1, by omega, _, _, mRows.fr (n' := n6) HR (by omega) (fun j j1 j2 j3 => c7d (j) (by omega)) (by omega)⟩) (by omega) (fun j hj => (c7d j (by omega)).trans (hfr j hj)) ((mlp_go (f := mdHouse S) (by omega) rfl).symm.trans hr9) (by omega)
set_option maxRecDepth 100000 in
set_option maxHeartbeats 2000000 in
theorem kX4_digest {l : Launch} (hl : l.stackTraces = false) {h : mH} {n : Nat} {S : cS} {th : Int32} (C : mAt h n S th) : mC l mX4_digest rX4_digest [.ref 27] h n (mOkq ((0 : Nat), Value.long (mq_digest S), S) (.long 0) h n) (mNX) := by
  obtain ⟨C0, h39, kx, sx, HR⟩ := id C
  obtain ⟨⟨gk_1, G28_1, GK_1⟩, ⟨gs_1, G33_1, GS_1⟩, AK_1, AS_1, NE_1, NQ_1, LE_1⟩ := id HR
  refine mm_enter hl (by decide +kernel) rfl rfl rfl (Nat.le_of_ble_eq_true rfl) ?_
  show mT _ _ _ _ 0 [.ref 27, .double 0, .double 0, .double 0, .double 0, .double 0, .double 0, .double 0, .double 0] [] _ _ 0 0
  refine mt_ldc2 (v := 8007) dX4_digest_0 mw_1360 ?_
  refine mp_lstore_n dX4_digest_3 (ls' := [.ref 27, .long 8007, .double 0, .double 0, .double 0, .double 0, .double 0, .double 0, .double 0]) rfl (by decide) rfl ?_
  refine mt_iconst dX4_digest_4 (v := nI 0) rfl ?_
  refine mp_istore_n dX4_digest_5 (ls' := [.ref 27, .long 8007, .double 0, .int (nI 0), .double 0, .double 0, .double 0, .double 0, .double 0]) rfl (by decide) rfl ?_
  refine tX4_digest_6 hl (fun i_2 d_3 h_4 n_5 th_6 z7 z8 z9 z10 => ?_) _ 0 8007 h n th (Nat.lt_succ_self _) (⟨C0, by omega, _, _, HR⟩) (Nat.le_refl _) (fun _ _ => rfl) rfl (by omega)
  obtain ⟨C0z11, h39z11, kxz11, sxz11, HRz11⟩ := id z7
  obtain ⟨⟨gk_12, G28_12, GK_12⟩, ⟨gs_12, G33_12, GS_12⟩, AK_12, AS_12, NE_12, NQ_12, LE_12⟩ := id HRz11
  refine mt_iconst dX4_digest_143 (v := nI 0) rfl ?_
  refine mp_istore_n dX4_digest_144 (ls' := [.ref 27, .long d_3, .double 0, .int (nI 0), .double 0, .double 0, .double 0, .double 0, .double 0]) rfl (by decide) rfl ?_
  refine tX4_digest_145 hl (fun i_13 d_14 h_15 n_16 th_17 z18 z19 z20 z21 => ?_) _ 0 d_3 h_4 n_5 th_6 (Nat.lt_succ_self _) (⟨C0z11, by omega, _, _, HRz11⟩) (Nat.le_refl _) (fun _ _ => rfl) rfl (by omega)
  obtain ⟨C0z22, h39z22, kxz22, sxz22, HRz22⟩ := id z18
  obtain ⟨⟨gk_23, G28_23, GK_23⟩, ⟨gs_23, G33_23, GS_23⟩, AK_23, AS_23, NE_23, NQ_23, LE_23⟩ := id HRz22
  refine mt_aload_n dX4_digest_170 rfl rfl ?_
  refine mt_iconst dX4_digest_171 (v := nI 0) rfl ?_
  refine mp_putfield mKX4 (i := 6) (fs' := [.ref 28, .ref 33, .int S.2.1, .int S.2.2.1, .int S.2.2.2.1, .int S.2.2.2.2, .int (nI 0)]) (by decide) mw_1059 rfl dX4_digest_172 C0z22 (Nat.le_of_ble_eq_true rfl) rfl rfl (fun h24 e25 f26 => ?_)
  refine mt_lload_n dX4_digest_175 rfl ?_
  refine mt_ldc2 (v := 31) dX4_digest_176 mw_1369 ?_
  refine mt_lmul dX4_digest_179 ?_
  refine mt_lconst dX4_digest_180 (v := 1) rfl ?_
  refine mt_ladd dX4_digest_181 ?_
  refine mt_lreturn dX4_digest_182 rfl (by simp only [rX4_many, rX4_mark, rX4_wrong, rX4_ties, rX4_runs, rX4_longest, rX4_sum, rX4_unlike_, rX4_house, rX4_digest]; omega) (by simp only [rX4_many, rX4_mark, rX4_wrong, rX4_ties, rX4_runs, rX4_longest, rX4_sum, rX4_unlike_, rX4_house, rX4_digest]; omega) ?_
  exact mOkq.of (x := .long (mq_digest S)) (S' := S) rfl (by rw [z21, z10]; rfl) (by omega) e25 (by omega) (mRows.fr (n' := n_16) HRz22 (by omega) (fun j j1 j2 j3 => f26 (j) (by omega)) (by omega)) (fun j hj => (f26 (j) (by omega)).trans ((z20 j (by omega)).trans (z9 j (by omega))))
