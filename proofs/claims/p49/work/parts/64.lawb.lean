/-! ===== the law: turned ===== -/
abbrev rL_isTurned : Room := { frames := 8, cells := 400, slots := 3000, locals := 146 }
set_option maxRecDepth 100000 in
set_option maxHeartbeats 2000000 in
theorem kL_isTurned {l : Launch} (hl : l.stackTraces = false) {h : mH} {n r : Nat} {S : cS} {x : Int32} (C : cAt h S) (hr : r < 4) : mC l mL_isTurned rL_isTurned [.ref 0, .int (nI r), .int x] h n (fun v h' n' => v = some (.int (nI 1)) ∧ n ≤ n' ∧ ∃ S', cAt h' S') (mNX) := by
  obtain ⟨X, hX⟩ : ∃ z, S.1 r = z := ⟨_, rfl⟩
  have hX3 : X.length ≤ 320 := by rw [← hX]; exact (lenOk_of C).le hr
  refine mm_enter hl (by decide +kernel) rfl rfl rfl (Nat.le_of_ble_eq_true rfl) ?_
  show mT _ _ _ _ 0 [.ref 0, .int (nI r), .int x, .double 0, .double 0] [] _ _ 0 0
  refine mt_aload_n dL_isTurned_0 rfl rfl ?_
  refine mt_iload_n dL_isTurned_1 rfl ?_
  refine mt_iload_n dL_isTurned_2 rfl ?_
  refine mt_bipush dL_isTurned_3 (v := nI 15) (by decide) ?_
  refine mt_bipush dL_isTurned_5 (v := nI 40) (by decide) ?_
  refine mt_callS (N := mL_pick) (Rc := rL_pick) (As := [.int x, .int (nI 15), .int (nI 40)]) (st := [.int (nI r), .ref 0]) dL_isTurned_7 (kL_pick hl (by omega) (by omega)) sL_pick mw_203 rfl (Nat.le_of_ble_eq_true rfl) ⟨⟨Nat.le_of_ble_eq_true rfl, Nat.le_of_ble_eq_true rfl⟩, (by simp only [rL_pick, rX2_fill, rX2_copy, rX2_many, rX2_sort, rX2_turn, rX2_same, rX2_right, rX2_ties, rX2_wrong, rL_isTurned]; omega), (by simp only [rL_pick, rX2_fill, rX2_copy, rX2_many, rX2_sort, rX2_turn, rX2_same, rX2_right, rX2_ties, rX2_wrong, rL_isTurned]; omega)⟩ (fun v1 h2 n3 c4 => ?_) (fun _ _ _ hx => hx.elim)
  obtain ⟨j5, hj5, c4a, c4b, c4c⟩ := c4
  rw [c4a, c4b, c4c]
  show mT _ _ _ _ 10 [.ref 0, .int (nI r), .int x, .double 0, .double 0] [.int (nI j5), .int (nI r), .ref 0] _ _ _ _
  refine mt_iconst dL_isTurned_10 (v := nI 2) rfl ?_
  refine mt_iload_n dL_isTurned_11 rfl ?_
  refine mt_bipush dL_isTurned_12 (v := nI 16) (by decide) ?_
  refine mt_bipush dL_isTurned_14 (v := nI 99) (by decide) ?_
  refine mt_callS (N := mL_pick) (Rc := rL_pick) (As := [.int x, .int (nI 16), .int (nI 99)]) (st := [.int (nI 2), .int (nI j5), .int (nI r), .ref 0]) dL_isTurned_16 (kL_pick hl (by omega) (by omega)) sL_pick mw_203 rfl (Nat.le_of_ble_eq_true rfl) ⟨⟨Nat.le_of_ble_eq_true rfl, Nat.le_of_ble_eq_true rfl⟩, (by simp only [rL_pick, rX2_fill, rX2_copy, rX2_many, rX2_sort, rX2_turn, rX2_same, rX2_right, rX2_ties, rX2_wrong, rL_isTurned]; omega), (by simp only [rL_pick, rX2_fill, rX2_copy, rX2_many, rX2_sort, rX2_turn, rX2_same, rX2_right, rX2_ties, rX2_wrong, rL_isTurned]; omega)⟩ (fun v6 h7 n8 c9 => ?_) (fun _ _ _ hx => hx.elim)
  obtain ⟨j10, hj10, c9a, c9b, c9c⟩ := c9
  rw [c9a, c9b, c9c]
  show mT _ _ _ _ 19 [.ref 0, .int (nI r), .int x, .double 0, .double 0] [.int (nI j10), .int (nI 2), .int (nI j5), .int (nI r), .ref 0] _ _ _ _
  refine mt_iconst dL_isTurned_19 (v := nI 1) rfl ?_
  refine mt_iload_n dL_isTurned_20 rfl ?_
  refine mt_bipush dL_isTurned_21 (v := nI 17) (by decide) ?_
  refine mt_bipush dL_isTurned_23 (v := nI 9) (by decide) ?_
  refine mt_callS (N := mL_pick) (Rc := rL_pick) (As := [.int x, .int (nI 17), .int (nI 9)]) (st := [.int (nI 1), .int (nI j10), .int (nI 2), .int (nI j5), .int (nI r), .ref 0]) dL_isTurned_25 (kL_pick hl (by omega) (by omega)) sL_pick mw_203 rfl (Nat.le_of_ble_eq_true rfl) ⟨⟨Nat.le_of_ble_eq_true rfl, Nat.le_of_ble_eq_true rfl⟩, (by simp only [rL_pick, rX2_fill, rX2_copy, rX2_many, rX2_sort, rX2_turn, rX2_same, rX2_right, rX2_ties, rX2_wrong, rL_isTurned]; omega), (by simp only [rL_pick, rX2_fill, rX2_copy, rX2_many, rX2_sort, rX2_turn, rX2_same, rX2_right, rX2_ties, rX2_wrong, rL_isTurned]; omega)⟩ (fun v11 h12 n13 c14 => ?_) (fun _ _ _ hx => hx.elim)
  obtain ⟨j15, hj15, c14a, c14b, c14c⟩ := c14
  rw [c14a, c14b, c14c]
  show mT _ _ _ _ 28 [.ref 0, .int (nI r), .int x, .double 0, .double 0] [.int (nI j15), .int (nI 1), .int (nI j10), .int (nI 2), .int (nI j5), .int (nI r), .ref 0] _ _ _ _
  refine mp_iadd dL_isTurned_28 (v := nI (1 + j15)) (nI_add _ _) ?_
  refine mt_callV (N := mX2_fill) (Rc := rX2_fill) (As := [.int (nI r), .int (nI j5), .int (nI 2), .int (nI j10), .int (nI (1 + j15))]) (st := []) dL_isTurned_29 ((kX2_fill hl C).good (v := .int (nI X.length)) (S' := cAct (cGiv (cSet S r (fillL 2 j5 (nI j10) (1 + j15) (decide (r < 2)) S.2.1).1) (fillL 2 j5 (nI j10) (1 + j15) (decide (r < 2)) S.2.1).2)) (by rw [g_fill hr (by have := @rroom_ge r; omega) (by omega) (aok_n (by omega)) (by omega) (by omega), hX])) sX2_fill mw_288 mKX2 rfl C.1 rfl (Nat.le_of_ble_eq_true rfl) ⟨⟨Nat.le_of_ble_eq_true rfl, Nat.le_of_ble_eq_true rfl⟩, (by simp only [rL_pick, rX2_fill, rX2_copy, rX2_many, rX2_sort, rX2_turn, rX2_same, rX2_right, rX2_ties, rX2_wrong, rL_isTurned]; omega), (by simp only [rL_pick, rX2_fill, rX2_copy, rX2_many, rX2_sort, rX2_turn, rX2_same, rX2_right, rX2_ties, rX2_wrong, rL_isTurned]; omega)⟩ (fun v16 h17 n18 c19 => ?_) (fun _ _ _ hx => hx.elim)
  obtain ⟨c19a, c19b, c19c, c19d⟩ := c19
  rw [c19a, c19b]
  obtain ⟨S_20, eS_20⟩ : ∃ z, z = cAct (cGiv (cSet S r (fillL 2 j5 (nI j10) (1 + j15) (decide (r < 2)) S.2.1).1) (fillL 2 j5 (nI j10) (1 + j15) (decide (r < 2)) S.2.1).2) := ⟨_, rfl⟩
  rw [← eS_20] at c19c
  have xS_20_r : S_20.1 r = (fillL 2 j5 (nI j10) (1 + j15) (decide (r < 2)) S.2.1).1 := by rw [eS_20]; exact cGiv_at
  show mT _ _ _ _ 32 [.ref 0, .int (nI r), .int x, .double 0, .double 0] [.int (nI X.length)] _ _ _ _
  have hF := lf_fill2 (m := j5) (b := 1 + j15) (a := j10) (bl := decide (r < 2)) (g := S.2.1) (by omega) (by omega) (by omega) (by omega)
  obtain ⟨F, eF⟩ : ∃ z, z = (fillL 2 j5 (nI j10) (1 + j15) (decide (r < 2)) S.2.1).1 := ⟨_, rfl⟩
  rw [← eF] at xS_20_r
  rw [← eF] at hF
  obtain ⟨hFl, hFf⟩ := hF
  have hF3 : F.length ≤ 320 := by rw [← xS_20_r]; exact (lenOk_of c19c).le hr
  refine mt_if_lt dL_isTurned_32 (tgt := 74) rfl (fun q21 => ?_) (fun q21 => ?_)
  · have q21 := (mI_lt0 (by omega)).mp q21
    exact q21.elim
  · have q21 := (not_congr (mI_lt0 (by omega))).mp q21
    refine mt_joinS (pc2 := 76) (ls2 := [.ref 0, .int (nI r), .int x, .double 0, .double 0]) (st2 := []) (n2 := n) (cc2 := 300) (sc2 := 2000) (fun h9 S9 C9 => ?_) (fun kk22 => ?_)
    · obtain ⟨X9, hX9⟩ : ∃ z, S9.1 r = z := ⟨_, rfl⟩
      have hX93 : X9.length ≤ 320 := by rw [← hX9]; exact (lenOk_of C9).le hr
      refine mt_aload_n dL_isTurned_76 rfl rfl ?_
      refine mt_iload_n dL_isTurned_77 rfl ?_
      refine mt_iload_n dL_isTurned_78 rfl ?_
      refine mt_bipush dL_isTurned_79 (v := nI 18) (by decide) ?_
      refine mt_bipush dL_isTurned_81 (v := nI 40) (by decide) ?_
      refine mt_callS (N := mL_pick) (Rc := rL_pick) (As := [.int x, .int (nI 18), .int (nI 40)]) (st := [.int (nI r), .ref 0]) dL_isTurned_83 (kL_pick hl (by omega) (by omega)) sL_pick mw_203 rfl (Nat.le_of_ble_eq_true rfl) ⟨⟨Nat.le_of_ble_eq_true rfl, Nat.le_of_ble_eq_true rfl⟩, (by simp only [rL_pick, rX2_fill, rX2_copy, rX2_many, rX2_sort, rX2_turn, rX2_same, rX2_right, rX2_ties, rX2_wrong, rL_isTurned]; omega), (by simp only [rL_pick, rX2_fill, rX2_copy, rX2_many, rX2_sort, rX2_turn, rX2_same, rX2_right, rX2_ties, rX2_wrong, rL_isTurned]; omega)⟩ (fun v23 h24 n25 c26 => ?_) (fun _ _ _ hx => hx.elim)
      obtain ⟨j27, hj27, c26a, c26b, c26c⟩ := c26
      rw [c26a, c26b, c26c]
      show mT _ _ _ _ 86 [.ref 0, .int (nI r), .int x, .double 0, .double 0] [.int (nI j27), .int (nI r), .ref 0] _ _ _ _
      refine mt_iload_n dL_isTurned_86 rfl ?_
      refine mt_bipush dL_isTurned_87 (v := nI 19) (by decide) ?_
      refine mt_bipush dL_isTurned_89 (v := nI 8) (by decide) ?_
      refine mt_callS (N := mL_pick) (Rc := rL_pick) (As := [.int x, .int (nI 19), .int (nI 8)]) (st := [.int (nI j27), .int (nI r), .ref 0]) dL_isTurned_91 (kL_pick hl (by omega) (by omega)) sL_pick mw_203 rfl (Nat.le_of_ble_eq_true rfl) ⟨⟨Nat.le_of_ble_eq_true rfl, Nat.le_of_ble_eq_true rfl⟩, (by simp only [rL_pick, rX2_fill, rX2_copy, rX2_many, rX2_sort, rX2_turn, rX2_same, rX2_right, rX2_ties, rX2_wrong, rL_isTurned]; omega), (by simp only [rL_pick, rX2_fill, rX2_copy, rX2_many, rX2_sort, rX2_turn, rX2_same, rX2_right, rX2_ties, rX2_wrong, rL_isTurned]; omega)⟩ (fun v28 h29 n30 c31 => ?_) (fun _ _ _ hx => hx.elim)
      obtain ⟨j32, hj32, c31a, c31b, c31c⟩ := c31
      rw [c31a, c31b, c31c]
      show mT _ _ _ _ 94 [.ref 0, .int (nI r), .int x, .double 0, .double 0] [.int (nI j32), .int (nI j27), .int (nI r), .ref 0] _ _ _ _
      refine mt_iconst dL_isTurned_94 (v := nI 0) rfl ?_
      refine mt_iconst dL_isTurned_95 (v := nI 1) rfl ?_
      refine mt_iload_n dL_isTurned_96 rfl ?_
      refine mt_bipush dL_isTurned_97 (v := nI 20) (by decide) ?_
      refine mt_bipush dL_isTurned_99 (v := nI 12) (by decide) ?_
      refine mt_callS (N := mL_pick) (Rc := rL_pick) (As := [.int x, .int (nI 20), .int (nI 12)]) (st := [.int (nI 1), .int (nI 0), .int (nI j32), .int (nI j27), .int (nI r), .ref 0]) dL_isTurned_101 (kL_pick hl (by omega) (by omega)) sL_pick mw_203 rfl (Nat.le_of_ble_eq_true rfl) ⟨⟨Nat.le_of_ble_eq_true rfl, Nat.le_of_ble_eq_true rfl⟩, (by simp only [rL_pick, rX2_fill, rX2_copy, rX2_many, rX2_sort, rX2_turn, rX2_same, rX2_right, rX2_ties, rX2_wrong, rL_isTurned]; omega), (by simp only [rL_pick, rX2_fill, rX2_copy, rX2_many, rX2_sort, rX2_turn, rX2_same, rX2_right, rX2_ties, rX2_wrong, rL_isTurned]; omega)⟩ (fun v33 h34 n35 c36 => ?_) (fun _ _ _ hx => hx.elim)
      obtain ⟨j37, hj37, c36a, c36b, c36c⟩ := c36
      rw [c36a, c36b, c36c]
      show mT _ _ _ _ 104 [.ref 0, .int (nI r), .int x, .double 0, .double 0] [.int (nI j37), .int (nI 1), .int (nI 0), .int (nI j32), .int (nI j27), .int (nI r), .ref 0] _ _ _ _
      refine mp_iadd dL_isTurned_104 (v := nI (1 + j37)) (nI_add _ _) ?_
      refine mt_callV (N := mX2_fill) (Rc := rX2_fill) (As := [.int (nI r), .int (nI j27), .int (nI j32), .int (nI 0), .int (nI (1 + j37))]) (st := []) dL_isTurned_105 ((kX2_fill hl C9).good (v := .int (nI X9.length)) (S' := cAct (cGiv (cSet S9 r (fillL j32 j27 (nI 0) (1 + j37) (decide (r < 2)) S9.2.1).1) (fillL j32 j27 (nI 0) (1 + j37) (decide (r < 2)) S9.2.1).2)) (by rw [g_fill hr (by have := @rroom_ge r; omega) (by omega) (aok_n (by decide)) (by omega) (by omega), hX9])) sX2_fill mw_288 mKX2 rfl C9.1 rfl (Nat.le_of_ble_eq_true rfl) ⟨⟨Nat.le_of_ble_eq_true rfl, Nat.le_of_ble_eq_true rfl⟩, (by simp only [rL_pick, rX2_fill, rX2_copy, rX2_many, rX2_sort, rX2_turn, rX2_same, rX2_right, rX2_ties, rX2_wrong, rL_isTurned]; omega), (by simp only [rL_pick, rX2_fill, rX2_copy, rX2_many, rX2_sort, rX2_turn, rX2_same, rX2_right, rX2_ties, rX2_wrong, rL_isTurned]; omega)⟩ (fun v38 h39 n40 c41 => ?_) (fun _ _ _ hx => hx.elim)
      obtain ⟨c41a, c41b, c41c, c41d⟩ := c41
      rw [c41a, c41b]
      obtain ⟨S_42, eS_42⟩ : ∃ z, z = cAct (cGiv (cSet S9 r (fillL j32 j27 (nI 0) (1 + j37) (decide (r < 2)) S9.2.1).1) (fillL j32 j27 (nI 0) (1 + j37) (decide (r < 2)) S9.2.1).2) := ⟨_, rfl⟩
      rw [← eS_42] at c41c
      have xS_42_r : S_42.1 r = (fillL j32 j27 (nI 0) (1 + j37) (decide (r < 2)) S9.2.1).1 := by rw [eS_42]; exact cGiv_at
      show mT _ _ _ _ 108 [.ref 0, .int (nI r), .int x, .double 0, .double 0] [.int (nI X9.length)] _ _ _ _
      obtain ⟨F2, eF2⟩ : ∃ z, z = (fillL j32 j27 (nI 0) (1 + j37) (decide (r < 2)) S9.2.1).1 := ⟨_, rfl⟩
      rw [← eF2] at xS_42_r
      have hF23 : F2.length ≤ 320 := by rw [← xS_42_r]; exact (lenOk_of c41c).le hr
      obtain ⟨c3, hc3, ec3⟩ := lf_otherk (xs := F2) (ys := rv F2 F2.length) hF23
      refine mt_if_ge dL_isTurned_108 (tgt := 113) rfl (fun q43 => ?_) (fun q43 => ?_)
      · have q43 := Int32.not_lt.mpr q43
        have q43 := (not_congr (mI_lt0 (by omega))).mp q43
        refine mt_aload_n dL_isTurned_113 rfl rfl ?_
        refine mt_iload_n dL_isTurned_114 rfl ?_
        refine mt_callV (N := mX2_right) (Rc := rX2_right) (As := [.int (nI r)]) (st := []) dL_isTurned_115 ((kX2_right hl c41c).good (v := .int (q_rightPairs F2)) (S' := S_42) (by rw [g_right hr, xS_42_r])) sX2_right mw_440 mKX2 rfl c41c.1 rfl (Nat.le_of_ble_eq_true rfl) ⟨⟨Nat.le_of_ble_eq_true rfl, Nat.le_of_ble_eq_true rfl⟩, (by simp only [rL_pick, rX2_fill, rX2_copy, rX2_many, rX2_sort, rX2_turn, rX2_same, rX2_right, rX2_ties, rX2_wrong, rL_isTurned]; omega), (by simp only [rL_pick, rX2_fill, rX2_copy, rX2_many, rX2_sort, rX2_turn, rX2_same, rX2_right, rX2_ties, rX2_wrong, rL_isTurned]; omega)⟩ (fun v44 h45 n46 c47 => ?_) (fun _ _ _ hx => hx.elim)
        obtain ⟨c47a, c47b, c47c, c47d⟩ := c47
        rw [c47a, c47b]
        show mT _ _ _ _ 118 [.ref 0, .int (nI r), .int x, .double 0, .double 0] [.int (q_rightPairs F2)] _ _ _ _
        refine mp_istore_n dL_isTurned_118 (ls' := [.ref 0, .int (nI r), .int x, .int (q_rightPairs F2), .double 0]) rfl (by decide) rfl ?_
        refine mt_aload_n dL_isTurned_119 rfl rfl ?_
        refine mt_iload_n dL_isTurned_120 rfl ?_
        refine mt_callV (N := mX2_ties) (Rc := rX2_ties) (As := [.int (nI r)]) (st := []) dL_isTurned_121 ((kX2_ties hl c47c).good (v := .int (q_tiedPairsOfSorted (msort F2).1)) (S' := S_42) (by rw [g_ties hr, xS_42_r])) sX2_ties mw_444 mKX2 rfl c47c.1 rfl (Nat.le_of_ble_eq_true rfl) ⟨⟨Nat.le_of_ble_eq_true rfl, Nat.le_of_ble_eq_true rfl⟩, (by simp only [rL_pick, rX2_fill, rX2_copy, rX2_many, rX2_sort, rX2_turn, rX2_same, rX2_right, rX2_ties, rX2_wrong, rL_isTurned]; omega), (by simp only [rL_pick, rX2_fill, rX2_copy, rX2_many, rX2_sort, rX2_turn, rX2_same, rX2_right, rX2_ties, rX2_wrong, rL_isTurned]; omega)⟩ (fun v48 h49 n50 c51 => ?_) (fun _ _ _ hx => hx.elim)
        obtain ⟨c51a, c51b, c51c, c51d⟩ := c51
        rw [c51a, c51b]
        show mT _ _ _ _ 124 [.ref 0, .int (nI r), .int x, .int (q_rightPairs F2), .double 0] [.int (q_tiedPairsOfSorted (msort F2).1)] _ _ _ _
        refine mp_istore dL_isTurned_124 (ls' := [.ref 0, .int (nI r), .int x, .int (q_rightPairs F2), .int (q_tiedPairsOfSorted (msort F2).1)]) rfl (by decide) rfl ?_
        refine mt_aload_n dL_isTurned_126 rfl rfl ?_
        refine mt_iload_n dL_isTurned_127 rfl ?_
        refine mt_callV (N := mX2_turn) (Rc := rX2_turn) (As := [.int (nI r)]) (st := []) dL_isTurned_128 ((kX2_turn hl c51c).good (v := .int (nI c3)) (S' := cAct (cSet S_42 r (rv F2 F2.length))) (by rw [g_turn hr, xS_42_r, ec3])) sX2_turn mw_389 mKX2 rfl c51c.1 rfl (Nat.le_of_ble_eq_true rfl) ⟨⟨Nat.le_of_ble_eq_true rfl, Nat.le_of_ble_eq_true rfl⟩, (by simp only [rL_pick, rX2_fill, rX2_copy, rX2_many, rX2_sort, rX2_turn, rX2_same, rX2_right, rX2_ties, rX2_wrong, rL_isTurned]; omega), (by simp only [rL_pick, rX2_fill, rX2_copy, rX2_many, rX2_sort, rX2_turn, rX2_same, rX2_right, rX2_ties, rX2_wrong, rL_isTurned]; omega)⟩ (fun v52 h53 n54 c55 => ?_) (fun _ _ _ hx => hx.elim)
        obtain ⟨c55a, c55b, c55c, c55d⟩ := c55
        rw [c55a, c55b]
        obtain ⟨S_56, eS_56⟩ : ∃ z, z = cAct (cSet S_42 r (rv F2 F2.length)) := ⟨_, rfl⟩
        rw [← eS_56] at c55c
        have xS_56_r : S_56.1 r = rv F2 F2.length := by rw [eS_56]; exact cAct_at
        show mT _ _ _ _ 131 [.ref 0, .int (nI r), .int x, .int (q_rightPairs F2), .int (q_tiedPairsOfSorted (msort F2).1)] [.int (nI c3)] _ _ _ _
        refine mt_if_lt dL_isTurned_131 (tgt := 158) rfl (fun q57 => ?_) (fun q57 => ?_)
        · have q57 := (mI_lt0 (by omega)).mp q57
          exact q57.elim
        · have q57 := (not_congr (mI_lt0 (by omega))).mp q57
          refine mt_aload_n dL_isTurned_134 rfl rfl ?_
          refine mt_iload_n dL_isTurned_135 rfl ?_
          refine mt_iconst dL_isTurned_136 (v := nI 0) rfl ?_
          refine mt_callV (N := mX2_wrong) (Rc := rX2_wrong) (As := [.int (nI r), .int (nI 0)]) (st := []) dL_isTurned_137 ((kX2_wrong hl c55c).good (v := .int (q_rightPairs F2)) (S' := S_56) (by rw [g_wrong0 hr, xS_56_r, lf_turned.1])) sX2_wrong mw_436 mKX2 rfl c55c.1 rfl (Nat.le_of_ble_eq_true rfl) ⟨⟨Nat.le_of_ble_eq_true rfl, Nat.le_of_ble_eq_true rfl⟩, (by simp only [rL_pick, rX2_fill, rX2_copy, rX2_many, rX2_sort, rX2_turn, rX2_same, rX2_right, rX2_ties, rX2_wrong, rL_isTurned]; omega), (by simp only [rL_pick, rX2_fill, rX2_copy, rX2_many, rX2_sort, rX2_turn, rX2_same, rX2_right, rX2_ties, rX2_wrong, rL_isTurned]; omega)⟩ (fun v58 h59 n60 c61 => ?_) (fun _ _ _ hx => hx.elim)
          obtain ⟨c61a, c61b, c61c, c61d⟩ := c61
          rw [c61a, c61b]
          show mT _ _ _ _ 140 [.ref 0, .int (nI r), .int x, .int (q_rightPairs F2), .int (q_tiedPairsOfSorted (msort F2).1)] [.int (q_rightPairs F2)] _ _ _ _
          refine mt_iload_n dL_isTurned_140 rfl ?_
          refine mt_icmp_ne dL_isTurned_141 (tgt := 158) rfl (fun q9 => absurd q9 (fun z => z rfl)) (fun q9 => ?_)
          refine mt_aload_n dL_isTurned_144 rfl rfl ?_
          refine mt_iload_n dL_isTurned_145 rfl ?_
          refine mt_callV (N := mX2_ties) (Rc := rX2_ties) (As := [.int (nI r)]) (st := []) dL_isTurned_146 ((kX2_ties hl c61c).good (v := .int (q_tiedPairsOfSorted (msort F2).1)) (S' := S_56) (by rw [g_ties hr, xS_56_r, lf_turned.2])) sX2_ties mw_444 mKX2 rfl c61c.1 rfl (Nat.le_of_ble_eq_true rfl) ⟨⟨Nat.le_of_ble_eq_true rfl, Nat.le_of_ble_eq_true rfl⟩, (by simp only [rL_pick, rX2_fill, rX2_copy, rX2_many, rX2_sort, rX2_turn, rX2_same, rX2_right, rX2_ties, rX2_wrong, rL_isTurned]; omega), (by simp only [rL_pick, rX2_fill, rX2_copy, rX2_many, rX2_sort, rX2_turn, rX2_same, rX2_right, rX2_ties, rX2_wrong, rL_isTurned]; omega)⟩ (fun v62 h63 n64 c65 => ?_) (fun _ _ _ hx => hx.elim)
          obtain ⟨c65a, c65b, c65c, c65d⟩ := c65
          rw [c65a, c65b]
          show mT _ _ _ _ 149 [.ref 0, .int (nI r), .int x, .int (q_rightPairs F2), .int (q_tiedPairsOfSorted (msort F2).1)] [.int (q_tiedPairsOfSorted (msort F2).1)] _ _ _ _
          refine mt_iload dL_isTurned_149 rfl ?_
          refine mt_icmp_ne dL_isTurned_151 (tgt := 158) rfl (fun q9 => absurd q9 (fun z => z rfl)) (fun q9 => ?_)
          refine mt_iconst dL_isTurned_154 (v := nI 1) rfl ?_
          refine mt_goto dL_isTurned_155 (tgt := 159) rfl ?_
          refine mt_ireturn dL_isTurned_159 rfl rfl (by simp only [rL_pick, rX2_fill, rX2_copy, rX2_many, rX2_sort, rX2_turn, rX2_same, rX2_right, rX2_ties, rX2_wrong, rL_isTurned]; omega) (by simp only [rL_pick, rX2_fill, rX2_copy, rX2_many, rX2_sort, rX2_turn, rX2_same, rX2_right, rX2_ties, rX2_wrong, rL_isTurned]; omega) ?_
          exact ⟨rfl, Nat.le_refl _, _, c65c⟩
      · have q43 := Int32.not_le.mp q43
        have q43 := (mI_lt0 (by omega)).mp q43
        exact q43.elim
    · refine mt_aload_n dL_isTurned_35 rfl rfl ?_
      refine mt_iload_n dL_isTurned_36 rfl ?_
      refine mt_iconst dL_isTurned_37 (v := nI 3) rfl ?_
      by_cases h3 : r = 3
      · subst h3
        obtain ⟨c1, hc1, ec1⟩ := lf_others (xs := F) (ys := (msort F).1) hF3
        obtain ⟨c2, hc2, ec2⟩ := lf_otherk (xs := (msort F).1) (ys := rv (msort F).1 (msort F).1.length) (by rw [msort_len]; exact hF3)
        refine mt_callV (N := mX2_copy) (Rc := rX2_copy) (As := [.int (nI 3), .int (nI 3)]) (st := []) dL_isTurned_38 ((kX2_copy hl c19c).good (v := .int (nI F.length)) (S' := cAct S_20) (by rw [g_copyS hr, xS_20_r])) sX2_copy mw_405 mKX2 rfl c19c.1 rfl (Nat.le_of_ble_eq_true rfl) ⟨⟨Nat.le_of_ble_eq_true rfl, Nat.le_of_ble_eq_true rfl⟩, (by simp only [rL_pick, rX2_fill, rX2_copy, rX2_many, rX2_sort, rX2_turn, rX2_same, rX2_right, rX2_ties, rX2_wrong, rL_isTurned]; omega), (by simp only [rL_pick, rX2_fill, rX2_copy, rX2_many, rX2_sort, rX2_turn, rX2_same, rX2_right, rX2_ties, rX2_wrong, rL_isTurned]; omega)⟩ (fun v66 h67 n68 c69 => ?_) (fun _ _ _ hx => hx.elim)
        obtain ⟨c69a, c69b, c69c, c69d⟩ := c69
        rw [c69a, c69b]
        obtain ⟨S_70, eS_70⟩ : ∃ z, z = cAct S_20 := ⟨_, rfl⟩
        rw [← eS_70] at c69c
        have xS_70_3 : S_70.1 3 = F := by rw [eS_70]; exact xS_20_r
        show mT _ _ _ _ 41 [.ref 0, .int (nI 3), .int x, .double 0, .double 0] [.int (nI F.length)] _ _ _ _
        refine mt_aload_n dL_isTurned_41 rfl rfl ?_
        refine mt_iload_n dL_isTurned_42 rfl ?_
        refine mt_callV (N := mX2_many) (Rc := rX2_many) (As := [.int (nI 3)]) (st := [.int (nI F.length)]) dL_isTurned_43 ((kX2_many hl c69c).good (v := .int (nI F.length)) (S' := S_70) (by rw [g_many hr, xS_70_3])) sX2_many mw_213 mKX2 rfl c69c.1 rfl (Nat.le_of_ble_eq_true rfl) ⟨⟨Nat.le_of_ble_eq_true rfl, Nat.le_of_ble_eq_true rfl⟩, (by simp only [rL_pick, rX2_fill, rX2_copy, rX2_many, rX2_sort, rX2_turn, rX2_same, rX2_right, rX2_ties, rX2_wrong, rL_isTurned]; omega), (by simp only [rL_pick, rX2_fill, rX2_copy, rX2_many, rX2_sort, rX2_turn, rX2_same, rX2_right, rX2_ties, rX2_wrong, rL_isTurned]; omega)⟩ (fun v71 h72 n73 c74 => ?_) (fun _ _ _ hx => hx.elim)
        obtain ⟨c74a, c74b, c74c, c74d⟩ := c74
        rw [c74a, c74b]
        show mT _ _ _ _ 46 [.ref 0, .int (nI 3), .int x, .double 0, .double 0] [.int (nI F.length), .int (nI F.length)] _ _ _ _
        refine mt_icmp_ne dL_isTurned_46 (tgt := 74) rfl (fun q9 => absurd q9 (fun z => z rfl)) (fun q9 => ?_)
        refine mt_aload_n dL_isTurned_49 rfl rfl ?_
        refine mt_iload_n dL_isTurned_50 rfl ?_
        refine mt_callV (N := mX2_sort) (Rc := rX2_sort) (As := [.int (nI 3)]) (st := []) dL_isTurned_51 ((kX2_sort hl c74c).good (v := .int (nI c1)) (S' := cAct (cSet S_70 3 ((msort F).1))) (by rw [g_sort hr, xS_70_3, ec1])) sX2_sort mw_429 mKX2 rfl c74c.1 rfl (Nat.le_of_ble_eq_true rfl) ⟨⟨Nat.le_of_ble_eq_true rfl, Nat.le_of_ble_eq_true rfl⟩, (by simp only [rL_pick, rX2_fill, rX2_copy, rX2_many, rX2_sort, rX2_turn, rX2_same, rX2_right, rX2_ties, rX2_wrong, rL_isTurned]; omega), (by simp only [rL_pick, rX2_fill, rX2_copy, rX2_many, rX2_sort, rX2_turn, rX2_same, rX2_right, rX2_ties, rX2_wrong, rL_isTurned]; omega)⟩ (fun v75 h76 n77 c78 => ?_) (fun _ _ _ hx => hx.elim)
        obtain ⟨c78a, c78b, c78c, c78d⟩ := c78
        rw [c78a, c78b]
        obtain ⟨S_79, eS_79⟩ : ∃ z, z = cAct (cSet S_70 3 ((msort F).1)) := ⟨_, rfl⟩
        rw [← eS_79] at c78c
        have xS_79_3 : S_79.1 3 = (msort F).1 := by rw [eS_79]; exact cAct_at
        show mT _ _ _ _ 54 [.ref 0, .int (nI 3), .int x, .double 0, .double 0] [.int (nI c1)] _ _ _ _
        refine mt_if_lt dL_isTurned_54 (tgt := 74) rfl (fun q80 => ?_) (fun q80 => ?_)
        · have q80 := (mI_lt0 (by omega)).mp q80
          exact q80.elim
        · have q80 := (not_congr (mI_lt0 (by omega))).mp q80
          refine mt_aload_n dL_isTurned_57 rfl rfl ?_
          refine mt_iconst dL_isTurned_58 (v := nI 3) rfl ?_
          refine mt_callV (N := mX2_turn) (Rc := rX2_turn) (As := [.int (nI 3)]) (st := []) dL_isTurned_59 ((kX2_turn hl c78c).good (v := .int (nI c2)) (S' := cAct (cSet S_79 3 (rv ((msort F).1) ((msort F).1).length))) (by rw [g_turn hr, xS_79_3, ec2])) sX2_turn mw_389 mKX2 rfl c78c.1 rfl (Nat.le_of_ble_eq_true rfl) ⟨⟨Nat.le_of_ble_eq_true rfl, Nat.le_of_ble_eq_true rfl⟩, (by simp only [rL_pick, rX2_fill, rX2_copy, rX2_many, rX2_sort, rX2_turn, rX2_same, rX2_right, rX2_ties, rX2_wrong, rL_isTurned]; omega), (by simp only [rL_pick, rX2_fill, rX2_copy, rX2_many, rX2_sort, rX2_turn, rX2_same, rX2_right, rX2_ties, rX2_wrong, rL_isTurned]; omega)⟩ (fun v81 h82 n83 c84 => ?_) (fun _ _ _ hx => hx.elim)
          obtain ⟨c84a, c84b, c84c, c84d⟩ := c84
          rw [c84a, c84b]
          obtain ⟨S_85, eS_85⟩ : ∃ z, z = cAct (cSet S_79 3 (rv ((msort F).1) ((msort F).1).length)) := ⟨_, rfl⟩
          rw [← eS_85] at c84c
          have xS_85_3 : S_85.1 3 = rv ((msort F).1) ((msort F).1).length := by rw [eS_85]; exact cAct_at
          show mT _ _ _ _ 62 [.ref 0, .int (nI 3), .int x, .double 0, .double 0] [.int (nI c2)] _ _ _ _
          refine mt_if_lt dL_isTurned_62 (tgt := 74) rfl (fun q86 => ?_) (fun q86 => ?_)
          · have q86 := (mI_lt0 (by omega)).mp q86
            exact q86.elim
          · have q86 := (not_congr (mI_lt0 (by omega))).mp q86
            refine mt_aload_n dL_isTurned_65 rfl rfl ?_
            refine mt_iload_n dL_isTurned_66 rfl ?_
            refine mt_iconst dL_isTurned_67 (v := nI 3) rfl ?_
            refine mt_callV (N := mX2_same) (Rc := rX2_same) (As := [.int (nI 3), .int (nI 3)]) (st := []) dL_isTurned_68 ((kX2_same hl c84c).good (v := .int (nI 1)) (S' := S_85) (by rw [g_sameT (lenOk_of c84c) hr hr (rfl), mb_t])) sX2_same mw_508 mKX2 rfl c84c.1 rfl (Nat.le_of_ble_eq_true rfl) ⟨⟨Nat.le_of_ble_eq_true rfl, Nat.le_of_ble_eq_true rfl⟩, (by simp only [rL_pick, rX2_fill, rX2_copy, rX2_many, rX2_sort, rX2_turn, rX2_same, rX2_right, rX2_ties, rX2_wrong, rL_isTurned]; omega), (by simp only [rL_pick, rX2_fill, rX2_copy, rX2_many, rX2_sort, rX2_turn, rX2_same, rX2_right, rX2_ties, rX2_wrong, rL_isTurned]; omega)⟩ (fun v87 h88 n89 c90 => ?_) (fun _ _ _ hx => hx.elim)
            obtain ⟨c90a, c90b, c90c, c90d⟩ := c90
            rw [c90a, c90b]
            show mT _ _ _ _ 71 [.ref 0, .int (nI 3), .int x, .double 0, .double 0] [.int (nI 1)] _ _ _ _
            refine mt_if_ne dL_isTurned_71 (tgt := 76) rfl (fun q91 => ?_) (fun q91 => ?_)
            · have q91 := (not_congr (mI_eq0 (by omega))).mp q91
              exact mt_widen (by first | omega | (simp only [rL_pick, rX2_fill, rX2_copy, rX2_many, rX2_sort, rX2_turn, rX2_same, rX2_right, rX2_ties, rX2_wrong, rL_isTurned]; omega)) (by first | omega | (simp only [rL_pick, rX2_fill, rX2_copy, rX2_many, rX2_sort, rX2_turn, rX2_same, rX2_right, rX2_ties, rX2_wrong, rL_isTurned]; omega)) (kk22 _ _ c90c)
            · have q91 := (mI_eq0 (by omega)).mp q91
              exact absurd q91 (by decide)
      · obtain ⟨c1, hc1, ec1⟩ := lf_others (xs := F) (ys := (msort F).1) hF3
        refine mt_callV (N := mX2_copy) (Rc := rX2_copy) (As := [.int (nI r), .int (nI 3)]) (st := []) dL_isTurned_38 ((kX2_copy hl c19c).good (v := .int (nI F.length)) (S' := cAct (cGiv (cSet S_20 3 (bringL F (decide (3 < 2)) (decide (r < 2)) ([]) S_20.2.1).1) (bringL F (decide (3 < 2)) (decide (r < 2)) ([]) S_20.2.1).2)) (by rw [g_copyY hr (by decide) h3 (by rw [xS_20_r]; have := @rroom_ge 3; omega), xS_20_r])) sX2_copy mw_405 mKX2 rfl c19c.1 rfl (Nat.le_of_ble_eq_true rfl) ⟨⟨Nat.le_of_ble_eq_true rfl, Nat.le_of_ble_eq_true rfl⟩, (by simp only [rL_pick, rX2_fill, rX2_copy, rX2_many, rX2_sort, rX2_turn, rX2_same, rX2_right, rX2_ties, rX2_wrong, rL_isTurned]; omega), (by simp only [rL_pick, rX2_fill, rX2_copy, rX2_many, rX2_sort, rX2_turn, rX2_same, rX2_right, rX2_ties, rX2_wrong, rL_isTurned]; omega)⟩ (fun v92 h93 n94 c95 => ?_) (fun _ _ _ hx => hx.elim)
        obtain ⟨c95a, c95b, c95c, c95d⟩ := c95
        rw [c95a, c95b]
        obtain ⟨S_96, eS_96⟩ : ∃ z, z = cAct (cGiv (cSet S_20 3 (bringL F (decide (3 < 2)) (decide (r < 2)) ([]) S_20.2.1).1) (bringL F (decide (3 < 2)) (decide (r < 2)) ([]) S_20.2.1).2) := ⟨_, rfl⟩
        rw [← eS_96] at c95c
        have xS_96_3 : S_96.1 3 = (bringL F (decide (3 < 2)) (decide (r < 2)) ([]) S_20.2.1).1 := by rw [eS_96]; exact cGiv_at
        have xS_96_r : S_96.1 r = F := by rw [eS_96]; exact (cGiv_ne h3).trans xS_20_r
        show mT _ _ _ _ 41 [.ref 0, .int (nI r), .int x, .double 0, .double 0] [.int (nI F.length)] _ _ _ _
        obtain ⟨G, eG⟩ : ∃ z, z = (bringL F (decide (3 < 2)) (decide (r < 2)) ([]) S_20.2.1).1 := ⟨_, rfl⟩
        rw [← eG] at xS_96_3
        have kG : ks G = ks F := by rw [eG, lf_bringk]; rfl
        have hG3 : G.length ≤ 320 := by rw [← xS_96_3]; exact (lenOk_of c95c).le (by decide)
        obtain ⟨c2, hc2, ec2⟩ := lf_otherk (xs := G) (ys := rv G G.length) hG3
        refine mt_aload_n dL_isTurned_41 rfl rfl ?_
        refine mt_iload_n dL_isTurned_42 rfl ?_
        refine mt_callV (N := mX2_many) (Rc := rX2_many) (As := [.int (nI r)]) (st := [.int (nI F.length)]) dL_isTurned_43 ((kX2_many hl c95c).good (v := .int (nI F.length)) (S' := S_96) (by rw [g_many hr, xS_96_r])) sX2_many mw_213 mKX2 rfl c95c.1 rfl (Nat.le_of_ble_eq_true rfl) ⟨⟨Nat.le_of_ble_eq_true rfl, Nat.le_of_ble_eq_true rfl⟩, (by simp only [rL_pick, rX2_fill, rX2_copy, rX2_many, rX2_sort, rX2_turn, rX2_same, rX2_right, rX2_ties, rX2_wrong, rL_isTurned]; omega), (by simp only [rL_pick, rX2_fill, rX2_copy, rX2_many, rX2_sort, rX2_turn, rX2_same, rX2_right, rX2_ties, rX2_wrong, rL_isTurned]; omega)⟩ (fun v97 h98 n99 c100 => ?_) (fun _ _ _ hx => hx.elim)
        obtain ⟨c100a, c100b, c100c, c100d⟩ := c100
        rw [c100a, c100b]
        show mT _ _ _ _ 46 [.ref 0, .int (nI r), .int x, .double 0, .double 0] [.int (nI F.length), .int (nI F.length)] _ _ _ _
        refine mt_icmp_ne dL_isTurned_46 (tgt := 74) rfl (fun q9 => absurd q9 (fun z => z rfl)) (fun q9 => ?_)
        refine mt_aload_n dL_isTurned_49 rfl rfl ?_
        refine mt_iload_n dL_isTurned_50 rfl ?_
        refine mt_callV (N := mX2_sort) (Rc := rX2_sort) (As := [.int (nI r)]) (st := []) dL_isTurned_51 ((kX2_sort hl c100c).good (v := .int (nI c1)) (S' := cAct (cSet S_96 r ((msort F).1))) (by rw [g_sort hr, xS_96_r, ec1])) sX2_sort mw_429 mKX2 rfl c100c.1 rfl (Nat.le_of_ble_eq_true rfl) ⟨⟨Nat.le_of_ble_eq_true rfl, Nat.le_of_ble_eq_true rfl⟩, (by simp only [rL_pick, rX2_fill, rX2_copy, rX2_many, rX2_sort, rX2_turn, rX2_same, rX2_right, rX2_ties, rX2_wrong, rL_isTurned]; omega), (by simp only [rL_pick, rX2_fill, rX2_copy, rX2_many, rX2_sort, rX2_turn, rX2_same, rX2_right, rX2_ties, rX2_wrong, rL_isTurned]; omega)⟩ (fun v101 h102 n103 c104 => ?_) (fun _ _ _ hx => hx.elim)
        obtain ⟨c104a, c104b, c104c, c104d⟩ := c104
        rw [c104a, c104b]
        obtain ⟨S_105, eS_105⟩ : ∃ z, z = cAct (cSet S_96 r ((msort F).1)) := ⟨_, rfl⟩
        rw [← eS_105] at c104c
        have xS_105_r : S_105.1 r = (msort F).1 := by rw [eS_105]; exact cAct_at
        have xS_105_3 : S_105.1 3 = G := by rw [eS_105]; exact (cAct_ne (fun z => h3 z.symm)).trans xS_96_3
        show mT _ _ _ _ 54 [.ref 0, .int (nI r), .int x, .double 0, .double 0] [.int (nI c1)] _ _ _ _
        refine mt_if_lt dL_isTurned_54 (tgt := 74) rfl (fun q106 => ?_) (fun q106 => ?_)
        · have q106 := (mI_lt0 (by omega)).mp q106
          exact q106.elim
        · have q106 := (not_congr (mI_lt0 (by omega))).mp q106
          refine mt_aload_n dL_isTurned_57 rfl rfl ?_
          refine mt_iconst dL_isTurned_58 (v := nI 3) rfl ?_
          refine mt_callV (N := mX2_turn) (Rc := rX2_turn) (As := [.int (nI 3)]) (st := []) dL_isTurned_59 ((kX2_turn hl c104c).good (v := .int (nI c2)) (S' := cAct (cSet S_105 3 (rv G G.length))) (by rw [g_turn (by decide), xS_105_3, ec2])) sX2_turn mw_389 mKX2 rfl c104c.1 rfl (Nat.le_of_ble_eq_true rfl) ⟨⟨Nat.le_of_ble_eq_true rfl, Nat.le_of_ble_eq_true rfl⟩, (by simp only [rL_pick, rX2_fill, rX2_copy, rX2_many, rX2_sort, rX2_turn, rX2_same, rX2_right, rX2_ties, rX2_wrong, rL_isTurned]; omega), (by simp only [rL_pick, rX2_fill, rX2_copy, rX2_many, rX2_sort, rX2_turn, rX2_same, rX2_right, rX2_ties, rX2_wrong, rL_isTurned]; omega)⟩ (fun v107 h108 n109 c110 => ?_) (fun _ _ _ hx => hx.elim)
          obtain ⟨c110a, c110b, c110c, c110d⟩ := c110
          rw [c110a, c110b]
          obtain ⟨S_111, eS_111⟩ : ∃ z, z = cAct (cSet S_105 3 (rv G G.length)) := ⟨_, rfl⟩
          rw [← eS_111] at c110c
          have xS_111_3 : S_111.1 3 = rv G G.length := by rw [eS_111]; exact cAct_at
          have xS_111_r : S_111.1 r = (msort F).1 := by rw [eS_111]; exact (cAct_ne h3).trans xS_105_r
          show mT _ _ _ _ 62 [.ref 0, .int (nI r), .int x, .double 0, .double 0] [.int (nI c2)] _ _ _ _
          refine mt_if_lt dL_isTurned_62 (tgt := 74) rfl (fun q112 => ?_) (fun q112 => ?_)
          · have q112 := (mI_lt0 (by omega)).mp q112
            exact q112.elim
          · have q112 := (not_congr (mI_lt0 (by omega))).mp q112
            refine mt_aload_n dL_isTurned_65 rfl rfl ?_
            refine mt_iload_n dL_isTurned_66 rfl ?_
            refine mt_iconst dL_isTurned_67 (v := nI 3) rfl ?_
            refine mt_callV (N := mX2_same) (Rc := rX2_same) (As := [.int (nI r), .int (nI 3)]) (st := []) dL_isTurned_68 ((kX2_same hl c110c).good (v := .int (nI 1)) (S' := S_111) (by rw [g_sameT (lenOk_of c110c) hr (by decide) (by rw [xS_111_r, xS_111_3]; exact lf_fallsk hFf kG), mb_t])) sX2_same mw_508 mKX2 rfl c110c.1 rfl (Nat.le_of_ble_eq_true rfl) ⟨⟨Nat.le_of_ble_eq_true rfl, Nat.le_of_ble_eq_true rfl⟩, (by simp only [rL_pick, rX2_fill, rX2_copy, rX2_many, rX2_sort, rX2_turn, rX2_same, rX2_right, rX2_ties, rX2_wrong, rL_isTurned]; omega), (by simp only [rL_pick, rX2_fill, rX2_copy, rX2_many, rX2_sort, rX2_turn, rX2_same, rX2_right, rX2_ties, rX2_wrong, rL_isTurned]; omega)⟩ (fun v113 h114 n115 c116 => ?_) (fun _ _ _ hx => hx.elim)
            obtain ⟨c116a, c116b, c116c, c116d⟩ := c116
            rw [c116a, c116b]
            show mT _ _ _ _ 71 [.ref 0, .int (nI r), .int x, .double 0, .double 0] [.int (nI 1)] _ _ _ _
            refine mt_if_ne dL_isTurned_71 (tgt := 76) rfl (fun q117 => ?_) (fun q117 => ?_)
            · have q117 := (not_congr (mI_eq0 (by omega))).mp q117
              exact mt_widen (by first | omega | (simp only [rL_pick, rX2_fill, rX2_copy, rX2_many, rX2_sort, rX2_turn, rX2_same, rX2_right, rX2_ties, rX2_wrong, rL_isTurned]; omega)) (by first | omega | (simp only [rL_pick, rX2_fill, rX2_copy, rX2_many, rX2_sort, rX2_turn, rX2_same, rX2_right, rX2_ties, rX2_wrong, rL_isTurned]; omega)) (kk22 _ _ c116c)
            · have q117 := (mI_eq0 (by omega)).mp q117
              exact absurd q117 (by decide)
