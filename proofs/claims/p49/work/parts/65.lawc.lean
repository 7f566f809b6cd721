/-! ===== the law: sorted ===== -/
abbrev rL_isSorted : Room := { frames := 9, cells := 4500, slots := 28000, locals := 154 }
set_option maxRecDepth 100000 in
set_option maxHeartbeats 2000000 in
theorem tL_isSorted_36 {l : Launch} {K : mK} {n r d : Nat} {X : List mIt} {S : cS} (hl : l.stackTraces = false) (hr : r < 4) (hn : 27 ≤ n) (hL : X.length ≤ 320) (hX : S.1 r = X) (kk0 : ∀ (h : mH) (kf : Nat → Int32) (sf : Nat → Int32) (rf : Nat → Int32) (tf : Nat → Int32), (cAt h S) → (h n = .inl (0, X.length, kf)) → (h (n + 1) = .inl (0, X.length, sf)) → (h (n + 2) = .inl (0, X.length, rf)) → (∀ i, i < X.length → kf i = xk X i) → (∀ i, i < X.length → sf i = xt X i) → (∀ i, i < X.length → rf i = -1 ∨ rf i = nI (rankf X i)) → mT l mL_isSorted rL_isSorted K 144 [.ref 0, .int (nI r), .int (nI d), .int (nI X.length), .ref n, .ref (n + 1), .ref (n + 2), .ref (n + 3), .int (mb (q_fallsThroughout X)), .double 0, .double 0, .double 0] [] h n 2100 14000) : ∀ (N0 : Nat) (k : Nat) (h : mH) (kf : Nat → Int32) (sf : Nat → Int32) (rf : Nat → Int32) (tf : Nat → Int32), (X.length - k) < N0 → (cAt h S) → (h n = .inl (0, X.length, kf)) → (h (n + 1) = .inl (0, X.length, sf)) → (h (n + 2) = .inl (0, X.length, rf)) → (h (n + 3) = .inl (3, X.length, tf)) → (∀ i, i < k → kf i = xk X i) → (∀ i, i < k → sf i = xt X i) → (∀ i, i < k → rf i = -1 ∨ rf i = nI (rankf X i)) → (∀ j, j < X.length → tf j = 0 ∨ ∃ i, i < k ∧ rankf X i = j) → (k ≤ X.length) → mT l mL_isSorted rL_isSorted K 36 [.ref 0, .int (nI r), .int (nI d), .int (nI X.length), .ref n, .ref (n + 1), .ref (n + 2), .ref (n + 3), .int (mb (q_fallsThroughout X)), .int (nI k), .double 0, .double 0] [] h n (100 + 6 * k) (2000 + 36 * k) := by
  intro N0
  induction N0 with
  | zero => intro k h kf sf rf tf hm; exact absurd hm (Nat.not_lt_zero _)
  | succ N0 ih =>
    intro k h kf sf rf tf hm C eK eT eR eB iK iT iR iB hk
    refine mt_iload dL_isSorted_36 rfl ?_
    refine mt_iload_n dL_isSorted_38 rfl ?_
    refine mt_icmp_ge dL_isSorted_39 (tgt := 144) rfl (fun q1 => ?_) (fun q1 => ?_)
    · have q1 := Int32.not_lt.mpr q1
      have q1 := (not_congr (nI_ltI (by omega) (by omega))).mp q1
      refine mt_drop 9 (ls' := [.ref 0, .int (nI r), .int (nI d), .int (nI X.length), .ref n, .ref (n + 1), .ref (n + 2), .ref (n + 3), .int (mb (q_fallsThroughout X)), .double 0, .double 0, .double 0]) rfl ?_
      refine mt_widen (cc' := 2100) (sc' := 14000) (by first | omega | (simp only [rX2_many, rX2_isFalling, rX2_key, rX2_stamp, rX2_rank, rX2_copy, rX2_end, rX2_sort, rX2_isSorted, rX2_bag, rX2_mark, rX2_same, rL_isSorted]; omega)) (by first | omega | (simp only [rX2_many, rX2_isFalling, rX2_key, rX2_stamp, rX2_rank, rX2_copy, rX2_end, rX2_sort, rX2_isSorted, rX2_bag, rX2_mark, rX2_same, rL_isSorted]; omega)) ?_
      exact kk0 h kf sf rf tf C eK eT eR (fun i hi => iK i (by omega)) (fun i hi => iT i (by omega)) (fun i hi => iR i (by omega))
    · have q1 := Int32.not_le.mp q1
      have q1 := (nI_ltI (by omega) (by omega)).mp q1
      have hk9 : k < X.length := by omega
      have hrk := (lf_rank hk9).1
      refine mt_aload dL_isSorted_42 rfl rfl ?_
      refine mt_iload dL_isSorted_44 rfl ?_
      refine mt_aload_n dL_isSorted_46 rfl rfl ?_
      refine mt_iload_n dL_isSorted_47 rfl ?_
      refine mt_iload dL_isSorted_48 rfl ?_
      refine mt_callV (N := mX2_key) (Rc := rX2_key) (As := [.int (nI r), .int (nI k)]) (st := [.int (nI k), .ref n]) dL_isSorted_50 ((kX2_key hl C).good (v := .int (xk X k)) (S' := S) (by rw [g_key (lenOk_of C) hr (by rw [hX]; omega), hX])) sX2_key mw_468 mKX2 rfl C.1 rfl (Nat.le_of_ble_eq_true rfl) ⟨⟨Nat.le_of_ble_eq_true rfl, Nat.le_of_ble_eq_true rfl⟩, (by simp only [rX2_many, rX2_isFalling, rX2_key, rX2_stamp, rX2_rank, rX2_copy, rX2_end, rX2_sort, rX2_isSorted, rX2_bag, rX2_mark, rX2_same, rL_isSorted]; omega), (by simp only [rX2_many, rX2_isFalling, rX2_key, rX2_stamp, rX2_rank, rX2_copy, rX2_end, rX2_sort, rX2_isSorted, rX2_bag, rX2_mark, rX2_same, rL_isSorted]; omega)⟩ (fun v2 h3 n4 c5 => ?_) (fun _ _ _ hx => hx.elim)
      obtain ⟨c5a, c5b, c5c, c5d⟩ := c5
      rw [c5a, c5b]
      show mT _ _ _ _ 53 [.ref 0, .int (nI r), .int (nI d), .int (nI X.length), .ref n, .ref (n + 1), .ref (n + 2), .ref (n + 3), .int (mb (q_fallsThroughout X)), .int (nI k), .double 0, .double 0] [.int (xk X k), .int (nI k), .ref n] _ _ _ _
      refine mp_iastore dL_isSorted_53 ((c5d (n) (by omega)).trans eK) rfl (by omega) (by omega) (fun h6 e7 f8 => ?_)
      refine mt_aload dL_isSorted_54 rfl rfl ?_
      refine mt_iload dL_isSorted_56 rfl ?_
      refine mt_aload_n dL_isSorted_58 rfl rfl ?_
      refine mt_iload_n dL_isSorted_59 rfl ?_
      refine mt_iload dL_isSorted_60 rfl ?_
      refine mt_callV (N := mX2_stamp) (Rc := rX2_stamp) (As := [.int (nI r), .int (nI k)]) (st := [.int (nI k), .ref (n + 1)]) dL_isSorted_62 ((kX2_stamp hl c5c).good (v := .int (xt X k)) (S' := S) (by rw [g_stamp (lenOk_of c5c) hr (by rw [hX]; omega), hX])) sX2_stamp mw_475 mKX2 rfl ((f8 (0) (by omega)).trans c5c.1) rfl (Nat.le_of_ble_eq_true rfl) ⟨⟨Nat.le_of_ble_eq_true rfl, Nat.le_of_ble_eq_true rfl⟩, (by simp only [rX2_many, rX2_isFalling, rX2_key, rX2_stamp, rX2_rank, rX2_copy, rX2_end, rX2_sort, rX2_isSorted, rX2_bag, rX2_mark, rX2_same, rL_isSorted]; omega), (by simp only [rX2_many, rX2_isFalling, rX2_key, rX2_stamp, rX2_rank, rX2_copy, rX2_end, rX2_sort, rX2_isSorted, rX2_bag, rX2_mark, rX2_same, rL_isSorted]; omega)⟩ (fun v9 h10 n11 c12 => ?_) (fun _ _ _ hx => hx.elim)
      obtain ⟨c12a, c12b, c12c, c12d⟩ := c12
      rw [c12a, c12b]
      show mT _ _ _ _ 65 [.ref 0, .int (nI r), .int (nI d), .int (nI X.length), .ref n, .ref (n + 1), .ref (n + 2), .ref (n + 3), .int (mb (q_fallsThroughout X)), .int (nI k), .double 0, .double 0] [.int (xt X k), .int (nI k), .ref (n + 1)] _ _ _ _
      refine mp_iastore dL_isSorted_65 ((c12d (n + 1) (by omega)).trans ((f8 (n + 1) (by omega)).trans ((c5d (n + 1) (by omega)).trans eT))) rfl (by omega) (by omega) (fun h13 e14 f15 => ?_)
      refine mt_aload dL_isSorted_66 rfl rfl ?_
      refine mt_iload dL_isSorted_68 rfl ?_
      refine mt_iload_n dL_isSorted_70 rfl ?_
      refine mt_bipush dL_isSorted_71 (v := nI 60) (by decide) ?_
      refine mt_icmp_lt dL_isSorted_73 (tgt := 84) rfl (fun q16 => ?_) (fun q16 => ?_)
      · have q16 := (nI_ltI (by omega) (by omega)).mp q16
        refine mt_aload_n dL_isSorted_84 rfl rfl ?_
        refine mt_iload_n dL_isSorted_85 rfl ?_
        refine mt_iload dL_isSorted_86 rfl ?_
        refine mt_callV (N := mX2_rank) (Rc := rX2_rank) (As := [.int (nI r), .int (nI k)]) (st := [.int (nI k), .ref (n + 2)]) dL_isSorted_88 ((kX2_rank hl c12c).good (v := .int (nI (rankf X k))) (S' := S) (by rw [g_rank (lenOk_of c12c) hr (by rw [hX]; omega), hX])) sX2_rank mw_479 mKX2 rfl ((f15 (0) (by omega)).trans c12c.1) rfl (Nat.le_of_ble_eq_true rfl) ⟨⟨Nat.le_of_ble_eq_true rfl, Nat.le_of_ble_eq_true rfl⟩, (by simp only [rX2_many, rX2_isFalling, rX2_key, rX2_stamp, rX2_rank, rX2_copy, rX2_end, rX2_sort, rX2_isSorted, rX2_bag, rX2_mark, rX2_same, rL_isSorted]; omega), (by simp only [rX2_many, rX2_isFalling, rX2_key, rX2_stamp, rX2_rank, rX2_copy, rX2_end, rX2_sort, rX2_isSorted, rX2_bag, rX2_mark, rX2_same, rL_isSorted]; omega)⟩ (fun v17 h18 n19 c20 => ?_) (fun _ _ _ hx => hx.elim)
        obtain ⟨c20a, c20b, c20c, c20d⟩ := c20
        rw [c20a, c20b]
        show mT _ _ _ _ 91 [.ref 0, .int (nI r), .int (nI d), .int (nI X.length), .ref n, .ref (n + 1), .ref (n + 2), .ref (n + 3), .int (mb (q_fallsThroughout X)), .int (nI k), .double 0, .double 0] [.int (nI (rankf X k)), .int (nI k), .ref (n + 2)] _ _ _ _
        refine mt_goto dL_isSorted_91 (tgt := 95) rfl ?_
        refine mp_iastore dL_isSorted_95 ((c20d (n + 2) (by omega)).trans ((f15 (n + 2) (by omega)).trans ((c12d (n + 2) (by omega)).trans ((f8 (n + 2) (by omega)).trans ((c5d (n + 2) (by omega)).trans eR))))) rfl (by omega) (by omega) (fun h21 e22 f23 => ?_)
        refine mt_aload dL_isSorted_96 rfl rfl ?_
        refine mt_iload dL_isSorted_98 rfl ?_
        refine mp_iaload dL_isSorted_100 e22 rfl (by omega) (by omega) (v := nI (rankf X k)) upd_at ?_
        refine mt_if_ge dL_isSorted_101 (tgt := 107) rfl (fun q24 => ?_) (fun q24 => ?_)
        · have q24 := Int32.not_lt.mpr q24
          have q24 := (not_congr (mI_lt0 (by omega))).mp q24
          refine mt_aload dL_isSorted_107 rfl rfl ?_
          refine mt_iload dL_isSorted_109 rfl ?_
          refine mp_iaload dL_isSorted_111 e22 rfl (by omega) (by omega) (v := nI (rankf X k)) upd_at ?_
          refine mt_iload_n dL_isSorted_112 rfl ?_
          refine mt_icmp_ge dL_isSorted_113 (tgt := 127) rfl (fun q9 => absurd q9 (Int32.not_le.mpr (nI_lt hrk (by omega)))) (fun q9 => ?_)
          refine mt_aload dL_isSorted_116 rfl rfl ?_
          refine mt_aload dL_isSorted_118 rfl rfl ?_
          refine mt_iload dL_isSorted_120 rfl ?_
          refine mp_iaload dL_isSorted_122 e22 rfl (by omega) (by omega) (v := nI (rankf X k)) upd_at ?_
          refine mt_zaload dL_isSorted_123 ((f23 (n + 3) (by omega)).trans ((c20d (n + 3) (by omega)).trans ((f15 (n + 3) (by omega)).trans ((c12d (n + 3) (by omega)).trans ((f8 (n + 3) (by omega)).trans ((c5d (n + 3) (by omega)).trans eB)))))) hrk (by omega) ?_
          refine mt_if_eq dL_isSorted_124 (tgt := 129) rfl (fun q9 => ?_) (fun q9 => absurd q9 (fun z => z (ar_free iB hk9)))
          refine mt_aload dL_isSorted_129 rfl rfl ?_
          refine mt_aload dL_isSorted_131 rfl rfl ?_
          refine mt_iload dL_isSorted_133 rfl ?_
          refine mp_iaload dL_isSorted_135 e22 rfl (by omega) (by omega) (v := nI (rankf X k)) upd_at ?_
          refine mt_iconst dL_isSorted_136 (v := nI 1) rfl ?_
          refine mp_zastore dL_isSorted_137 ((f23 (n + 3) (by omega)).trans ((c20d (n + 3) (by omega)).trans ((f15 (n + 3) (by omega)).trans ((c12d (n + 3) (by omega)).trans ((f8 (n + 3) (by omega)).trans ((c5d (n + 3) (by omega)).trans eB)))))) hrk (by omega) (fun h25 e26 f27 => ?_)
          refine mp_iinc dL_isSorted_138 rfl (v := nI (k + 1)) mI_inc (ls' := [.ref 0, .int (nI r), .int (nI d), .int (nI X.length), .ref n, .ref (n + 1), .ref (n + 2), .ref (n + 3), .int (mb (q_fallsThroughout X)), .int (nI (k + 1)), .double 0, .double 0]) rfl (by decide) rfl ?_
          refine mt_goto dL_isSorted_141 (tgt := 36) rfl ?_
          refine mt_widen (cc' := 100 + 6 * (k + 1)) (sc' := 2000 + 36 * (k + 1)) (by first | omega | (simp only [rX2_many, rX2_isFalling, rX2_key, rX2_stamp, rX2_rank, rX2_copy, rX2_end, rX2_sort, rX2_isSorted, rX2_bag, rX2_mark, rX2_same, rL_isSorted]; omega)) (by first | omega | (simp only [rX2_many, rX2_isFalling, rX2_key, rX2_stamp, rX2_rank, rX2_copy, rX2_end, rX2_sort, rX2_isSorted, rX2_bag, rX2_mark, rX2_same, rL_isSorted]; omega)) ?_
          exact ih (k + 1) h25 (upd kf k (xk X k)) (upd sf k (xt X k)) (upd rf k (nI (rankf X k))) (upd tf (rankf X k) (vp_nar .boolean (nI 1))) (by omega) c20c ((f27 (n) (by omega)).trans ((f23 (n) (by omega)).trans ((c20d (n) (by omega)).trans ((f15 (n) (by omega)).trans ((c12d (n) (by omega)).trans e7))))) ((f27 (n + 1) (by omega)).trans ((f23 (n + 1) (by omega)).trans ((c20d (n + 1) (by omega)).trans e14))) ((f27 (n + 2) (by omega)).trans e22) e26 (ar_S (F := xk X) iK rfl) (ar_S (F := xt X) iT rfl) (ar_R iR (Or.inr rfl)) (ar_B iB) (by omega)
        · have q24 := Int32.not_le.mp q24
          have q24 := (mI_lt0 (by omega)).mp q24
          exact q24.elim
      · have q16 := (not_congr (nI_ltI (by omega) (by omega))).mp q16
        refine mt_iload dL_isSorted_76 rfl ?_
        refine mt_bipush dL_isSorted_78 (v := nI 7) (by decide) ?_
        refine mp_irem dL_isSorted_80 (mI_ne0 (by omega) (by omega)) (v := nI (k % 7)) (pk_rem (by omega) (by omega) (by omega)) ?_
        refine mt_if_ne dL_isSorted_81 (tgt := 94) rfl (fun q28 => ?_) (fun q28 => ?_)
        · have q28 := (not_congr (mI_eq0 (by omega))).mp q28
          refine mt_iconst dL_isSorted_94 (v := -1) rfl ?_
          refine mp_iastore dL_isSorted_95 ((f15 (n + 2) (by omega)).trans ((c12d (n + 2) (by omega)).trans ((f8 (n + 2) (by omega)).trans ((c5d (n + 2) (by omega)).trans eR)))) rfl (by omega) (by omega) (fun h29 e30 f31 => ?_)
          refine mt_aload dL_isSorted_96 rfl rfl ?_
          refine mt_iload dL_isSorted_98 rfl ?_
          refine mp_iaload dL_isSorted_100 e30 rfl (by omega) (by omega) (v := -1) upd_at ?_
          refine mt_if_ge dL_isSorted_101 (tgt := 107) rfl (fun q32 => ?_) (fun q32 => ?_)
          · have q32 := Int32.not_lt.mpr q32
            exact (q32 (by decide)).elim
          · have q32 := Int32.not_le.mp q32
            refine mt_goto dL_isSorted_104 (tgt := 138) rfl ?_
            refine mp_iinc dL_isSorted_138 rfl (v := nI (k + 1)) mI_inc (ls' := [.ref 0, .int (nI r), .int (nI d), .int (nI X.length), .ref n, .ref (n + 1), .ref (n + 2), .ref (n + 3), .int (mb (q_fallsThroughout X)), .int (nI (k + 1)), .double 0, .double 0]) rfl (by decide) rfl ?_
            refine mt_goto dL_isSorted_141 (tgt := 36) rfl ?_
            refine mt_widen (cc' := 100 + 6 * (k + 1)) (sc' := 2000 + 36 * (k + 1)) (by first | omega | (simp only [rX2_many, rX2_isFalling, rX2_key, rX2_stamp, rX2_rank, rX2_copy, rX2_end, rX2_sort, rX2_isSorted, rX2_bag, rX2_mark, rX2_same, rL_isSorted]; omega)) (by first | omega | (simp only [rX2_many, rX2_isFalling, rX2_key, rX2_stamp, rX2_rank, rX2_copy, rX2_end, rX2_sort, rX2_isSorted, rX2_bag, rX2_mark, rX2_same, rL_isSorted]; omega)) ?_
            exact ih (k + 1) h29 (upd kf k (xk X k)) (upd sf k (xt X k)) (upd rf k (-1)) tf (by omega) c12c ((f31 (n) (by omega)).trans ((f15 (n) (by omega)).trans ((c12d (n) (by omega)).trans e7))) ((f31 (n + 1) (by omega)).trans e14) e30 ((f31 (n + 3) (by omega)).trans ((f15 (n + 3) (by omega)).trans ((c12d (n + 3) (by omega)).trans ((f8 (n + 3) (by omega)).trans ((c5d (n + 3) (by omega)).trans eB))))) (ar_S (F := xk X) iK rfl) (ar_S (F := xt X) iT rfl) (ar_R iR (Or.inl rfl)) (ar_Bm iB) (by omega)
        · have q28 := (mI_eq0 (by omega)).mp q28
          refine mt_aload_n dL_isSorted_84 rfl rfl ?_
          refine mt_iload_n dL_isSorted_85 rfl ?_
          refine mt_iload dL_isSorted_86 rfl ?_
          refine mt_callV (N := mX2_rank) (Rc := rX2_rank) (As := [.int (nI r), .int (nI k)]) (st := [.int (nI k), .ref (n + 2)]) dL_isSorted_88 ((kX2_rank hl c12c).good (v := .int (nI (rankf X k))) (S' := S) (by rw [g_rank (lenOk_of c12c) hr (by rw [hX]; omega), hX])) sX2_rank mw_479 mKX2 rfl ((f15 (0) (by omega)).trans c12c.1) rfl (Nat.le_of_ble_eq_true rfl) ⟨⟨Nat.le_of_ble_eq_true rfl, Nat.le_of_ble_eq_true rfl⟩, (by simp only [rX2_many, rX2_isFalling, rX2_key, rX2_stamp, rX2_rank, rX2_copy, rX2_end, rX2_sort, rX2_isSorted, rX2_bag, rX2_mark, rX2_same, rL_isSorted]; omega), (by simp only [rX2_many, rX2_isFalling, rX2_key, rX2_stamp, rX2_rank, rX2_copy, rX2_end, rX2_sort, rX2_isSorted, rX2_bag, rX2_mark, rX2_same, rL_isSorted]; omega)⟩ (fun v33 h34 n35 c36 => ?_) (fun _ _ _ hx => hx.elim)
          obtain ⟨c36a, c36b, c36c, c36d⟩ := c36
          rw [c36a, c36b]
          show mT _ _ _ _ 91 [.ref 0, .int (nI r), .int (nI d), .int (nI X.length), .ref n, .ref (n + 1), .ref (n + 2), .ref (n + 3), .int (mb (q_fallsThroughout X)), .int (nI k), .double 0, .double 0] [.int (nI (rankf X k)), .int (nI k), .ref (n + 2)] _ _ _ _
          refine mt_goto dL_isSorted_91 (tgt := 95) rfl ?_
          refine mp_iastore dL_isSorted_95 ((c36d (n + 2) (by omega)).trans ((f15 (n + 2) (by omega)).trans ((c12d (n + 2) (by omega)).trans ((f8 (n + 2) (by omega)).trans ((c5d (n + 2) (by omega)).trans eR))))) rfl (by omega) (by omega) (fun h37 e38 f39 => ?_)
          refine mt_aload dL_isSorted_96 rfl rfl ?_
          refine mt_iload dL_isSorted_98 rfl ?_
          refine mp_iaload dL_isSorted_100 e38 rfl (by omega) (by omega) (v := nI (rankf X k)) upd_at ?_
          refine mt_if_ge dL_isSorted_101 (tgt := 107) rfl (fun q40 => ?_) (fun q40 => ?_)
          · have q40 := Int32.not_lt.mpr q40
            have q40 := (not_congr (mI_lt0 (by omega))).mp q40
            refine mt_aload dL_isSorted_107 rfl rfl ?_
            refine mt_iload dL_isSorted_109 rfl ?_
            refine mp_iaload dL_isSorted_111 e38 rfl (by omega) (by omega) (v := nI (rankf X k)) upd_at ?_
            refine mt_iload_n dL_isSorted_112 rfl ?_
            refine mt_icmp_ge dL_isSorted_113 (tgt := 127) rfl (fun q9 => absurd q9 (Int32.not_le.mpr (nI_lt hrk (by omega)))) (fun q9 => ?_)
            refine mt_aload dL_isSorted_116 rfl rfl ?_
            refine mt_aload dL_isSorted_118 rfl rfl ?_
            refine mt_iload dL_isSorted_120 rfl ?_
            refine mp_iaload dL_isSorted_122 e38 rfl (by omega) (by omega) (v := nI (rankf X k)) upd_at ?_
            refine mt_zaload dL_isSorted_123 ((f39 (n + 3) (by omega)).trans ((c36d (n + 3) (by omega)).trans ((f15 (n + 3) (by omega)).trans ((c12d (n + 3) (by omega)).trans ((f8 (n + 3) (by omega)).trans ((c5d (n + 3) (by omega)).trans eB)))))) hrk (by omega) ?_
            refine mt_if_eq dL_isSorted_124 (tgt := 129) rfl (fun q9 => ?_) (fun q9 => absurd q9 (fun z => z (ar_free iB hk9)))
            refine mt_aload dL_isSorted_129 rfl rfl ?_
            refine mt_aload dL_isSorted_131 rfl rfl ?_
            refine mt_iload dL_isSorted_133 rfl ?_
            refine mp_iaload dL_isSorted_135 e38 rfl (by omega) (by omega) (v := nI (rankf X k)) upd_at ?_
            refine mt_iconst dL_isSorted_136 (v := nI 1) rfl ?_
            refine mp_zastore dL_isSorted_137 ((f39 (n + 3) (by omega)).trans ((c36d (n + 3) (by omega)).trans ((f15 (n + 3) (by omega)).trans ((c12d (n + 3) (by omega)).trans ((f8 (n + 3) (by omega)).trans ((c5d (n + 3) (by omega)).trans eB)))))) hrk (by omega) (fun h41 e42 f43 => ?_)
            refine mp_iinc dL_isSorted_138 rfl (v := nI (k + 1)) mI_inc (ls' := [.ref 0, .int (nI r), .int (nI d), .int (nI X.length), .ref n, .ref (n + 1), .ref (n + 2), .ref (n + 3), .int (mb (q_fallsThroughout X)), .int (nI (k + 1)), .double 0, .double 0]) rfl (by decide) rfl ?_
            refine mt_goto dL_isSorted_141 (tgt := 36) rfl ?_
            refine mt_widen (cc' := 100 + 6 * (k + 1)) (sc' := 2000 + 36 * (k + 1)) (by first | omega | (simp only [rX2_many, rX2_isFalling, rX2_key, rX2_stamp, rX2_rank, rX2_copy, rX2_end, rX2_sort, rX2_isSorted, rX2_bag, rX2_mark, rX2_same, rL_isSorted]; omega)) (by first | omega | (simp only [rX2_many, rX2_isFalling, rX2_key, rX2_stamp, rX2_rank, rX2_copy, rX2_end, rX2_sort, rX2_isSorted, rX2_bag, rX2_mark, rX2_same, rL_isSorted]; omega)) ?_
            exact ih (k + 1) h41 (upd kf k (xk X k)) (upd sf k (xt X k)) (upd rf k (nI (rankf X k))) (upd tf (rankf X k) (vp_nar .boolean (nI 1))) (by omega) c36c ((f43 (n) (by omega)).trans ((f39 (n) (by omega)).trans ((c36d (n) (by omega)).trans ((f15 (n) (by omega)).trans ((c12d (n) (by omega)).trans e7))))) ((f43 (n + 1) (by omega)).trans ((f39 (n + 1) (by omega)).trans ((c36d (n + 1) (by omega)).trans e14))) ((f43 (n + 2) (by omega)).trans e38) e42 (ar_S (F := xk X) iK rfl) (ar_S (F := xt X) iT rfl) (ar_R iR (Or.inr rfl)) (ar_B iB) (by omega)
          · have q40 := Int32.not_le.mp q40
            have q40 := (mI_lt0 (by omega)).mp q40
            exact q40.elim
set_option maxRecDepth 100000 in
set_option maxHeartbeats 2000000 in
theorem tL_isSorted_229 {l : Launch} {K : mK} {n r d : Nat} {X : List mIt} {cp : Nat} {lk : Int32} {S : cS} {kf : Nat → Int32} {sf : Nat → Int32} {rf : Nat → Int32} (hl : l.stackTraces = false) (hr : r < 4) (hn : 27 ≤ n) (hL : X.length ≤ 320) (hX : S.1 r = (msort X).1) (iK : ∀ i, i < X.length → kf i = xk X i) (iT : ∀ i, i < X.length → sf i = xt X i) (iR : ∀ i, i < X.length → rf i = -1 ∨ rf i = nI (rankf X i)) (kk0 : ∀ (k : Nat) (h : mH), (cAt h S) → mT l mL_isSorted rL_isSorted K 313 [.ref 0, .int (nI r), .int (nI d), .int (nI X.length), .ref n, .ref (n + 1), .ref (n + 2), .ref (n + 3), .int (mb (q_fallsThroughout X)), .int (nI cp), .int lk, .int (nI k)] [] h n 4300 27000) : ∀ (N0 : Nat) (k : Nat) (h : mH), (X.length - k) < N0 → (cAt h S) → (h n = .inl (0, X.length, kf)) → (h (n + 1) = .inl (0, X.length, sf)) → (h (n + 2) = .inl (0, X.length, rf)) → (k ≤ X.length) → mT l mL_isSorted rL_isSorted K 229 [.ref 0, .int (nI r), .int (nI d), .int (nI X.length), .ref n, .ref (n + 1), .ref (n + 2), .ref (n + 3), .int (mb (q_fallsThroughout X)), .int (nI cp), .int lk, .int (nI k)] [] h n (2300 + 6 * k) (15000 + 36 * k) := by
  intro N0
  induction N0 with
  | zero => intro k h hm; exact absurd hm (Nat.not_lt_zero _)
  | succ N0 ih =>
    intro k h hm C eK eT eR hk
    have hYl : (msort X).1.length = X.length := msort_len
    refine mt_iload dL_isSorted_229 rfl ?_
    refine mt_iload_n dL_isSorted_231 rfl ?_
    refine mt_icmp_ge dL_isSorted_232 (tgt := 313) rfl (fun q1 => ?_) (fun q1 => ?_)
    · have q1 := Int32.not_lt.mpr q1
      have q1 := (not_congr (nI_ltI (by omega) (by omega))).mp q1
      refine mt_widen (cc' := 4300) (sc' := 27000) (by first | omega | (simp only [rX2_many, rX2_isFalling, rX2_key, rX2_stamp, rX2_rank, rX2_copy, rX2_end, rX2_sort, rX2_isSorted, rX2_bag, rX2_mark, rX2_same, rL_isSorted]; omega)) (by first | omega | (simp only [rX2_many, rX2_isFalling, rX2_key, rX2_stamp, rX2_rank, rX2_copy, rX2_end, rX2_sort, rX2_isSorted, rX2_bag, rX2_mark, rX2_same, rL_isSorted]; omega)) ?_
      exact kk0 k h C
    · have q1 := Int32.not_le.mp q1
      have q1 := (nI_ltI (by omega) (by omega)).mp q1
      have hk9 : k < X.length := by omega
      have hrk := (lf_rank hk9).1
      refine mt_aload dL_isSorted_235 rfl rfl ?_
      refine mt_iload dL_isSorted_237 rfl ?_
      refine mp_iaload dL_isSorted_239 eR rfl (by omega) (by omega) (v := rf k) rfl ?_
      refine mt_if_lt dL_isSorted_240 (tgt := 281) rfl (fun q2 => ?_) (fun q2 => ?_)
      · refine mt_iload dL_isSorted_281 rfl ?_
        refine mt_if_eq dL_isSorted_283 (tgt := 307) rfl (fun q3 => ?_) (fun q3 => ?_)
        · have q3 : (q_fallsThroughout X) = false := mb_0.mp q3
          refine mp_iinc dL_isSorted_307 rfl (v := nI (k + 1)) mI_inc (ls' := [.ref 0, .int (nI r), .int (nI d), .int (nI X.length), .ref n, .ref (n + 1), .ref (n + 2), .ref (n + 3), .int (mb (q_fallsThroughout X)), .int (nI cp), .int lk, .int (nI (k + 1))]) rfl (by decide) rfl ?_
          refine mt_goto dL_isSorted_310 (tgt := 229) rfl ?_
          refine mt_widen (cc' := 2300 + 6 * (k + 1)) (sc' := 15000 + 36 * (k + 1)) (by first | omega | (simp only [rX2_many, rX2_isFalling, rX2_key, rX2_stamp, rX2_rank, rX2_copy, rX2_end, rX2_sort, rX2_isSorted, rX2_bag, rX2_mark, rX2_same, rL_isSorted]; omega)) (by first | omega | (simp only [rX2_many, rX2_isFalling, rX2_key, rX2_stamp, rX2_rank, rX2_copy, rX2_end, rX2_sort, rX2_isSorted, rX2_bag, rX2_mark, rX2_same, rL_isSorted]; omega)) ?_
          exact ih (k + 1) h (by omega) C eK eT eR (by omega)
        · have q3 : (q_fallsThroughout X) = true := mb_1.mp q3
          refine mt_aload_n dL_isSorted_286 rfl rfl ?_
          refine mt_iload_n dL_isSorted_287 rfl ?_
          refine mt_iload_n dL_isSorted_288 rfl ?_
          refine mt_iconst dL_isSorted_289 (v := nI 1) rfl ?_
          refine mp_isub dL_isSorted_290 (v := nI (X.length - 1)) (pk_sub (by omega)) ?_
          refine mt_iload dL_isSorted_291 rfl ?_
          refine mp_isub dL_isSorted_293 (v := nI ((X.length - 1) - k)) (pk_sub (by omega)) ?_
          refine mt_callV (N := mX2_key) (Rc := rX2_key) (As := [.int (nI r), .int (nI ((X.length - 1) - k))]) (st := []) dL_isSorted_294 ((kX2_key hl C).good (v := .int (xk ((msort X).1) ((X.length - 1) - k))) (S' := S) (by rw [g_key (lenOk_of C) hr (by rw [hX]; omega), hX])) sX2_key mw_468 mKX2 rfl C.1 rfl (Nat.le_of_ble_eq_true rfl) ⟨⟨Nat.le_of_ble_eq_true rfl, Nat.le_of_ble_eq_true rfl⟩, (by simp only [rX2_many, rX2_isFalling, rX2_key, rX2_stamp, rX2_rank, rX2_copy, rX2_end, rX2_sort, rX2_isSorted, rX2_bag, rX2_mark, rX2_same, rL_isSorted]; omega), (by simp only [rX2_many, rX2_isFalling, rX2_key, rX2_stamp, rX2_rank, rX2_copy, rX2_end, rX2_sort, rX2_isSorted, rX2_bag, rX2_mark, rX2_same, rL_isSorted]; omega)⟩ (fun v4 h5 n6 c7 => ?_) (fun _ _ _ hx => hx.elim)
          obtain ⟨c7a, c7b, c7c, c7d⟩ := c7
          rw [c7a, c7b]
          show mT _ _ _ _ 297 [.ref 0, .int (nI r), .int (nI d), .int (nI X.length), .ref n, .ref (n + 1), .ref (n + 2), .ref (n + 3), .int (mb (q_fallsThroughout X)), .int (nI cp), .int lk, .int (nI k)] [.int (xk ((msort X).1) ((X.length - 1) - k))] _ _ _ _
          refine mt_aload dL_isSorted_297 rfl rfl ?_
          refine mt_iload dL_isSorted_299 rfl ?_
          refine mp_iaload dL_isSorted_301 ((c7d (n) (by omega)).trans eK) rfl (by omega) (by omega) (v := kf k) rfl ?_
          refine mt_icmp_eq dL_isSorted_302 (tgt := 307) rfl (fun q9 => ?_) (fun q9 => absurd q9 (fun z => z ((congrArg Prod.fst (lf_falls (falls_iff.mp q3) hk9)).trans (iK k hk9).symm)))
          refine mp_iinc dL_isSorted_307 rfl (v := nI (k + 1)) mI_inc (ls' := [.ref 0, .int (nI r), .int (nI d), .int (nI X.length), .ref n, .ref (n + 1), .ref (n + 2), .ref (n + 3), .int (mb (q_fallsThroughout X)), .int (nI cp), .int lk, .int (nI (k + 1))]) rfl (by decide) rfl ?_
          refine mt_goto dL_isSorted_310 (tgt := 229) rfl ?_
          refine mt_widen (cc' := 2300 + 6 * (k + 1)) (sc' := 15000 + 36 * (k + 1)) (by first | omega | (simp only [rX2_many, rX2_isFalling, rX2_key, rX2_stamp, rX2_rank, rX2_copy, rX2_end, rX2_sort, rX2_isSorted, rX2_bag, rX2_mark, rX2_same, rL_isSorted]; omega)) (by first | omega | (simp only [rX2_many, rX2_isFalling, rX2_key, rX2_stamp, rX2_rank, rX2_copy, rX2_end, rX2_sort, rX2_isSorted, rX2_bag, rX2_mark, rX2_same, rL_isSorted]; omega)) ?_
          exact ih (k + 1) h5 (by omega) c7c ((c7d (n) (by omega)).trans eK) ((c7d (n + 1) (by omega)).trans eT) ((c7d (n + 2) (by omega)).trans eR) (by omega)
      · have er : rf k = nI (rankf X k) := by rcases iR k hk9 with z | z; exact absurd (by rw [z]; decide) q2; exact z
        refine mt_aload_n dL_isSorted_243 rfl rfl ?_
        refine mt_iload_n dL_isSorted_244 rfl ?_
        refine mt_aload dL_isSorted_245 rfl rfl ?_
        refine mt_iload dL_isSorted_247 rfl ?_
        refine mp_iaload dL_isSorted_249 eR rfl (by omega) (by omega) (v := rf k) rfl ?_
        rw [er]
        refine mt_callV (N := mX2_key) (Rc := rX2_key) (As := [.int (nI r), .int (nI (rankf X k))]) (st := []) dL_isSorted_250 ((kX2_key hl C).good (v := .int (xk ((msort X).1) (rankf X k))) (S' := S) (by rw [g_key (lenOk_of C) hr (by rw [hX]; omega), hX])) sX2_key mw_468 mKX2 rfl C.1 rfl (Nat.le_of_ble_eq_true rfl) ⟨⟨Nat.le_of_ble_eq_true rfl, Nat.le_of_ble_eq_true rfl⟩, (by simp only [rX2_many, rX2_isFalling, rX2_key, rX2_stamp, rX2_rank, rX2_copy, rX2_end, rX2_sort, rX2_isSorted, rX2_bag, rX2_mark, rX2_same, rL_isSorted]; omega), (by simp only [rX2_many, rX2_isFalling, rX2_key, rX2_stamp, rX2_rank, rX2_copy, rX2_end, rX2_sort, rX2_isSorted, rX2_bag, rX2_mark, rX2_same, rL_isSorted]; omega)⟩ (fun v8 h9 n10 c11 => ?_) (fun _ _ _ hx => hx.elim)
        obtain ⟨c11a, c11b, c11c, c11d⟩ := c11
        rw [c11a, c11b]
        show mT _ _ _ _ 253 [.ref 0, .int (nI r), .int (nI d), .int (nI X.length), .ref n, .ref (n + 1), .ref (n + 2), .ref (n + 3), .int (mb (q_fallsThroughout X)), .int (nI cp), .int lk, .int (nI k)] [.int (xk ((msort X).1) (rankf X k))] _ _ _ _
        refine mt_aload dL_isSorted_253 rfl rfl ?_
        refine mt_iload dL_isSorted_255 rfl ?_
        refine mp_iaload dL_isSorted_257 ((c11d (n) (by omega)).trans eK) rfl (by omega) (by omega) (v := kf k) rfl ?_
        refine mt_icmp_ne dL_isSorted_258 (tgt := 279) rfl (fun q9 => absurd q9 (fun z => z ((congrArg Prod.fst (lf_rank hk9).2).trans (iK k hk9).symm))) (fun q9 => ?_)
        refine mt_aload_n dL_isSorted_261 rfl rfl ?_
        refine mt_iload_n dL_isSorted_262 rfl ?_
        refine mt_aload dL_isSorted_263 rfl rfl ?_
        refine mt_iload dL_isSorted_265 rfl ?_
        refine mp_iaload dL_isSorted_267 ((c11d (n + 2) (by omega)).trans eR) rfl (by omega) (by omega) (v := rf k) rfl ?_
        rw [er]
        refine mt_callV (N := mX2_stamp) (Rc := rX2_stamp) (As := [.int (nI r), .int (nI (rankf X k))]) (st := []) dL_isSorted_268 ((kX2_stamp hl c11c).good (v := .int (xt ((msort X).1) (rankf X k))) (S' := S) (by rw [g_stamp (lenOk_of c11c) hr (by rw [hX]; omega), hX])) sX2_stamp mw_475 mKX2 rfl c11c.1 rfl (Nat.le_of_ble_eq_true rfl) ⟨⟨Nat.le_of_ble_eq_true rfl, Nat.le_of_ble_eq_true rfl⟩, (by simp only [rX2_many, rX2_isFalling, rX2_key, rX2_stamp, rX2_rank, rX2_copy, rX2_end, rX2_sort, rX2_isSorted, rX2_bag, rX2_mark, rX2_same, rL_isSorted]; omega), (by simp only [rX2_many, rX2_isFalling, rX2_key, rX2_stamp, rX2_rank, rX2_copy, rX2_end, rX2_sort, rX2_isSorted, rX2_bag, rX2_mark, rX2_same, rL_isSorted]; omega)⟩ (fun v12 h13 n14 c15 => ?_) (fun _ _ _ hx => hx.elim)
        obtain ⟨c15a, c15b, c15c, c15d⟩ := c15
        rw [c15a, c15b]
        show mT _ _ _ _ 271 [.ref 0, .int (nI r), .int (nI d), .int (nI X.length), .ref n, .ref (n + 1), .ref (n + 2), .ref (n + 3), .int (mb (q_fallsThroughout X)), .int (nI cp), .int lk, .int (nI k)] [.int (xt ((msort X).1) (rankf X k))] _ _ _ _
        refine mt_aload dL_isSorted_271 rfl rfl ?_
        refine mt_iload dL_isSorted_273 rfl ?_
        refine mp_iaload dL_isSorted_275 ((c15d (n + 1) (by omega)).trans ((c11d (n + 1) (by omega)).trans eT)) rfl (by omega) (by omega) (v := sf k) rfl ?_
        refine mt_icmp_eq dL_isSorted_276 (tgt := 281) rfl (fun q9 => ?_) (fun q9 => absurd q9 (fun z => z ((congrArg Prod.snd (lf_rank hk9).2).trans (iT k hk9).symm)))
        refine mt_iload dL_isSorted_281 rfl ?_
        refine mt_if_eq dL_isSorted_283 (tgt := 307) rfl (fun q16 => ?_) (fun q16 => ?_)
        · have q16 : (q_fallsThroughout X) = false := mb_0.mp q16
          refine mp_iinc dL_isSorted_307 rfl (v := nI (k + 1)) mI_inc (ls' := [.ref 0, .int (nI r), .int (nI d), .int (nI X.length), .ref n, .ref (n + 1), .ref (n + 2), .ref (n + 3), .int (mb (q_fallsThroughout X)), .int (nI cp), .int lk, .int (nI (k + 1))]) rfl (by decide) rfl ?_
          refine mt_goto dL_isSorted_310 (tgt := 229) rfl ?_
          refine mt_widen (cc' := 2300 + 6 * (k + 1)) (sc' := 15000 + 36 * (k + 1)) (by first | omega | (simp only [rX2_many, rX2_isFalling, rX2_key, rX2_stamp, rX2_rank, rX2_copy, rX2_end, rX2_sort, rX2_isSorted, rX2_bag, rX2_mark, rX2_same, rL_isSorted]; omega)) (by first | omega | (simp only [rX2_many, rX2_isFalling, rX2_key, rX2_stamp, rX2_rank, rX2_copy, rX2_end, rX2_sort, rX2_isSorted, rX2_bag, rX2_mark, rX2_same, rL_isSorted]; omega)) ?_
          exact ih (k + 1) h13 (by omega) c15c ((c15d (n) (by omega)).trans ((c11d (n) (by omega)).trans eK)) ((c15d (n + 1) (by omega)).trans ((c11d (n + 1) (by omega)).trans eT)) ((c15d (n + 2) (by omega)).trans ((c11d (n + 2) (by omega)).trans eR)) (by omega)
        · have q16 : (q_fallsThroughout X) = true := mb_1.mp q16
          refine mt_aload_n dL_isSorted_286 rfl rfl ?_
          refine mt_iload_n dL_isSorted_287 rfl ?_
          refine mt_iload_n dL_isSorted_288 rfl ?_
          refine mt_iconst dL_isSorted_289 (v := nI 1) rfl ?_
          refine mp_isub dL_isSorted_290 (v := nI (X.length - 1)) (pk_sub (by omega)) ?_
          refine mt_iload dL_isSorted_291 rfl ?_
          refine mp_isub dL_isSorted_293 (v := nI ((X.length - 1) - k)) (pk_sub (by omega)) ?_
          refine mt_callV (N := mX2_key) (Rc := rX2_key) (As := [.int (nI r), .int (nI ((X.length - 1) - k))]) (st := []) dL_isSorted_294 ((kX2_key hl c15c).good (v := .int (xk ((msort X).1) ((X.length - 1) - k))) (S' := S) (by rw [g_key (lenOk_of c15c) hr (by rw [hX]; omega), hX])) sX2_key mw_468 mKX2 rfl c15c.1 rfl (Nat.le_of_ble_eq_true rfl) ⟨⟨Nat.le_of_ble_eq_true rfl, Nat.le_of_ble_eq_true rfl⟩, (by simp only [rX2_many, rX2_isFalling, rX2_key, rX2_stamp, rX2_rank, rX2_copy, rX2_end, rX2_sort, rX2_isSorted, rX2_bag, rX2_mark, rX2_same, rL_isSorted]; omega), (by simp only [rX2_many, rX2_isFalling, rX2_key, rX2_stamp, rX2_rank, rX2_copy, rX2_end, rX2_sort, rX2_isSorted, rX2_bag, rX2_mark, rX2_same, rL_isSorted]; omega)⟩ (fun v17 h18 n19 c20 => ?_) (fun _ _ _ hx => hx.elim)
          obtain ⟨c20a, c20b, c20c, c20d⟩ := c20
          rw [c20a, c20b]
          show mT _ _ _ _ 297 [.ref 0, .int (nI r), .int (nI d), .int (nI X.length), .ref n, .ref (n + 1), .ref (n + 2), .ref (n + 3), .int (mb (q_fallsThroughout X)), .int (nI cp), .int lk, .int (nI k)] [.int (xk ((msort X).1) ((X.length - 1) - k))] _ _ _ _
          refine mt_aload dL_isSorted_297 rfl rfl ?_
          refine mt_iload dL_isSorted_299 rfl ?_
          refine mp_iaload dL_isSorted_301 ((c20d (n) (by omega)).trans ((c15d (n) (by omega)).trans ((c11d (n) (by omega)).trans eK))) rfl (by omega) (by omega) (v := kf k) rfl ?_
          refine mt_icmp_eq dL_isSorted_302 (tgt := 307) rfl (fun q9 => ?_) (fun q9 => absurd q9 (fun z => z ((congrArg Prod.fst (lf_falls (falls_iff.mp q16) hk9)).trans (iK k hk9).symm)))
          refine mp_iinc dL_isSorted_307 rfl (v := nI (k + 1)) mI_inc (ls' := [.ref 0, .int (nI r), .int (nI d), .int (nI X.length), .ref n, .ref (n + 1), .ref (n + 2), .ref (n + 3), .int (mb (q_fallsThroughout X)), .int (nI cp), .int lk, .int (nI (k + 1))]) rfl (by decide) rfl ?_
          refine mt_goto dL_isSorted_310 (tgt := 229) rfl ?_
          refine mt_widen (cc' := 2300 + 6 * (k + 1)) (sc' := 15000 + 36 * (k + 1)) (by first | omega | (simp only [rX2_many, rX2_isFalling, rX2_key, rX2_stamp, rX2_rank, rX2_copy, rX2_end, rX2_sort, rX2_isSorted, rX2_bag, rX2_mark, rX2_same, rL_isSorted]; omega)) (by first | omega | (simp only [rX2_many, rX2_isFalling, rX2_key, rX2_stamp, rX2_rank, rX2_copy, rX2_end, rX2_sort, rX2_isSorted, rX2_bag, rX2_mark, rX2_same, rL_isSorted]; omega)) ?_
          exact ih (k + 1) h18 (by omega) c20c ((c20d (n) (by omega)).trans ((c15d (n) (by omega)).trans ((c11d (n) (by omega)).trans eK))) ((c20d (n + 1) (by omega)).trans ((c15d (n + 1) (by omega)).trans ((c11d (n + 1) (by omega)).trans eT))) ((c20d (n + 2) (by omega)).trans ((c15d (n + 2) (by omega)).trans ((c11d (n + 2) (by omega)).trans eR))) (by omega)
set_option maxRecDepth 100000 in
set_option maxHeartbeats 2000000 in
theorem kL_isSorted {l : Launch} (hl : l.stackTraces = false) {h : mH} {n r d : Nat} {S : cS} (C : cAt h S) (hr : r < 4) (hd : d < 4) (hn : 27 ≤ n) : mC l mL_isSorted rL_isSorted [.ref 0, .int (nI r), .int (nI d)] h n (fun v h' n' => v = some (.int (nI 1)) ∧ n ≤ n' ∧ ∃ S', cAt h' S') (mNX) := by
  obtain ⟨X, hX⟩ : ∃ z, S.1 r = z := ⟨_, rfl⟩
  have hL : X.length ≤ 320 := by rw [← hX]; exact (lenOk_of C).le hr
  obtain ⟨c1, hc1, ec1⟩ := lf_others (xs := X) (ys := (msort X).1) hL
  refine mm_enter hl (by decide +kernel) rfl rfl rfl (Nat.le_of_ble_eq_true rfl) ?_
  show mT _ _ _ _ 0 [.ref 0, .int (nI r), .int (nI d), .double 0, .double 0, .double 0, .double 0, .double 0, .double 0, .double 0, .double 0, .double 0] [] _ _ 0 0
  refine mt_aload_n dL_isSorted_0 rfl rfl ?_
  refine mt_iload_n dL_isSorted_1 rfl ?_
  refine mt_callV (N := mX2_many) (Rc := rX2_many) (As := [.int (nI r)]) (st := []) dL_isSorted_2 ((kX2_many hl C).good (v := .int (nI X.length)) (S' := S) (by rw [g_many hr, hX])) sX2_many mw_213 mKX2 rfl C.1 rfl (Nat.le_of_ble_eq_true rfl) ⟨⟨Nat.le_of_ble_eq_true rfl, Nat.le_of_ble_eq_true rfl⟩, (by simp only [rX2_many, rX2_isFalling, rX2_key, rX2_stamp, rX2_rank, rX2_copy, rX2_end, rX2_sort, rX2_isSorted, rX2_bag, rX2_mark, rX2_same, rL_isSorted]; omega), (by simp only [rX2_many, rX2_isFalling, rX2_key, rX2_stamp, rX2_rank, rX2_copy, rX2_end, rX2_sort, rX2_isSorted, rX2_bag, rX2_mark, rX2_same, rL_isSorted]; omega)⟩ (fun v1 h2 n3 c4 => ?_) (fun _ _ _ hx => hx.elim)
  obtain ⟨c4a, c4b, c4c, c4d⟩ := c4
  rw [c4a, c4b]
  show mT _ _ _ _ 5 [.ref 0, .int (nI r), .int (nI d), .double 0, .double 0, .double 0, .double 0, .double 0, .double 0, .double 0, .double 0, .double 0] [.int (nI X.length)] _ _ _ _
  refine mp_istore_n dL_isSorted_5 (ls' := [.ref 0, .int (nI r), .int (nI d), .int (nI X.length), .double 0, .double 0, .double 0, .double 0, .double 0, .double 0, .double 0, .double 0]) rfl (by decide) rfl ?_
  refine mt_iload_n dL_isSorted_6 rfl ?_
  refine mp_newarray dL_isSorted_7 mw_70 rfl (by omega) (by simp only [rX2_many, rX2_isFalling, rX2_key, rX2_stamp, rX2_rank, rX2_copy, rX2_end, rX2_sort, rX2_isSorted, rX2_bag, rX2_mark, rX2_same, rL_isSorted]; omega) (by simp only [rX2_many, rX2_isFalling, rX2_key, rX2_stamp, rX2_rank, rX2_copy, rX2_end, rX2_sort, rX2_isSorted, rX2_bag, rX2_mark, rX2_same, rL_isSorted]; omega) (fun h5 e6 f7 => ?_)
  refine mp_astore dL_isSorted_9 (ls' := [.ref 0, .int (nI r), .int (nI d), .int (nI X.length), .ref n, .double 0, .double 0, .double 0, .double 0, .double 0, .double 0, .double 0]) rfl rfl (by decide) rfl ?_
  refine mt_iload_n dL_isSorted_11 rfl ?_
  refine mp_newarray dL_isSorted_12 mw_70 rfl (by omega) (by simp only [rX2_many, rX2_isFalling, rX2_key, rX2_stamp, rX2_rank, rX2_copy, rX2_end, rX2_sort, rX2_isSorted, rX2_bag, rX2_mark, rX2_same, rL_isSorted]; omega) (by simp only [rX2_many, rX2_isFalling, rX2_key, rX2_stamp, rX2_rank, rX2_copy, rX2_end, rX2_sort, rX2_isSorted, rX2_bag, rX2_mark, rX2_same, rL_isSorted]; omega) (fun h8 e9 f10 => ?_)
  refine mp_astore dL_isSorted_14 (ls' := [.ref 0, .int (nI r), .int (nI d), .int (nI X.length), .ref n, .ref (n + 1), .double 0, .double 0, .double 0, .double 0, .double 0, .double 0]) rfl rfl (by decide) rfl ?_
  refine mt_iload_n dL_isSorted_16 rfl ?_
  refine mp_newarray dL_isSorted_17 mw_70 rfl (by omega) (by simp only [rX2_many, rX2_isFalling, rX2_key, rX2_stamp, rX2_rank, rX2_copy, rX2_end, rX2_sort, rX2_isSorted, rX2_bag, rX2_mark, rX2_same, rL_isSorted]; omega) (by simp only [rX2_many, rX2_isFalling, rX2_key, rX2_stamp, rX2_rank, rX2_copy, rX2_end, rX2_sort, rX2_isSorted, rX2_bag, rX2_mark, rX2_same, rL_isSorted]; omega) (fun h11 e12 f13 => ?_)
  refine mp_astore dL_isSorted_19 (ls' := [.ref 0, .int (nI r), .int (nI d), .int (nI X.length), .ref n, .ref (n + 1), .ref (n + 2), .double 0, .double 0, .double 0, .double 0, .double 0]) rfl rfl (by decide) rfl ?_
  refine mt_iload_n dL_isSorted_21 rfl ?_
  refine mp_newarrayZ dL_isSorted_22 mw_512 (by omega) (by simp only [rX2_many, rX2_isFalling, rX2_key, rX2_stamp, rX2_rank, rX2_copy, rX2_end, rX2_sort, rX2_isSorted, rX2_bag, rX2_mark, rX2_same, rL_isSorted]; omega) (by simp only [rX2_many, rX2_isFalling, rX2_key, rX2_stamp, rX2_rank, rX2_copy, rX2_end, rX2_sort, rX2_isSorted, rX2_bag, rX2_mark, rX2_same, rL_isSorted]; omega) (fun h14 e15 f16 => ?_)
  refine mp_astore dL_isSorted_24 (ls' := [.ref 0, .int (nI r), .int (nI d), .int (nI X.length), .ref n, .ref (n + 1), .ref (n + 2), .ref (n + 3), .double 0, .double 0, .double 0, .double 0]) rfl rfl (by decide) rfl ?_
  refine mt_aload_n dL_isSorted_26 rfl rfl ?_
  refine mt_iload_n dL_isSorted_27 rfl ?_
  refine mt_callV (N := mX2_isFalling) (Rc := rX2_isFalling) (As := [.int (nI r)]) (st := []) dL_isSorted_28 ((kX2_isFalling hl c4c).good (v := .int (mb (q_fallsThroughout X))) (S' := S) (by rw [g_isFalling hr, hX])) sX2_isFalling mw_452 mKX2 rfl ((f16 (0) (by omega)).trans ((f13 (0) (by omega)).trans ((f10 (0) (by omega)).trans ((f7 (0) (by omega)).trans c4c.1)))) rfl (Nat.le_of_ble_eq_true rfl) ⟨⟨Nat.le_of_ble_eq_true rfl, Nat.le_of_ble_eq_true rfl⟩, (by simp only [rX2_many, rX2_isFalling, rX2_key, rX2_stamp, rX2_rank, rX2_copy, rX2_end, rX2_sort, rX2_isSorted, rX2_bag, rX2_mark, rX2_same, rL_isSorted]; omega), (by simp only [rX2_many, rX2_isFalling, rX2_key, rX2_stamp, rX2_rank, rX2_copy, rX2_end, rX2_sort, rX2_isSorted, rX2_bag, rX2_mark, rX2_same, rL_isSorted]; omega)⟩ (fun v17 h18 n19 c20 => ?_) (fun _ _ _ hx => hx.elim)
  obtain ⟨c20a, c20b, c20c, c20d⟩ := c20
  rw [c20a, c20b]
  show mT _ _ _ _ 31 [.ref 0, .int (nI r), .int (nI d), .int (nI X.length), .ref n, .ref (n + 1), .ref (n + 2), .ref (n + 3), .double 0, .double 0, .double 0, .double 0] [.int (mb (q_fallsThroughout X))] _ _ _ _
  refine mp_istore dL_isSorted_31 (ls' := [.ref 0, .int (nI r), .int (nI d), .int (nI X.length), .ref n, .ref (n + 1), .ref (n + 2), .ref (n + 3), .int (mb (q_fallsThroughout X)), .double 0, .double 0, .double 0]) rfl (by decide) rfl ?_
  refine mt_widen (cc' := 100 + 6 * 0) (sc' := 2000 + 36 * 0) (by simp only [rX2_many, rX2_isFalling, rX2_key, rX2_stamp, rX2_rank, rX2_copy, rX2_end, rX2_sort, rX2_isSorted, rX2_bag, rX2_mark, rX2_same, rL_isSorted]; omega) (by simp only [rX2_many, rX2_isFalling, rX2_key, rX2_stamp, rX2_rank, rX2_copy, rX2_end, rX2_sort, rX2_isSorted, rX2_bag, rX2_mark, rX2_same, rL_isSorted]; omega) ?_
  refine mt_iconst dL_isSorted_33 (v := nI 0) rfl ?_
  refine mp_istore dL_isSorted_34 (ls' := [.ref 0, .int (nI r), .int (nI d), .int (nI X.length), .ref n, .ref (n + 1), .ref (n + 2), .ref (n + 3), .int (mb (q_fallsThroughout X)), .int (nI 0), .double 0, .double 0]) rfl (by decide) rfl ?_
  refine tL_isSorted_36 hl hr hn hL hX (fun h_21 kf_22 sf_23 rf_24 tf_25 z26 z27 z28 z29 z30 z31 z32 => ?_) _ 0 h18 (fun _ => (0 : Int32)) (fun _ => (0 : Int32)) (fun _ => (0 : Int32)) (fun _ => (0 : Int32)) (Nat.lt_succ_self _) c20c ((c20d (n) (by omega)).trans ((f16 (n) (by omega)).trans ((f13 (n) (by omega)).trans ((f10 (n) (by omega)).trans e6)))) ((c20d (n + 1) (by omega)).trans ((f16 (n + 1) (by omega)).trans ((f13 (n + 1) (by omega)).trans e9))) ((c20d (n + 2) (by omega)).trans ((f16 (n + 2) (by omega)).trans e12)) ((c20d (n + 3) (by omega)).trans e15) (fun i hi => absurd hi (by omega)) (fun i hi => absurd hi (by omega)) (fun i hi => absurd hi (by omega)) (fun j hj => Or.inl rfl) (by omega)
  by_cases hdr : d = r
  · refine mt_iload_n dL_isSorted_144 rfl ?_
    refine mt_iload_n dL_isSorted_145 rfl ?_
    refine mt_icmp_eq dL_isSorted_146 (tgt := 163) rfl (fun q9 => ?_) (fun q9 => absurd q9 (fun z => z (by rw [hdr])))
    refine mt_iconst dL_isSorted_163 (v := nI 0) rfl ?_
    refine mp_istore dL_isSorted_164 (ls' := [.ref 0, .int (nI r), .int (nI d), .int (nI X.length), .ref n, .ref (n + 1), .ref (n + 2), .ref (n + 3), .int (mb (q_fallsThroughout X)), .int (nI 0), .double 0, .double 0]) rfl (by decide) rfl ?_
    refine mt_aload_n dL_isSorted_166 rfl rfl ?_
    refine mt_iload_n dL_isSorted_167 rfl ?_
    refine mt_iconst dL_isSorted_168 (v := nI 0) rfl ?_
    refine mt_callV (N := mX2_end) (Rc := rX2_end) (As := [.int (nI r), .int (nI 0)]) (st := []) dL_isSorted_169 ((kX2_end (isGreatest := false) hl z26).good (v := .int (q_leastKey X)) (S' := S) (by rw [g_end hr, hX])) sX2_end mw_484 mKX2 rfl z26.1 rfl (Nat.le_of_ble_eq_true rfl) ⟨⟨Nat.le_of_ble_eq_true rfl, Nat.le_of_ble_eq_true rfl⟩, (by simp only [rX2_many, rX2_isFalling, rX2_key, rX2_stamp, rX2_rank, rX2_copy, rX2_end, rX2_sort, rX2_isSorted, rX2_bag, rX2_mark, rX2_same, rL_isSorted]; omega), (by simp only [rX2_many, rX2_isFalling, rX2_key, rX2_stamp, rX2_rank, rX2_copy, rX2_end, rX2_sort, rX2_isSorted, rX2_bag, rX2_mark, rX2_same, rL_isSorted]; omega)⟩ (fun v33 h34 n35 c36 => ?_) (fun _ _ _ hx => hx.elim)
    obtain ⟨c36a, c36b, c36c, c36d⟩ := c36
    rw [c36a, c36b]
    show mT _ _ _ _ 172 [.ref 0, .int (nI r), .int (nI d), .int (nI X.length), .ref n, .ref (n + 1), .ref (n + 2), .ref (n + 3), .int (mb (q_fallsThroughout X)), .int (nI 0), .double 0, .double 0] [.int (q_leastKey X)] _ _ _ _
    refine mp_istore dL_isSorted_172 (ls' := [.ref 0, .int (nI r), .int (nI d), .int (nI X.length), .ref n, .ref (n + 1), .ref (n + 2), .ref (n + 3), .int (mb (q_fallsThroughout X)), .int (nI 0), .int (q_leastKey X), .double 0]) rfl (by decide) rfl ?_
    refine mt_aload_n dL_isSorted_174 rfl rfl ?_
    refine mt_iload_n dL_isSorted_175 rfl ?_
    refine mt_callV (N := mX2_sort) (Rc := rX2_sort) (As := [.int (nI r)]) (st := []) dL_isSorted_176 ((kX2_sort hl c36c).good (v := .int (nI c1)) (S' := cAct (cSet S r ((msort X).1))) (by rw [g_sort hr, hX, ec1])) sX2_sort mw_429 mKX2 rfl c36c.1 rfl (Nat.le_of_ble_eq_true rfl) ⟨⟨Nat.le_of_ble_eq_true rfl, Nat.le_of_ble_eq_true rfl⟩, (by simp only [rX2_many, rX2_isFalling, rX2_key, rX2_stamp, rX2_rank, rX2_copy, rX2_end, rX2_sort, rX2_isSorted, rX2_bag, rX2_mark, rX2_same, rL_isSorted]; omega), (by simp only [rX2_many, rX2_isFalling, rX2_key, rX2_stamp, rX2_rank, rX2_copy, rX2_end, rX2_sort, rX2_isSorted, rX2_bag, rX2_mark, rX2_same, rL_isSorted]; omega)⟩ (fun v37 h38 n39 c40 => ?_) (fun _ _ _ hx => hx.elim)
    obtain ⟨c40a, c40b, c40c, c40d⟩ := c40
    rw [c40a, c40b]
    obtain ⟨S_41, eS_41⟩ : ∃ z, z = cAct (cSet S r ((msort X).1)) := ⟨_, rfl⟩
    rw [← eS_41] at c40c
    have xS_41_r : S_41.1 r = (msort X).1 := by rw [eS_41]; exact cSet_at
    show mT _ _ _ _ 179 [.ref 0, .int (nI r), .int (nI d), .int (nI X.length), .ref n, .ref (n + 1), .ref (n + 2), .ref (n + 3), .int (mb (q_fallsThroughout X)), .int (nI 0), .int (q_leastKey X), .double 0] [.int (nI c1)] _ _ _ _
    refine mt_if_lt dL_isSorted_179 (tgt := 224) rfl (fun q42 => ?_) (fun q42 => ?_)
    · have q42 := (mI_lt0 (by omega)).mp q42
      exact q42.elim
    · have q42 := (not_congr (mI_lt0 (by omega))).mp q42
      refine mt_aload_n dL_isSorted_182 rfl rfl ?_
      refine mt_iload_n dL_isSorted_183 rfl ?_
      refine mt_callV (N := mX2_isSorted) (Rc := rX2_isSorted) (As := [.int (nI r)]) (st := []) dL_isSorted_184 ((kX2_isSorted hl c40c).good (v := .int (nI 1)) (S' := S_41) (by rw [g_isSorted hr, xS_41_r, lf_rises lf_ksorted, mb_t])) sX2_isSorted mw_448 mKX2 rfl c40c.1 rfl (Nat.le_of_ble_eq_true rfl) ⟨⟨Nat.le_of_ble_eq_true rfl, Nat.le_of_ble_eq_true rfl⟩, (by simp only [rX2_many, rX2_isFalling, rX2_key, rX2_stamp, rX2_rank, rX2_copy, rX2_end, rX2_sort, rX2_isSorted, rX2_bag, rX2_mark, rX2_same, rL_isSorted]; omega), (by simp only [rX2_many, rX2_isFalling, rX2_key, rX2_stamp, rX2_rank, rX2_copy, rX2_end, rX2_sort, rX2_isSorted, rX2_bag, rX2_mark, rX2_same, rL_isSorted]; omega)⟩ (fun v43 h44 n45 c46 => ?_) (fun _ _ _ hx => hx.elim)
      obtain ⟨c46a, c46b, c46c, c46d⟩ := c46
      rw [c46a, c46b]
      show mT _ _ _ _ 187 [.ref 0, .int (nI r), .int (nI d), .int (nI X.length), .ref n, .ref (n + 1), .ref (n + 2), .ref (n + 3), .int (mb (q_fallsThroughout X)), .int (nI 0), .int (q_leastKey X), .double 0] [.int (nI 1)] _ _ _ _
      refine mt_if_eq dL_isSorted_187 (tgt := 224) rfl (fun q47 => ?_) (fun q47 => ?_)
      · have q47 := (mI_eq0 (by omega)).mp q47
        exact absurd q47 (by decide)
      · have q47 := (not_congr (mI_eq0 (by omega))).mp q47
        refine mt_aload_n dL_isSorted_190 rfl rfl ?_
        refine mt_iload_n dL_isSorted_191 rfl ?_
        refine mt_callV (N := mX2_many) (Rc := rX2_many) (As := [.int (nI r)]) (st := []) dL_isSorted_192 ((kX2_many hl c46c).good (v := .int (nI X.length)) (S' := S_41) (by rw [g_many hr, xS_41_r, msort_len])) sX2_many mw_213 mKX2 rfl c46c.1 rfl (Nat.le_of_ble_eq_true rfl) ⟨⟨Nat.le_of_ble_eq_true rfl, Nat.le_of_ble_eq_true rfl⟩, (by simp only [rX2_many, rX2_isFalling, rX2_key, rX2_stamp, rX2_rank, rX2_copy, rX2_end, rX2_sort, rX2_isSorted, rX2_bag, rX2_mark, rX2_same, rL_isSorted]; omega), (by simp only [rX2_many, rX2_isFalling, rX2_key, rX2_stamp, rX2_rank, rX2_copy, rX2_end, rX2_sort, rX2_isSorted, rX2_bag, rX2_mark, rX2_same, rL_isSorted]; omega)⟩ (fun v48 h49 n50 c51 => ?_) (fun _ _ _ hx => hx.elim)
        obtain ⟨c51a, c51b, c51c, c51d⟩ := c51
        rw [c51a, c51b]
        show mT _ _ _ _ 195 [.ref 0, .int (nI r), .int (nI d), .int (nI X.length), .ref n, .ref (n + 1), .ref (n + 2), .ref (n + 3), .int (mb (q_fallsThroughout X)), .int (nI 0), .int (q_leastKey X), .double 0] [.int (nI X.length)] _ _ _ _
        refine mt_iload_n dL_isSorted_195 rfl ?_
        refine mt_icmp_ne dL_isSorted_196 (tgt := 224) rfl (fun q9 => absurd q9 (fun z => z rfl)) (fun q9 => ?_)
        refine mt_iload dL_isSorted_199 rfl ?_
        refine mt_if_eq dL_isSorted_201 (tgt := 213) rfl (fun q52 => ?_) (fun q52 => ?_)
        · have q52 := (mI_eq0 (by omega)).mp q52
          refine mt_aload_n dL_isSorted_213 rfl rfl ?_
          refine mt_iload_n dL_isSorted_214 rfl ?_
          refine mt_iconst dL_isSorted_215 (v := nI 0) rfl ?_
          refine mt_callV (N := mX2_end) (Rc := rX2_end) (As := [.int (nI r), .int (nI 0)]) (st := []) dL_isSorted_216 ((kX2_end (isGreatest := false) hl c51c).good (v := .int (q_leastKey X)) (S' := S_41) (by rw [g_end hr, xS_41_r, lf_least_perm lf_msks])) sX2_end mw_484 mKX2 rfl c51c.1 rfl (Nat.le_of_ble_eq_true rfl) ⟨⟨Nat.le_of_ble_eq_true rfl, Nat.le_of_ble_eq_true rfl⟩, (by simp only [rX2_many, rX2_isFalling, rX2_key, rX2_stamp, rX2_rank, rX2_copy, rX2_end, rX2_sort, rX2_isSorted, rX2_bag, rX2_mark, rX2_same, rL_isSorted]; omega), (by simp only [rX2_many, rX2_isFalling, rX2_key, rX2_stamp, rX2_rank, rX2_copy, rX2_end, rX2_sort, rX2_isSorted, rX2_bag, rX2_mark, rX2_same, rL_isSorted]; omega)⟩ (fun v53 h54 n55 c56 => ?_) (fun _ _ _ hx => hx.elim)
          obtain ⟨c56a, c56b, c56c, c56d⟩ := c56
          rw [c56a, c56b]
          show mT _ _ _ _ 219 [.ref 0, .int (nI r), .int (nI d), .int (nI X.length), .ref n, .ref (n + 1), .ref (n + 2), .ref (n + 3), .int (mb (q_fallsThroughout X)), .int (nI 0), .int (q_leastKey X), .double 0] [.int (q_leastKey X)] _ _ _ _
          refine mt_iload dL_isSorted_219 rfl ?_
          refine mt_icmp_eq dL_isSorted_221 (tgt := 226) rfl (fun q9 => ?_) (fun q9 => absurd q9 (fun z => z rfl))
          refine mt_widen (cc' := 2300 + 6 * 0) (sc' := 15000 + 36 * 0) (by simp only [rX2_many, rX2_isFalling, rX2_key, rX2_stamp, rX2_rank, rX2_copy, rX2_end, rX2_sort, rX2_isSorted, rX2_bag, rX2_mark, rX2_same, rL_isSorted]; omega) (by simp only [rX2_many, rX2_isFalling, rX2_key, rX2_stamp, rX2_rank, rX2_copy, rX2_end, rX2_sort, rX2_isSorted, rX2_bag, rX2_mark, rX2_same, rL_isSorted]; omega) ?_
          refine mt_iconst dL_isSorted_226 (v := nI 0) rfl ?_
          refine mp_istore dL_isSorted_227 (ls' := [.ref 0, .int (nI r), .int (nI d), .int (nI X.length), .ref n, .ref (n + 1), .ref (n + 2), .ref (n + 3), .int (mb (q_fallsThroughout X)), .int (nI 0), .int (q_leastKey X), .int (nI 0)]) rfl (by decide) rfl ?_
          refine tL_isSorted_229 hl hr hn hL xS_41_r z30 z31 z32 (fun k_57 h_58 z59 => ?_) _ 0 h54 (Nat.lt_succ_self _) c56c ((c56d (n) (by omega)).trans ((c51d (n) (by omega)).trans ((c46d (n) (by omega)).trans ((c40d (n) (by omega)).trans ((c36d (n) (by omega)).trans z27))))) ((c56d (n + 1) (by omega)).trans ((c51d (n + 1) (by omega)).trans ((c46d (n + 1) (by omega)).trans ((c40d (n + 1) (by omega)).trans ((c36d (n + 1) (by omega)).trans z28))))) ((c56d (n + 2) (by omega)).trans ((c51d (n + 2) (by omega)).trans ((c46d (n + 2) (by omega)).trans ((c40d (n + 2) (by omega)).trans ((c36d (n + 2) (by omega)).trans z29))))) (by omega)
          refine mt_aload_n dL_isSorted_313 rfl rfl ?_
          refine mt_iload_n dL_isSorted_314 rfl ?_
          refine mt_iconst dL_isSorted_315 (v := nI 1) rfl ?_
          refine mt_callV (N := mX2_mark) (Rc := rX2_mark) (As := [.int (nI r), .int (nI 1)]) (st := []) dL_isSorted_316 ((kX2_mark (isStamps := true) hl z59).good (v := .int (q_mark ((msort X).1) true)) (S' := S_41) (by rw [g_mark hr, xS_41_r])) sX2_mark mw_504 mKX2 rfl z59.1 rfl (Nat.le_of_ble_eq_true rfl) ⟨⟨Nat.le_of_ble_eq_true rfl, Nat.le_of_ble_eq_true rfl⟩, (by simp only [rX2_many, rX2_isFalling, rX2_key, rX2_stamp, rX2_rank, rX2_copy, rX2_end, rX2_sort, rX2_isSorted, rX2_bag, rX2_mark, rX2_same, rL_isSorted]; omega), (by simp only [rX2_many, rX2_isFalling, rX2_key, rX2_stamp, rX2_rank, rX2_copy, rX2_end, rX2_sort, rX2_isSorted, rX2_bag, rX2_mark, rX2_same, rL_isSorted]; omega)⟩ (fun v60 h61 n62 c63 => ?_) (fun _ _ _ hx => hx.elim)
          obtain ⟨c63a, c63b, c63c, c63d⟩ := c63
          rw [c63a, c63b]
          show mT _ _ _ _ 319 [.ref 0, .int (nI r), .int (nI d), .int (nI X.length), .ref n, .ref (n + 1), .ref (n + 2), .ref (n + 3), .int (mb (q_fallsThroughout X)), .int (nI 0), .int (q_leastKey X), .int (nI k_57)] [.int (q_mark ((msort X).1) true)] _ _ _ _
          refine mp_istore dL_isSorted_319 (ls' := [.ref 0, .int (nI r), .int (nI d), .int (nI X.length), .ref n, .ref (n + 1), .ref (n + 2), .ref (n + 3), .int (mb (q_fallsThroughout X)), .int (nI 0), .int (q_leastKey X), .int (q_mark ((msort X).1) true)]) rfl (by decide) rfl ?_
          refine mt_aload_n dL_isSorted_321 rfl rfl ?_
          refine mt_iload_n dL_isSorted_322 rfl ?_
          refine mt_callV (N := mX2_sort) (Rc := rX2_sort) (As := [.int (nI r)]) (st := []) dL_isSorted_323 ((kX2_sort hl c63c).good (v := .int (nI 0)) (S' := cAct (cSet S_41 r ((msort X).1))) (by rw [g_sort hr, xS_41_r, lf_idem lf_ksorted, other_self0])) sX2_sort mw_429 mKX2 rfl c63c.1 rfl (Nat.le_of_ble_eq_true rfl) ⟨⟨Nat.le_of_ble_eq_true rfl, Nat.le_of_ble_eq_true rfl⟩, (by simp only [rX2_many, rX2_isFalling, rX2_key, rX2_stamp, rX2_rank, rX2_copy, rX2_end, rX2_sort, rX2_isSorted, rX2_bag, rX2_mark, rX2_same, rL_isSorted]; omega), (by simp only [rX2_many, rX2_isFalling, rX2_key, rX2_stamp, rX2_rank, rX2_copy, rX2_end, rX2_sort, rX2_isSorted, rX2_bag, rX2_mark, rX2_same, rL_isSorted]; omega)⟩ (fun v64 h65 n66 c67 => ?_) (fun _ _ _ hx => hx.elim)
          obtain ⟨c67a, c67b, c67c, c67d⟩ := c67
          rw [c67a, c67b]
          obtain ⟨S_68, eS_68⟩ : ∃ z, z = cAct (cSet S_41 r ((msort X).1)) := ⟨_, rfl⟩
          rw [← eS_68] at c67c
          have xS_68_r : S_68.1 r = (msort X).1 := by rw [eS_68]; exact cSet_at
          show mT _ _ _ _ 326 [.ref 0, .int (nI r), .int (nI d), .int (nI X.length), .ref n, .ref (n + 1), .ref (n + 2), .ref (n + 3), .int (mb (q_fallsThroughout X)), .int (nI 0), .int (q_leastKey X), .int (q_mark ((msort X).1) true)] [.int (nI 0)] _ _ _ _
          refine mt_if_ne dL_isSorted_326 (tgt := 366) rfl (fun q69 => ?_) (fun q69 => ?_)
          · have q69 := (not_congr (mI_eq0 (by omega))).mp q69
            exact absurd q69 (by decide)
          · have q69 := (mI_eq0 (by omega)).mp q69
            refine mt_aload_n dL_isSorted_329 rfl rfl ?_
            refine mt_iload_n dL_isSorted_330 rfl ?_
            refine mt_iconst dL_isSorted_331 (v := nI 1) rfl ?_
            refine mt_callV (N := mX2_mark) (Rc := rX2_mark) (As := [.int (nI r), .int (nI 1)]) (st := []) dL_isSorted_332 ((kX2_mark (isStamps := true) hl c67c).good (v := .int (q_mark ((msort X).1) true)) (S' := S_68) (by rw [g_mark hr, xS_68_r])) sX2_mark mw_504 mKX2 rfl c67c.1 rfl (Nat.le_of_ble_eq_true rfl) ⟨⟨Nat.le_of_ble_eq_true rfl, Nat.le_of_ble_eq_true rfl⟩, (by simp only [rX2_many, rX2_isFalling, rX2_key, rX2_stamp, rX2_rank, rX2_copy, rX2_end, rX2_sort, rX2_isSorted, rX2_bag, rX2_mark, rX2_same, rL_isSorted]; omega), (by simp only [rX2_many, rX2_isFalling, rX2_key, rX2_stamp, rX2_rank, rX2_copy, rX2_end, rX2_sort, rX2_isSorted, rX2_bag, rX2_mark, rX2_same, rL_isSorted]; omega)⟩ (fun v70 h71 n72 c73 => ?_) (fun _ _ _ hx => hx.elim)
            obtain ⟨c73a, c73b, c73c, c73d⟩ := c73
            rw [c73a, c73b]
            show mT _ _ _ _ 335 [.ref 0, .int (nI r), .int (nI d), .int (nI X.length), .ref n, .ref (n + 1), .ref (n + 2), .ref (n + 3), .int (mb (q_fallsThroughout X)), .int (nI 0), .int (q_leastKey X), .int (q_mark ((msort X).1) true)] [.int (q_mark ((msort X).1) true)] _ _ _ _
            refine mt_iload dL_isSorted_335 rfl ?_
            refine mt_icmp_ne dL_isSorted_337 (tgt := 366) rfl (fun q9 => absurd q9 (fun z => z rfl)) (fun q9 => ?_)
            refine mt_iload dL_isSorted_340 rfl ?_
            refine mt_if_eq dL_isSorted_342 (tgt := 362) rfl (fun q74 => ?_) (fun q74 => ?_)
            · have q74 := (mI_eq0 (by omega)).mp q74
              refine mt_iconst dL_isSorted_362 (v := nI 1) rfl ?_
              refine mt_goto dL_isSorted_363 (tgt := 367) rfl ?_
              refine mt_ireturn dL_isSorted_367 rfl rfl (by simp only [rX2_many, rX2_isFalling, rX2_key, rX2_stamp, rX2_rank, rX2_copy, rX2_end, rX2_sort, rX2_isSorted, rX2_bag, rX2_mark, rX2_same, rL_isSorted]; omega) (by simp only [rX2_many, rX2_isFalling, rX2_key, rX2_stamp, rX2_rank, rX2_copy, rX2_end, rX2_sort, rX2_isSorted, rX2_bag, rX2_mark, rX2_same, rL_isSorted]; omega) ?_
              exact ⟨rfl, by omega, _, c73c⟩
            · have q74 := (not_congr (mI_eq0 (by omega))).mp q74
              exact absurd q74 (by decide)
        · have q52 := (not_congr (mI_eq0 (by omega))).mp q52
          exact absurd q52 (by decide)
  · by_cases hroom : rroom d < X.length
    · refine mt_iload_n dL_isSorted_144 rfl ?_
      refine mt_iload_n dL_isSorted_145 rfl ?_
      refine mt_icmp_eq dL_isSorted_146 (tgt := 163) rfl (fun q9 => absurd q9 (fun z => hdr ((nI_eq (by omega) (by omega)).mp z))) (fun q9 => ?_)
      refine mt_aload_n dL_isSorted_149 rfl rfl ?_
      refine mt_iload_n dL_isSorted_150 rfl ?_
      refine mt_iload_n dL_isSorted_151 rfl ?_
      refine mt_callV (N := mX2_copy) (Rc := rX2_copy) (As := [.int (nI r), .int (nI d)]) (st := []) dL_isSorted_152 ((kX2_copy hl z26).good (v := .int (-9)) (S' := cRef S) (by rw [g_copyN hr hd (fun z => hdr z.symm) (by rw [hX]; exact hroom)])) sX2_copy mw_405 mKX2 rfl z26.1 rfl (Nat.le_of_ble_eq_true rfl) ⟨⟨Nat.le_of_ble_eq_true rfl, Nat.le_of_ble_eq_true rfl⟩, (by simp only [rX2_many, rX2_isFalling, rX2_key, rX2_stamp, rX2_rank, rX2_copy, rX2_end, rX2_sort, rX2_isSorted, rX2_bag, rX2_mark, rX2_same, rL_isSorted]; omega), (by simp only [rX2_many, rX2_isFalling, rX2_key, rX2_stamp, rX2_rank, rX2_copy, rX2_end, rX2_sort, rX2_isSorted, rX2_bag, rX2_mark, rX2_same, rL_isSorted]; omega)⟩ (fun v75 h76 n77 c78 => ?_) (fun _ _ _ hx => hx.elim)
      obtain ⟨c78a, c78b, c78c, c78d⟩ := c78
      rw [c78a, c78b]
      obtain ⟨S_79, eS_79⟩ : ∃ z, z = cRef S := ⟨_, rfl⟩
      rw [← eS_79] at c78c
      have xS_79_r : S_79.1 r = X := by rw [eS_79]; exact hX
      show mT _ _ _ _ 155 [.ref 0, .int (nI r), .int (nI d), .int (nI X.length), .ref n, .ref (n + 1), .ref (n + 2), .ref (n + 3), .int (mb (q_fallsThroughout X)), .int (nI 0), .double 0, .double 0] [.int (-9)] _ _ _ _
      refine mt_iload_n dL_isSorted_155 rfl ?_
      have hm9 : ¬ (-9 : Int32) = nI X.length := fun z => by have e1 := nI_toInt (show X.length < 2 ^ 31 by omega); rw [← z] at e1; have e2 : (-9 : Int32).toInt = -9 := by decide
        omega
      refine mt_icmp_ne dL_isSorted_156 (tgt := 163) rfl (fun q9 => ?_) (fun q9 => absurd q9 (fun z => hm9 z))
      refine mt_iconst dL_isSorted_163 (v := nI 0) rfl ?_
      refine mp_istore dL_isSorted_164 (ls' := [.ref 0, .int (nI r), .int (nI d), .int (nI X.length), .ref n, .ref (n + 1), .ref (n + 2), .ref (n + 3), .int (mb (q_fallsThroughout X)), .int (nI 0), .double 0, .double 0]) rfl (by decide) rfl ?_
      refine mt_aload_n dL_isSorted_166 rfl rfl ?_
      refine mt_iload_n dL_isSorted_167 rfl ?_
      refine mt_iconst dL_isSorted_168 (v := nI 0) rfl ?_
      refine mt_callV (N := mX2_end) (Rc := rX2_end) (As := [.int (nI r), .int (nI 0)]) (st := []) dL_isSorted_169 ((kX2_end (isGreatest := false) hl c78c).good (v := .int (q_leastKey X)) (S' := S_79) (by rw [g_end hr, xS_79_r])) sX2_end mw_484 mKX2 rfl c78c.1 rfl (Nat.le_of_ble_eq_true rfl) ⟨⟨Nat.le_of_ble_eq_true rfl, Nat.le_of_ble_eq_true rfl⟩, (by simp only [rX2_many, rX2_isFalling, rX2_key, rX2_stamp, rX2_rank, rX2_copy, rX2_end, rX2_sort, rX2_isSorted, rX2_bag, rX2_mark, rX2_same, rL_isSorted]; omega), (by simp only [rX2_many, rX2_isFalling, rX2_key, rX2_stamp, rX2_rank, rX2_copy, rX2_end, rX2_sort, rX2_isSorted, rX2_bag, rX2_mark, rX2_same, rL_isSorted]; omega)⟩ (fun v80 h81 n82 c83 => ?_) (fun _ _ _ hx => hx.elim)
      obtain ⟨c83a, c83b, c83c, c83d⟩ := c83
      rw [c83a, c83b]
      show mT _ _ _ _ 172 [.ref 0, .int (nI r), .int (nI d), .int (nI X.length), .ref n, .ref (n + 1), .ref (n + 2), .ref (n + 3), .int (mb (q_fallsThroughout X)), .int (nI 0), .double 0, .double 0] [.int (q_leastKey X)] _ _ _ _
      refine mp_istore dL_isSorted_172 (ls' := [.ref 0, .int (nI r), .int (nI d), .int (nI X.length), .ref n, .ref (n + 1), .ref (n + 2), .ref (n + 3), .int (mb (q_fallsThroughout X)), .int (nI 0), .int (q_leastKey X), .double 0]) rfl (by decide) rfl ?_
      refine mt_aload_n dL_isSorted_174 rfl rfl ?_
      refine mt_iload_n dL_isSorted_175 rfl ?_
      refine mt_callV (N := mX2_sort) (Rc := rX2_sort) (As := [.int (nI r)]) (st := []) dL_isSorted_176 ((kX2_sort hl c83c).good (v := .int (nI c1)) (S' := cAct (cSet S_79 r ((msort X).1))) (by rw [g_sort hr, xS_79_r, ec1])) sX2_sort mw_429 mKX2 rfl c83c.1 rfl (Nat.le_of_ble_eq_true rfl) ⟨⟨Nat.le_of_ble_eq_true rfl, Nat.le_of_ble_eq_true rfl⟩, (by simp only [rX2_many, rX2_isFalling, rX2_key, rX2_stamp, rX2_rank, rX2_copy, rX2_end, rX2_sort, rX2_isSorted, rX2_bag, rX2_mark, rX2_same, rL_isSorted]; omega), (by simp only [rX2_many, rX2_isFalling, rX2_key, rX2_stamp, rX2_rank, rX2_copy, rX2_end, rX2_sort, rX2_isSorted, rX2_bag, rX2_mark, rX2_same, rL_isSorted]; omega)⟩ (fun v84 h85 n86 c87 => ?_) (fun _ _ _ hx => hx.elim)
      obtain ⟨c87a, c87b, c87c, c87d⟩ := c87
      rw [c87a, c87b]
      obtain ⟨S_88, eS_88⟩ : ∃ z, z = cAct (cSet S_79 r ((msort X).1)) := ⟨_, rfl⟩
      rw [← eS_88] at c87c
      have xS_88_r : S_88.1 r = (msort X).1 := by rw [eS_88]; exact cSet_at
      show mT _ _ _ _ 179 [.ref 0, .int (nI r), .int (nI d), .int (nI X.length), .ref n, .ref (n + 1), .ref (n + 2), .ref (n + 3), .int (mb (q_fallsThroughout X)), .int (nI 0), .int (q_leastKey X), .double 0] [.int (nI c1)] _ _ _ _
      refine mt_if_lt dL_isSorted_179 (tgt := 224) rfl (fun q89 => ?_) (fun q89 => ?_)
      · have q89 := (mI_lt0 (by omega)).mp q89
        exact q89.elim
      · have q89 := (not_congr (mI_lt0 (by omega))).mp q89
        refine mt_aload_n dL_isSorted_182 rfl rfl ?_
        refine mt_iload_n dL_isSorted_183 rfl ?_
        refine mt_callV (N := mX2_isSorted) (Rc := rX2_isSorted) (As := [.int (nI r)]) (st := []) dL_isSorted_184 ((kX2_isSorted hl c87c).good (v := .int (nI 1)) (S' := S_88) (by rw [g_isSorted hr, xS_88_r, lf_rises lf_ksorted, mb_t])) sX2_isSorted mw_448 mKX2 rfl c87c.1 rfl (Nat.le_of_ble_eq_true rfl) ⟨⟨Nat.le_of_ble_eq_true rfl, Nat.le_of_ble_eq_true rfl⟩, (by simp only [rX2_many, rX2_isFalling, rX2_key, rX2_stamp, rX2_rank, rX2_copy, rX2_end, rX2_sort, rX2_isSorted, rX2_bag, rX2_mark, rX2_same, rL_isSorted]; omega), (by simp only [rX2_many, rX2_isFalling, rX2_key, rX2_stamp, rX2_rank, rX2_copy, rX2_end, rX2_sort, rX2_isSorted, rX2_bag, rX2_mark, rX2_same, rL_isSorted]; omega)⟩ (fun v90 h91 n92 c93 => ?_) (fun _ _ _ hx => hx.elim)
        obtain ⟨c93a, c93b, c93c, c93d⟩ := c93
        rw [c93a, c93b]
        show mT _ _ _ _ 187 [.ref 0, .int (nI r), .int (nI d), .int (nI X.length), .ref n, .ref (n + 1), .ref (n + 2), .ref (n + 3), .int (mb (q_fallsThroughout X)), .int (nI 0), .int (q_leastKey X), .double 0] [.int (nI 1)] _ _ _ _
        refine mt_if_eq dL_isSorted_187 (tgt := 224) rfl (fun q94 => ?_) (fun q94 => ?_)
        · have q94 := (mI_eq0 (by omega)).mp q94
          exact absurd q94 (by decide)
        · have q94 := (not_congr (mI_eq0 (by omega))).mp q94
          refine mt_aload_n dL_isSorted_190 rfl rfl ?_
          refine mt_iload_n dL_isSorted_191 rfl ?_
          refine mt_callV (N := mX2_many) (Rc := rX2_many) (As := [.int (nI r)]) (st := []) dL_isSorted_192 ((kX2_many hl c93c).good (v := .int (nI X.length)) (S' := S_88) (by rw [g_many hr, xS_88_r, msort_len])) sX2_many mw_213 mKX2 rfl c93c.1 rfl (Nat.le_of_ble_eq_true rfl) ⟨⟨Nat.le_of_ble_eq_true rfl, Nat.le_of_ble_eq_true rfl⟩, (by simp only [rX2_many, rX2_isFalling, rX2_key, rX2_stamp, rX2_rank, rX2_copy, rX2_end, rX2_sort, rX2_isSorted, rX2_bag, rX2_mark, rX2_same, rL_isSorted]; omega), (by simp only [rX2_many, rX2_isFalling, rX2_key, rX2_stamp, rX2_rank, rX2_copy, rX2_end, rX2_sort, rX2_isSorted, rX2_bag, rX2_mark, rX2_same, rL_isSorted]; omega)⟩ (fun v95 h96 n97 c98 => ?_) (fun _ _ _ hx => hx.elim)
          obtain ⟨c98a, c98b, c98c, c98d⟩ := c98
          rw [c98a, c98b]
          show mT _ _ _ _ 195 [.ref 0, .int (nI r), .int (nI d), .int (nI X.length), .ref n, .ref (n + 1), .ref (n + 2), .ref (n + 3), .int (mb (q_fallsThroughout X)), .int (nI 0), .int (q_leastKey X), .double 0] [.int (nI X.length)] _ _ _ _
          refine mt_iload_n dL_isSorted_195 rfl ?_
          refine mt_icmp_ne dL_isSorted_196 (tgt := 224) rfl (fun q9 => absurd q9 (fun z => z rfl)) (fun q9 => ?_)
          refine mt_iload dL_isSorted_199 rfl ?_
          refine mt_if_eq dL_isSorted_201 (tgt := 213) rfl (fun q99 => ?_) (fun q99 => ?_)
          · have q99 := (mI_eq0 (by omega)).mp q99
            refine mt_aload_n dL_isSorted_213 rfl rfl ?_
            refine mt_iload_n dL_isSorted_214 rfl ?_
            refine mt_iconst dL_isSorted_215 (v := nI 0) rfl ?_
            refine mt_callV (N := mX2_end) (Rc := rX2_end) (As := [.int (nI r), .int (nI 0)]) (st := []) dL_isSorted_216 ((kX2_end (isGreatest := false) hl c98c).good (v := .int (q_leastKey X)) (S' := S_88) (by rw [g_end hr, xS_88_r, lf_least_perm lf_msks])) sX2_end mw_484 mKX2 rfl c98c.1 rfl (Nat.le_of_ble_eq_true rfl) ⟨⟨Nat.le_of_ble_eq_true rfl, Nat.le_of_ble_eq_true rfl⟩, (by simp only [rX2_many, rX2_isFalling, rX2_key, rX2_stamp, rX2_rank, rX2_copy, rX2_end, rX2_sort, rX2_isSorted, rX2_bag, rX2_mark, rX2_same, rL_isSorted]; omega), (by simp only [rX2_many, rX2_isFalling, rX2_key, rX2_stamp, rX2_rank, rX2_copy, rX2_end, rX2_sort, rX2_isSorted, rX2_bag, rX2_mark, rX2_same, rL_isSorted]; omega)⟩ (fun v100 h101 n102 c103 => ?_) (fun _ _ _ hx => hx.elim)
            obtain ⟨c103a, c103b, c103c, c103d⟩ := c103
            rw [c103a, c103b]
            show mT _ _ _ _ 219 [.ref 0, .int (nI r), .int (nI d), .int (nI X.length), .ref n, .ref (n + 1), .ref (n + 2), .ref (n + 3), .int (mb (q_fallsThroughout X)), .int (nI 0), .int (q_leastKey X), .double 0] [.int (q_leastKey X)] _ _ _ _
            refine mt_iload dL_isSorted_219 rfl ?_
            refine mt_icmp_eq dL_isSorted_221 (tgt := 226) rfl (fun q9 => ?_) (fun q9 => absurd q9 (fun z => z rfl))
            refine mt_widen (cc' := 2300 + 6 * 0) (sc' := 15000 + 36 * 0) (by simp only [rX2_many, rX2_isFalling, rX2_key, rX2_stamp, rX2_rank, rX2_copy, rX2_end, rX2_sort, rX2_isSorted, rX2_bag, rX2_mark, rX2_same, rL_isSorted]; omega) (by simp only [rX2_many, rX2_isFalling, rX2_key, rX2_stamp, rX2_rank, rX2_copy, rX2_end, rX2_sort, rX2_isSorted, rX2_bag, rX2_mark, rX2_same, rL_isSorted]; omega) ?_
            refine mt_iconst dL_isSorted_226 (v := nI 0) rfl ?_
            refine mp_istore dL_isSorted_227 (ls' := [.ref 0, .int (nI r), .int (nI d), .int (nI X.length), .ref n, .ref (n + 1), .ref (n + 2), .ref (n + 3), .int (mb (q_fallsThroughout X)), .int (nI 0), .int (q_leastKey X), .int (nI 0)]) rfl (by decide) rfl ?_
            refine tL_isSorted_229 hl hr hn hL xS_88_r z30 z31 z32 (fun k_104 h_105 z106 => ?_) _ 0 h101 (Nat.lt_succ_self _) c103c ((c103d (n) (by omega)).trans ((c98d (n) (by omega)).trans ((c93d (n) (by omega)).trans ((c87d (n) (by omega)).trans ((c83d (n) (by omega)).trans ((c78d (n) (by omega)).trans z27)))))) ((c103d (n + 1) (by omega)).trans ((c98d (n + 1) (by omega)).trans ((c93d (n + 1) (by omega)).trans ((c87d (n + 1) (by omega)).trans ((c83d (n + 1) (by omega)).trans ((c78d (n + 1) (by omega)).trans z28)))))) ((c103d (n + 2) (by omega)).trans ((c98d (n + 2) (by omega)).trans ((c93d (n + 2) (by omega)).trans ((c87d (n + 2) (by omega)).trans ((c83d (n + 2) (by omega)).trans ((c78d (n + 2) (by omega)).trans z29)))))) (by omega)
            refine mt_aload_n dL_isSorted_313 rfl rfl ?_
            refine mt_iload_n dL_isSorted_314 rfl ?_
            refine mt_iconst dL_isSorted_315 (v := nI 1) rfl ?_
            refine mt_callV (N := mX2_mark) (Rc := rX2_mark) (As := [.int (nI r), .int (nI 1)]) (st := []) dL_isSorted_316 ((kX2_mark (isStamps := true) hl z106).good (v := .int (q_mark ((msort X).1) true)) (S' := S_88) (by rw [g_mark hr, xS_88_r])) sX2_mark mw_504 mKX2 rfl z106.1 rfl (Nat.le_of_ble_eq_true rfl) ⟨⟨Nat.le_of_ble_eq_true rfl, Nat.le_of_ble_eq_true rfl⟩, (by simp only [rX2_many, rX2_isFalling, rX2_key, rX2_stamp, rX2_rank, rX2_copy, rX2_end, rX2_sort, rX2_isSorted, rX2_bag, rX2_mark, rX2_same, rL_isSorted]; omega), (by simp only [rX2_many, rX2_isFalling, rX2_key, rX2_stamp, rX2_rank, rX2_copy, rX2_end, rX2_sort, rX2_isSorted, rX2_bag, rX2_mark, rX2_same, rL_isSorted]; omega)⟩ (fun v107 h108 n109 c110 => ?_) (fun _ _ _ hx => hx.elim)
            obtain ⟨c110a, c110b, c110c, c110d⟩ := c110
            rw [c110a, c110b]
            show mT _ _ _ _ 319 [.ref 0, .int (nI r), .int (nI d), .int (nI X.length), .ref n, .ref (n + 1), .ref (n + 2), .ref (n + 3), .int (mb (q_fallsThroughout X)), .int (nI 0), .int (q_leastKey X), .int (nI k_104)] [.int (q_mark ((msort X).1) true)] _ _ _ _
            refine mp_istore dL_isSorted_319 (ls' := [.ref 0, .int (nI r), .int (nI d), .int (nI X.length), .ref n, .ref (n + 1), .ref (n + 2), .ref (n + 3), .int (mb (q_fallsThroughout X)), .int (nI 0), .int (q_leastKey X), .int (q_mark ((msort X).1) true)]) rfl (by decide) rfl ?_
            refine mt_aload_n dL_isSorted_321 rfl rfl ?_
            refine mt_iload_n dL_isSorted_322 rfl ?_
            refine mt_callV (N := mX2_sort) (Rc := rX2_sort) (As := [.int (nI r)]) (st := []) dL_isSorted_323 ((kX2_sort hl c110c).good (v := .int (nI 0)) (S' := cAct (cSet S_88 r ((msort X).1))) (by rw [g_sort hr, xS_88_r, lf_idem lf_ksorted, other_self0])) sX2_sort mw_429 mKX2 rfl c110c.1 rfl (Nat.le_of_ble_eq_true rfl) ⟨⟨Nat.le_of_ble_eq_true rfl, Nat.le_of_ble_eq_true rfl⟩, (by simp only [rX2_many, rX2_isFalling, rX2_key, rX2_stamp, rX2_rank, rX2_copy, rX2_end, rX2_sort, rX2_isSorted, rX2_bag, rX2_mark, rX2_same, rL_isSorted]; omega), (by simp only [rX2_many, rX2_isFalling, rX2_key, rX2_stamp, rX2_rank, rX2_copy, rX2_end, rX2_sort, rX2_isSorted, rX2_bag, rX2_mark, rX2_same, rL_isSorted]; omega)⟩ (fun v111 h112 n113 c114 => ?_) (fun _ _ _ hx => hx.elim)
            obtain ⟨c114a, c114b, c114c, c114d⟩ := c114
            rw [c114a, c114b]
            obtain ⟨S_115, eS_115⟩ : ∃ z, z = cAct (cSet S_88 r ((msort X).1)) := ⟨_, rfl⟩
            rw [← eS_115] at c114c
            have xS_115_r : S_115.1 r = (msort X).1 := by rw [eS_115]; exact cSet_at
            show mT _ _ _ _ 326 [.ref 0, .int (nI r), .int (nI d), .int (nI X.length), .ref n, .ref (n + 1), .ref (n + 2), .ref (n + 3), .int (mb (q_fallsThroughout X)), .int (nI 0), .int (q_leastKey X), .int (q_mark ((msort X).1) true)] [.int (nI 0)] _ _ _ _
            refine mt_if_ne dL_isSorted_326 (tgt := 366) rfl (fun q116 => ?_) (fun q116 => ?_)
            · have q116 := (not_congr (mI_eq0 (by omega))).mp q116
              exact absurd q116 (by decide)
            · have q116 := (mI_eq0 (by omega)).mp q116
              refine mt_aload_n dL_isSorted_329 rfl rfl ?_
              refine mt_iload_n dL_isSorted_330 rfl ?_
              refine mt_iconst dL_isSorted_331 (v := nI 1) rfl ?_
              refine mt_callV (N := mX2_mark) (Rc := rX2_mark) (As := [.int (nI r), .int (nI 1)]) (st := []) dL_isSorted_332 ((kX2_mark (isStamps := true) hl c114c).good (v := .int (q_mark ((msort X).1) true)) (S' := S_115) (by rw [g_mark hr, xS_115_r])) sX2_mark mw_504 mKX2 rfl c114c.1 rfl (Nat.le_of_ble_eq_true rfl) ⟨⟨Nat.le_of_ble_eq_true rfl, Nat.le_of_ble_eq_true rfl⟩, (by simp only [rX2_many, rX2_isFalling, rX2_key, rX2_stamp, rX2_rank, rX2_copy, rX2_end, rX2_sort, rX2_isSorted, rX2_bag, rX2_mark, rX2_same, rL_isSorted]; omega), (by simp only [rX2_many, rX2_isFalling, rX2_key, rX2_stamp, rX2_rank, rX2_copy, rX2_end, rX2_sort, rX2_isSorted, rX2_bag, rX2_mark, rX2_same, rL_isSorted]; omega)⟩ (fun v117 h118 n119 c120 => ?_) (fun _ _ _ hx => hx.elim)
              obtain ⟨c120a, c120b, c120c, c120d⟩ := c120
              rw [c120a, c120b]
              show mT _ _ _ _ 335 [.ref 0, .int (nI r), .int (nI d), .int (nI X.length), .ref n, .ref (n + 1), .ref (n + 2), .ref (n + 3), .int (mb (q_fallsThroughout X)), .int (nI 0), .int (q_leastKey X), .int (q_mark ((msort X).1) true)] [.int (q_mark ((msort X).1) true)] _ _ _ _
              refine mt_iload dL_isSorted_335 rfl ?_
              refine mt_icmp_ne dL_isSorted_337 (tgt := 366) rfl (fun q9 => absurd q9 (fun z => z rfl)) (fun q9 => ?_)
              refine mt_iload dL_isSorted_340 rfl ?_
              refine mt_if_eq dL_isSorted_342 (tgt := 362) rfl (fun q121 => ?_) (fun q121 => ?_)
              · have q121 := (mI_eq0 (by omega)).mp q121
                refine mt_iconst dL_isSorted_362 (v := nI 1) rfl ?_
                refine mt_goto dL_isSorted_363 (tgt := 367) rfl ?_
                refine mt_ireturn dL_isSorted_367 rfl rfl (by simp only [rX2_many, rX2_isFalling, rX2_key, rX2_stamp, rX2_rank, rX2_copy, rX2_end, rX2_sort, rX2_isSorted, rX2_bag, rX2_mark, rX2_same, rL_isSorted]; omega) (by simp only [rX2_many, rX2_isFalling, rX2_key, rX2_stamp, rX2_rank, rX2_copy, rX2_end, rX2_sort, rX2_isSorted, rX2_bag, rX2_mark, rX2_same, rL_isSorted]; omega) ?_
                exact ⟨rfl, by omega, _, c120c⟩
              · have q121 := (not_congr (mI_eq0 (by omega))).mp q121
                exact absurd q121 (by decide)
          · have q99 := (not_congr (mI_eq0 (by omega))).mp q99
            exact absurd q99 (by decide)
    · refine mt_iload_n dL_isSorted_144 rfl ?_
      refine mt_iload_n dL_isSorted_145 rfl ?_
      refine mt_icmp_eq dL_isSorted_146 (tgt := 163) rfl (fun q9 => absurd q9 (fun z => hdr ((nI_eq (by omega) (by omega)).mp z))) (fun q9 => ?_)
      refine mt_aload_n dL_isSorted_149 rfl rfl ?_
      refine mt_iload_n dL_isSorted_150 rfl ?_
      refine mt_iload_n dL_isSorted_151 rfl ?_
      refine mt_callV (N := mX2_copy) (Rc := rX2_copy) (As := [.int (nI r), .int (nI d)]) (st := []) dL_isSorted_152 ((kX2_copy hl z26).good (v := .int (nI X.length)) (S' := cAct (cGiv (cSet S d (bringL X (decide (d < 2)) (decide (r < 2)) ([]) S.2.1).1) (bringL X (decide (d < 2)) (decide (r < 2)) ([]) S.2.1).2)) (by rw [g_copyY hr hd (fun z => hdr z.symm) (by rw [hX]; exact hroom), hX])) sX2_copy mw_405 mKX2 rfl z26.1 rfl (Nat.le_of_ble_eq_true rfl) ⟨⟨Nat.le_of_ble_eq_true rfl, Nat.le_of_ble_eq_true rfl⟩, (by simp only [rX2_many, rX2_isFalling, rX2_key, rX2_stamp, rX2_rank, rX2_copy, rX2_end, rX2_sort, rX2_isSorted, rX2_bag, rX2_mark, rX2_same, rL_isSorted]; omega), (by simp only [rX2_many, rX2_isFalling, rX2_key, rX2_stamp, rX2_rank, rX2_copy, rX2_end, rX2_sort, rX2_isSorted, rX2_bag, rX2_mark, rX2_same, rL_isSorted]; omega)⟩ (fun v122 h123 n124 c125 => ?_) (fun _ _ _ hx => hx.elim)
      obtain ⟨c125a, c125b, c125c, c125d⟩ := c125
      rw [c125a, c125b]
      obtain ⟨S_126, eS_126⟩ : ∃ z, z = cAct (cGiv (cSet S d (bringL X (decide (d < 2)) (decide (r < 2)) ([]) S.2.1).1) (bringL X (decide (d < 2)) (decide (r < 2)) ([]) S.2.1).2) := ⟨_, rfl⟩
      rw [← eS_126] at c125c
      have xS_126_d : S_126.1 d = (bringL X (decide (d < 2)) (decide (r < 2)) ([]) S.2.1).1 := by rw [eS_126]; exact cSet_at
      have xS_126_r : S_126.1 r = X := by rw [eS_126]; exact (cSet_ne (fun z => hdr z.symm)).trans hX
      show mT _ _ _ _ 155 [.ref 0, .int (nI r), .int (nI d), .int (nI X.length), .ref n, .ref (n + 1), .ref (n + 2), .ref (n + 3), .int (mb (q_fallsThroughout X)), .int (nI 0), .double 0, .double 0] [.int (nI X.length)] _ _ _ _
      refine mt_iload_n dL_isSorted_155 rfl ?_
      obtain ⟨G, eG⟩ : ∃ z, z = (bringL X (decide (d < 2)) (decide (r < 2)) ([]) S.2.1).1 := ⟨_, rfl⟩
      rw [← eG] at xS_126_d
      have kG : ks G = ks X := by rw [eG, lf_bringk]; rfl
      have hG3 : G.length ≤ 320 := by rw [← xS_126_d]; exact (lenOk_of c125c).le hd
      obtain ⟨c2, hc2, ec2⟩ := lf_others (xs := G) (ys := (msort G).1) hG3
      refine mt_icmp_ne dL_isSorted_156 (tgt := 163) rfl (fun q9 => absurd q9 (fun z => z rfl)) (fun q9 => ?_)
      refine mt_iconst dL_isSorted_159 (v := nI 1) rfl ?_
      refine mt_goto dL_isSorted_160 (tgt := 164) rfl ?_
      refine mp_istore dL_isSorted_164 (ls' := [.ref 0, .int (nI r), .int (nI d), .int (nI X.length), .ref n, .ref (n + 1), .ref (n + 2), .ref (n + 3), .int (mb (q_fallsThroughout X)), .int (nI 1), .double 0, .double 0]) rfl (by decide) rfl ?_
      refine mt_aload_n dL_isSorted_166 rfl rfl ?_
      refine mt_iload_n dL_isSorted_167 rfl ?_
      refine mt_iconst dL_isSorted_168 (v := nI 0) rfl ?_
      refine mt_callV (N := mX2_end) (Rc := rX2_end) (As := [.int (nI r), .int (nI 0)]) (st := []) dL_isSorted_169 ((kX2_end (isGreatest := false) hl c125c).good (v := .int (q_leastKey X)) (S' := S_126) (by rw [g_end hr, xS_126_r])) sX2_end mw_484 mKX2 rfl c125c.1 rfl (Nat.le_of_ble_eq_true rfl) ⟨⟨Nat.le_of_ble_eq_true rfl, Nat.le_of_ble_eq_true rfl⟩, (by simp only [rX2_many, rX2_isFalling, rX2_key, rX2_stamp, rX2_rank, rX2_copy, rX2_end, rX2_sort, rX2_isSorted, rX2_bag, rX2_mark, rX2_same, rL_isSorted]; omega), (by simp only [rX2_many, rX2_isFalling, rX2_key, rX2_stamp, rX2_rank, rX2_copy, rX2_end, rX2_sort, rX2_isSorted, rX2_bag, rX2_mark, rX2_same, rL_isSorted]; omega)⟩ (fun v127 h128 n129 c130 => ?_) (fun _ _ _ hx => hx.elim)
      obtain ⟨c130a, c130b, c130c, c130d⟩ := c130
      rw [c130a, c130b]
      show mT _ _ _ _ 172 [.ref 0, .int (nI r), .int (nI d), .int (nI X.length), .ref n, .ref (n + 1), .ref (n + 2), .ref (n + 3), .int (mb (q_fallsThroughout X)), .int (nI 1), .double 0, .double 0] [.int (q_leastKey X)] _ _ _ _
      refine mp_istore dL_isSorted_172 (ls' := [.ref 0, .int (nI r), .int (nI d), .int (nI X.length), .ref n, .ref (n + 1), .ref (n + 2), .ref (n + 3), .int (mb (q_fallsThroughout X)), .int (nI 1), .int (q_leastKey X), .double 0]) rfl (by decide) rfl ?_
      refine mt_aload_n dL_isSorted_174 rfl rfl ?_
      refine mt_iload_n dL_isSorted_175 rfl ?_
      refine mt_callV (N := mX2_sort) (Rc := rX2_sort) (As := [.int (nI r)]) (st := []) dL_isSorted_176 ((kX2_sort hl c130c).good (v := .int (nI c1)) (S' := cAct (cSet S_126 r ((msort X).1))) (by rw [g_sort hr, xS_126_r, ec1])) sX2_sort mw_429 mKX2 rfl c130c.1 rfl (Nat.le_of_ble_eq_true rfl) ⟨⟨Nat.le_of_ble_eq_true rfl, Nat.le_of_ble_eq_true rfl⟩, (by simp only [rX2_many, rX2_isFalling, rX2_key, rX2_stamp, rX2_rank, rX2_copy, rX2_end, rX2_sort, rX2_isSorted, rX2_bag, rX2_mark, rX2_same, rL_isSorted]; omega), (by simp only [rX2_many, rX2_isFalling, rX2_key, rX2_stamp, rX2_rank, rX2_copy, rX2_end, rX2_sort, rX2_isSorted, rX2_bag, rX2_mark, rX2_same, rL_isSorted]; omega)⟩ (fun v131 h132 n133 c134 => ?_) (fun _ _ _ hx => hx.elim)
      obtain ⟨c134a, c134b, c134c, c134d⟩ := c134
      rw [c134a, c134b]
      obtain ⟨S_135, eS_135⟩ : ∃ z, z = cAct (cSet S_126 r ((msort X).1)) := ⟨_, rfl⟩
      rw [← eS_135] at c134c
      have xS_135_r : S_135.1 r = (msort X).1 := by rw [eS_135]; exact cSet_at
      have xS_135_d : S_135.1 d = G := by rw [eS_135]; exact (cSet_ne hdr).trans xS_126_d
      show mT _ _ _ _ 179 [.ref 0, .int (nI r), .int (nI d), .int (nI X.length), .ref n, .ref (n + 1), .ref (n + 2), .ref (n + 3), .int (mb (q_fallsThroughout X)), .int (nI 1), .int (q_leastKey X), .double 0] [.int (nI c1)] _ _ _ _
      refine mt_if_lt dL_isSorted_179 (tgt := 224) rfl (fun q136 => ?_) (fun q136 => ?_)
      · have q136 := (mI_lt0 (by omega)).mp q136
        exact q136.elim
      · have q136 := (not_congr (mI_lt0 (by omega))).mp q136
        refine mt_aload_n dL_isSorted_182 rfl rfl ?_
        refine mt_iload_n dL_isSorted_183 rfl ?_
        refine mt_callV (N := mX2_isSorted) (Rc := rX2_isSorted) (As := [.int (nI r)]) (st := []) dL_isSorted_184 ((kX2_isSorted hl c134c).good (v := .int (nI 1)) (S' := S_135) (by rw [g_isSorted hr, xS_135_r, lf_rises lf_ksorted, mb_t])) sX2_isSorted mw_448 mKX2 rfl c134c.1 rfl (Nat.le_of_ble_eq_true rfl) ⟨⟨Nat.le_of_ble_eq_true rfl, Nat.le_of_ble_eq_true rfl⟩, (by simp only [rX2_many, rX2_isFalling, rX2_key, rX2_stamp, rX2_rank, rX2_copy, rX2_end, rX2_sort, rX2_isSorted, rX2_bag, rX2_mark, rX2_same, rL_isSorted]; omega), (by simp only [rX2_many, rX2_isFalling, rX2_key, rX2_stamp, rX2_rank, rX2_copy, rX2_end, rX2_sort, rX2_isSorted, rX2_bag, rX2_mark, rX2_same, rL_isSorted]; omega)⟩ (fun v137 h138 n139 c140 => ?_) (fun _ _ _ hx => hx.elim)
        obtain ⟨c140a, c140b, c140c, c140d⟩ := c140
        rw [c140a, c140b]
        show mT _ _ _ _ 187 [.ref 0, .int (nI r), .int (nI d), .int (nI X.length), .ref n, .ref (n + 1), .ref (n + 2), .ref (n + 3), .int (mb (q_fallsThroughout X)), .int (nI 1), .int (q_leastKey X), .double 0] [.int (nI 1)] _ _ _ _
        refine mt_if_eq dL_isSorted_187 (tgt := 224) rfl (fun q141 => ?_) (fun q141 => ?_)
        · have q141 := (mI_eq0 (by omega)).mp q141
          exact absurd q141 (by decide)
        · have q141 := (not_congr (mI_eq0 (by omega))).mp q141
          refine mt_aload_n dL_isSorted_190 rfl rfl ?_
          refine mt_iload_n dL_isSorted_191 rfl ?_
          refine mt_callV (N := mX2_many) (Rc := rX2_many) (As := [.int (nI r)]) (st := []) dL_isSorted_192 ((kX2_many hl c140c).good (v := .int (nI X.length)) (S' := S_135) (by rw [g_many hr, xS_135_r, msort_len])) sX2_many mw_213 mKX2 rfl c140c.1 rfl (Nat.le_of_ble_eq_true rfl) ⟨⟨Nat.le_of_ble_eq_true rfl, Nat.le_of_ble_eq_true rfl⟩, (by simp only [rX2_many, rX2_isFalling, rX2_key, rX2_stamp, rX2_rank, rX2_copy, rX2_end, rX2_sort, rX2_isSorted, rX2_bag, rX2_mark, rX2_same, rL_isSorted]; omega), (by simp only [rX2_many, rX2_isFalling, rX2_key, rX2_stamp, rX2_rank, rX2_copy, rX2_end, rX2_sort, rX2_isSorted, rX2_bag, rX2_mark, rX2_same, rL_isSorted]; omega)⟩ (fun v142 h143 n144 c145 => ?_) (fun _ _ _ hx => hx.elim)
          obtain ⟨c145a, c145b, c145c, c145d⟩ := c145
          rw [c145a, c145b]
          show mT _ _ _ _ 195 [.ref 0, .int (nI r), .int (nI d), .int (nI X.length), .ref n, .ref (n + 1), .ref (n + 2), .ref (n + 3), .int (mb (q_fallsThroughout X)), .int (nI 1), .int (q_leastKey X), .double 0] [.int (nI X.length)] _ _ _ _
          refine mt_iload_n dL_isSorted_195 rfl ?_
          refine mt_icmp_ne dL_isSorted_196 (tgt := 224) rfl (fun q9 => absurd q9 (fun z => z rfl)) (fun q9 => ?_)
          refine mt_iload dL_isSorted_199 rfl ?_
          refine mt_if_eq dL_isSorted_201 (tgt := 213) rfl (fun q146 => ?_) (fun q146 => ?_)
          · have q146 := (mI_eq0 (by omega)).mp q146
            exact absurd q146 (by decide)
          · have q146 := (not_congr (mI_eq0 (by omega))).mp q146
            refine mt_aload_n dL_isSorted_204 rfl rfl ?_
            refine mt_iload_n dL_isSorted_205 rfl ?_
            refine mt_iload_n dL_isSorted_206 rfl ?_
            refine mt_callV (N := mX2_bag) (Rc := rX2_bag) (As := [.int (nI r), .int (nI d)]) (st := []) dL_isSorted_207 ((kX2_bag hl c145c).good (v := .int (nI 1)) (S' := S_135) (by rw [g_bagT (lenOk_of c145c) hr hd (by rw [xS_135_r, xS_135_d]; exact (by rw [kG]; exact lf_msks)), mb_t])) sX2_bag mw_500 mKX2 rfl c145c.1 rfl (Nat.le_of_ble_eq_true rfl) ⟨⟨Nat.le_of_ble_eq_true rfl, Nat.le_of_ble_eq_true rfl⟩, (by simp only [rX2_many, rX2_isFalling, rX2_key, rX2_stamp, rX2_rank, rX2_copy, rX2_end, rX2_sort, rX2_isSorted, rX2_bag, rX2_mark, rX2_same, rL_isSorted]; omega), (by simp only [rX2_many, rX2_isFalling, rX2_key, rX2_stamp, rX2_rank, rX2_copy, rX2_end, rX2_sort, rX2_isSorted, rX2_bag, rX2_mark, rX2_same, rL_isSorted]; omega)⟩ (fun v147 h148 n149 c150 => ?_) (fun _ _ _ hx => hx.elim)
            obtain ⟨c150a, c150b, c150c, c150d⟩ := c150
            rw [c150a, c150b]
            show mT _ _ _ _ 210 [.ref 0, .int (nI r), .int (nI d), .int (nI X.length), .ref n, .ref (n + 1), .ref (n + 2), .ref (n + 3), .int (mb (q_fallsThroughout X)), .int (nI 1), .int (q_leastKey X), .double 0] [.int (nI 1)] _ _ _ _
            refine mt_if_eq dL_isSorted_210 (tgt := 224) rfl (fun q151 => ?_) (fun q151 => ?_)
            · have q151 := (mI_eq0 (by omega)).mp q151
              exact absurd q151 (by decide)
            · have q151 := (not_congr (mI_eq0 (by omega))).mp q151
              refine mt_aload_n dL_isSorted_213 rfl rfl ?_
              refine mt_iload_n dL_isSorted_214 rfl ?_
              refine mt_iconst dL_isSorted_215 (v := nI 0) rfl ?_
              refine mt_callV (N := mX2_end) (Rc := rX2_end) (As := [.int (nI r), .int (nI 0)]) (st := []) dL_isSorted_216 ((kX2_end (isGreatest := false) hl c150c).good (v := .int (q_leastKey X)) (S' := S_135) (by rw [g_end hr, xS_135_r, lf_least_perm lf_msks])) sX2_end mw_484 mKX2 rfl c150c.1 rfl (Nat.le_of_ble_eq_true rfl) ⟨⟨Nat.le_of_ble_eq_true rfl, Nat.le_of_ble_eq_true rfl⟩, (by simp only [rX2_many, rX2_isFalling, rX2_key, rX2_stamp, rX2_rank, rX2_copy, rX2_end, rX2_sort, rX2_isSorted, rX2_bag, rX2_mark, rX2_same, rL_isSorted]; omega), (by simp only [rX2_many, rX2_isFalling, rX2_key, rX2_stamp, rX2_rank, rX2_copy, rX2_end, rX2_sort, rX2_isSorted, rX2_bag, rX2_mark, rX2_same, rL_isSorted]; omega)⟩ (fun v152 h153 n154 c155 => ?_) (fun _ _ _ hx => hx.elim)
              obtain ⟨c155a, c155b, c155c, c155d⟩ := c155
              rw [c155a, c155b]
              show mT _ _ _ _ 219 [.ref 0, .int (nI r), .int (nI d), .int (nI X.length), .ref n, .ref (n + 1), .ref (n + 2), .ref (n + 3), .int (mb (q_fallsThroughout X)), .int (nI 1), .int (q_leastKey X), .double 0] [.int (q_leastKey X)] _ _ _ _
              refine mt_iload dL_isSorted_219 rfl ?_
              refine mt_icmp_eq dL_isSorted_221 (tgt := 226) rfl (fun q9 => ?_) (fun q9 => absurd q9 (fun z => z rfl))
              refine mt_widen (cc' := 2300 + 6 * 0) (sc' := 15000 + 36 * 0) (by simp only [rX2_many, rX2_isFalling, rX2_key, rX2_stamp, rX2_rank, rX2_copy, rX2_end, rX2_sort, rX2_isSorted, rX2_bag, rX2_mark, rX2_same, rL_isSorted]; omega) (by simp only [rX2_many, rX2_isFalling, rX2_key, rX2_stamp, rX2_rank, rX2_copy, rX2_end, rX2_sort, rX2_isSorted, rX2_bag, rX2_mark, rX2_same, rL_isSorted]; omega) ?_
              refine mt_iconst dL_isSorted_226 (v := nI 0) rfl ?_
              refine mp_istore dL_isSorted_227 (ls' := [.ref 0, .int (nI r), .int (nI d), .int (nI X.length), .ref n, .ref (n + 1), .ref (n + 2), .ref (n + 3), .int (mb (q_fallsThroughout X)), .int (nI 1), .int (q_leastKey X), .int (nI 0)]) rfl (by decide) rfl ?_
              refine tL_isSorted_229 hl hr hn hL xS_135_r z30 z31 z32 (fun k_156 h_157 z158 => ?_) _ 0 h153 (Nat.lt_succ_self _) c155c ((c155d (n) (by omega)).trans ((c150d (n) (by omega)).trans ((c145d (n) (by omega)).trans ((c140d (n) (by omega)).trans ((c134d (n) (by omega)).trans ((c130d (n) (by omega)).trans ((c125d (n) (by omega)).trans z27))))))) ((c155d (n + 1) (by omega)).trans ((c150d (n + 1) (by omega)).trans ((c145d (n + 1) (by omega)).trans ((c140d (n + 1) (by omega)).trans ((c134d (n + 1) (by omega)).trans ((c130d (n + 1) (by omega)).trans ((c125d (n + 1) (by omega)).trans z28))))))) ((c155d (n + 2) (by omega)).trans ((c150d (n + 2) (by omega)).trans ((c145d (n + 2) (by omega)).trans ((c140d (n + 2) (by omega)).trans ((c134d (n + 2) (by omega)).trans ((c130d (n + 2) (by omega)).trans ((c125d (n + 2) (by omega)).trans z29))))))) (by omega)
              refine mt_aload_n dL_isSorted_313 rfl rfl ?_
              refine mt_iload_n dL_isSorted_314 rfl ?_
              refine mt_iconst dL_isSorted_315 (v := nI 1) rfl ?_
              refine mt_callV (N := mX2_mark) (Rc := rX2_mark) (As := [.int (nI r), .int (nI 1)]) (st := []) dL_isSorted_316 ((kX2_mark (isStamps := true) hl z158).good (v := .int (q_mark ((msort X).1) true)) (S' := S_135) (by rw [g_mark hr, xS_135_r])) sX2_mark mw_504 mKX2 rfl z158.1 rfl (Nat.le_of_ble_eq_true rfl) ⟨⟨Nat.le_of_ble_eq_true rfl, Nat.le_of_ble_eq_true rfl⟩, (by simp only [rX2_many, rX2_isFalling, rX2_key, rX2_stamp, rX2_rank, rX2_copy, rX2_end, rX2_sort, rX2_isSorted, rX2_bag, rX2_mark, rX2_same, rL_isSorted]; omega), (by simp only [rX2_many, rX2_isFalling, rX2_key, rX2_stamp, rX2_rank, rX2_copy, rX2_end, rX2_sort, rX2_isSorted, rX2_bag, rX2_mark, rX2_same, rL_isSorted]; omega)⟩ (fun v159 h160 n161 c162 => ?_) (fun _ _ _ hx => hx.elim)
              obtain ⟨c162a, c162b, c162c, c162d⟩ := c162
              rw [c162a, c162b]
              show mT _ _ _ _ 319 [.ref 0, .int (nI r), .int (nI d), .int (nI X.length), .ref n, .ref (n + 1), .ref (n + 2), .ref (n + 3), .int (mb (q_fallsThroughout X)), .int (nI 1), .int (q_leastKey X), .int (nI k_156)] [.int (q_mark ((msort X).1) true)] _ _ _ _
              refine mp_istore dL_isSorted_319 (ls' := [.ref 0, .int (nI r), .int (nI d), .int (nI X.length), .ref n, .ref (n + 1), .ref (n + 2), .ref (n + 3), .int (mb (q_fallsThroughout X)), .int (nI 1), .int (q_leastKey X), .int (q_mark ((msort X).1) true)]) rfl (by decide) rfl ?_
              refine mt_aload_n dL_isSorted_321 rfl rfl ?_
              refine mt_iload_n dL_isSorted_322 rfl ?_
              refine mt_callV (N := mX2_sort) (Rc := rX2_sort) (As := [.int (nI r)]) (st := []) dL_isSorted_323 ((kX2_sort hl c162c).good (v := .int (nI 0)) (S' := cAct (cSet S_135 r ((msort X).1))) (by rw [g_sort hr, xS_135_r, lf_idem lf_ksorted, other_self0])) sX2_sort mw_429 mKX2 rfl c162c.1 rfl (Nat.le_of_ble_eq_true rfl) ⟨⟨Nat.le_of_ble_eq_true rfl, Nat.le_of_ble_eq_true rfl⟩, (by simp only [rX2_many, rX2_isFalling, rX2_key, rX2_stamp, rX2_rank, rX2_copy, rX2_end, rX2_sort, rX2_isSorted, rX2_bag, rX2_mark, rX2_same, rL_isSorted]; omega), (by simp only [rX2_many, rX2_isFalling, rX2_key, rX2_stamp, rX2_rank, rX2_copy, rX2_end, rX2_sort, rX2_isSorted, rX2_bag, rX2_mark, rX2_same, rL_isSorted]; omega)⟩ (fun v163 h164 n165 c166 => ?_) (fun _ _ _ hx => hx.elim)
              obtain ⟨c166a, c166b, c166c, c166d⟩ := c166
              rw [c166a, c166b]
              obtain ⟨S_167, eS_167⟩ : ∃ z, z = cAct (cSet S_135 r ((msort X).1)) := ⟨_, rfl⟩
              rw [← eS_167] at c166c
              have xS_167_r : S_167.1 r = (msort X).1 := by rw [eS_167]; exact cSet_at
              have xS_167_d : S_167.1 d = G := by rw [eS_167]; exact (cSet_ne hdr).trans xS_135_d
              show mT _ _ _ _ 326 [.ref 0, .int (nI r), .int (nI d), .int (nI X.length), .ref n, .ref (n + 1), .ref (n + 2), .ref (n + 3), .int (mb (q_fallsThroughout X)), .int (nI 1), .int (q_leastKey X), .int (q_mark ((msort X).1) true)] [.int (nI 0)] _ _ _ _
              refine mt_if_ne dL_isSorted_326 (tgt := 366) rfl (fun q168 => ?_) (fun q168 => ?_)
              · have q168 := (not_congr (mI_eq0 (by omega))).mp q168
                exact absurd q168 (by decide)
              · have q168 := (mI_eq0 (by omega)).mp q168
                refine mt_aload_n dL_isSorted_329 rfl rfl ?_
                refine mt_iload_n dL_isSorted_330 rfl ?_
                refine mt_iconst dL_isSorted_331 (v := nI 1) rfl ?_
                refine mt_callV (N := mX2_mark) (Rc := rX2_mark) (As := [.int (nI r), .int (nI 1)]) (st := []) dL_isSorted_332 ((kX2_mark (isStamps := true) hl c166c).good (v := .int (q_mark ((msort X).1) true)) (S' := S_167) (by rw [g_mark hr, xS_167_r])) sX2_mark mw_504 mKX2 rfl c166c.1 rfl (Nat.le_of_ble_eq_true rfl) ⟨⟨Nat.le_of_ble_eq_true rfl, Nat.le_of_ble_eq_true rfl⟩, (by simp only [rX2_many, rX2_isFalling, rX2_key, rX2_stamp, rX2_rank, rX2_copy, rX2_end, rX2_sort, rX2_isSorted, rX2_bag, rX2_mark, rX2_same, rL_isSorted]; omega), (by simp only [rX2_many, rX2_isFalling, rX2_key, rX2_stamp, rX2_rank, rX2_copy, rX2_end, rX2_sort, rX2_isSorted, rX2_bag, rX2_mark, rX2_same, rL_isSorted]; omega)⟩ (fun v169 h170 n171 c172 => ?_) (fun _ _ _ hx => hx.elim)
                obtain ⟨c172a, c172b, c172c, c172d⟩ := c172
                rw [c172a, c172b]
                show mT _ _ _ _ 335 [.ref 0, .int (nI r), .int (nI d), .int (nI X.length), .ref n, .ref (n + 1), .ref (n + 2), .ref (n + 3), .int (mb (q_fallsThroughout X)), .int (nI 1), .int (q_leastKey X), .int (q_mark ((msort X).1) true)] [.int (q_mark ((msort X).1) true)] _ _ _ _
                refine mt_iload dL_isSorted_335 rfl ?_
                refine mt_icmp_ne dL_isSorted_337 (tgt := 366) rfl (fun q9 => absurd q9 (fun z => z rfl)) (fun q9 => ?_)
                refine mt_iload dL_isSorted_340 rfl ?_
                refine mt_if_eq dL_isSorted_342 (tgt := 362) rfl (fun q173 => ?_) (fun q173 => ?_)
                · have q173 := (mI_eq0 (by omega)).mp q173
                  exact absurd q173 (by decide)
                · have q173 := (not_congr (mI_eq0 (by omega))).mp q173
                  refine mt_aload_n dL_isSorted_345 rfl rfl ?_
                  refine mt_iload_n dL_isSorted_346 rfl ?_
                  refine mt_callV (N := mX2_sort) (Rc := rX2_sort) (As := [.int (nI d)]) (st := []) dL_isSorted_347 ((kX2_sort hl c172c).good (v := .int (nI c2)) (S' := cAct (cSet S_167 d ((msort G).1))) (by rw [g_sort hd, xS_167_d, ec2])) sX2_sort mw_429 mKX2 rfl c172c.1 rfl (Nat.le_of_ble_eq_true rfl) ⟨⟨Nat.le_of_ble_eq_true rfl, Nat.le_of_ble_eq_true rfl⟩, (by simp only [rX2_many, rX2_isFalling, rX2_key, rX2_stamp, rX2_rank, rX2_copy, rX2_end, rX2_sort, rX2_isSorted, rX2_bag, rX2_mark, rX2_same, rL_isSorted]; omega), (by simp only [rX2_many, rX2_isFalling, rX2_key, rX2_stamp, rX2_rank, rX2_copy, rX2_end, rX2_sort, rX2_isSorted, rX2_bag, rX2_mark, rX2_same, rL_isSorted]; omega)⟩ (fun v174 h175 n176 c177 => ?_) (fun _ _ _ hx => hx.elim)
                  obtain ⟨c177a, c177b, c177c, c177d⟩ := c177
                  rw [c177a, c177b]
                  obtain ⟨S_178, eS_178⟩ : ∃ z, z = cAct (cSet S_167 d ((msort G).1)) := ⟨_, rfl⟩
                  rw [← eS_178] at c177c
                  have xS_178_d : S_178.1 d = (msort G).1 := by rw [eS_178]; exact cSet_at
                  have xS_178_r : S_178.1 r = (msort X).1 := by rw [eS_178]; exact (cSet_ne (fun z => hdr z.symm)).trans xS_167_r
                  show mT _ _ _ _ 350 [.ref 0, .int (nI r), .int (nI d), .int (nI X.length), .ref n, .ref (n + 1), .ref (n + 2), .ref (n + 3), .int (mb (q_fallsThroughout X)), .int (nI 1), .int (q_leastKey X), .int (q_mark ((msort X).1) true)] [.int (nI c2)] _ _ _ _
                  refine mt_if_lt dL_isSorted_350 (tgt := 366) rfl (fun q179 => ?_) (fun q179 => ?_)
                  · have q179 := (mI_lt0 (by omega)).mp q179
                    exact q179.elim
                  · have q179 := (not_congr (mI_lt0 (by omega))).mp q179
                    refine mt_aload_n dL_isSorted_353 rfl rfl ?_
                    refine mt_iload_n dL_isSorted_354 rfl ?_
                    refine mt_iload_n dL_isSorted_355 rfl ?_
                    refine mt_callV (N := mX2_same) (Rc := rX2_same) (As := [.int (nI r), .int (nI d)]) (st := []) dL_isSorted_356 ((kX2_same hl c177c).good (v := .int (nI 1)) (S' := S_178) (by rw [g_sameT (lenOk_of c177c) hr hd (by rw [xS_178_r, xS_178_d]; exact lf_two kG), mb_t])) sX2_same mw_508 mKX2 rfl c177c.1 rfl (Nat.le_of_ble_eq_true rfl) ⟨⟨Nat.le_of_ble_eq_true rfl, Nat.le_of_ble_eq_true rfl⟩, (by simp only [rX2_many, rX2_isFalling, rX2_key, rX2_stamp, rX2_rank, rX2_copy, rX2_end, rX2_sort, rX2_isSorted, rX2_bag, rX2_mark, rX2_same, rL_isSorted]; omega), (by simp only [rX2_many, rX2_isFalling, rX2_key, rX2_stamp, rX2_rank, rX2_copy, rX2_end, rX2_sort, rX2_isSorted, rX2_bag, rX2_mark, rX2_same, rL_isSorted]; omega)⟩ (fun v180 h181 n182 c183 => ?_) (fun _ _ _ hx => hx.elim)
                    obtain ⟨c183a, c183b, c183c, c183d⟩ := c183
                    rw [c183a, c183b]
                    show mT _ _ _ _ 359 [.ref 0, .int (nI r), .int (nI d), .int (nI X.length), .ref n, .ref (n + 1), .ref (n + 2), .ref (n + 3), .int (mb (q_fallsThroughout X)), .int (nI 1), .int (q_leastKey X), .int (q_mark ((msort X).1) true)] [.int (nI 1)] _ _ _ _
                    refine mt_if_eq dL_isSorted_359 (tgt := 366) rfl (fun q184 => ?_) (fun q184 => ?_)
                    · have q184 := (mI_eq0 (by omega)).mp q184
                      exact absurd q184 (by decide)
                    · have q184 := (not_congr (mI_eq0 (by omega))).mp q184
                      refine mt_iconst dL_isSorted_362 (v := nI 1) rfl ?_
                      refine mt_goto dL_isSorted_363 (tgt := 367) rfl ?_
                      refine mt_ireturn dL_isSorted_367 rfl rfl (by simp only [rX2_many, rX2_isFalling, rX2_key, rX2_stamp, rX2_rank, rX2_copy, rX2_end, rX2_sort, rX2_isSorted, rX2_bag, rX2_mark, rX2_same, rL_isSorted]; omega) (by simp only [rX2_many, rX2_isFalling, rX2_key, rX2_stamp, rX2_rank, rX2_copy, rX2_end, rX2_sort, rX2_isSorted, rX2_bag, rX2_mark, rX2_same, rL_isSorted]; omega) ?_
                      exact ⟨rfl, by omega, _, c183c⟩
