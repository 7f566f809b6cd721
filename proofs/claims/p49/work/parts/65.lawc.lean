/-! ===== the law: sorted ===== -/
abbrev rL_isSorted : Room := { frames := 9, cells := 4500, slots := 28000, locals := 154 }
set_option maxRecDepth 100000 in
set_option maxHeartbeats 2000000 in
theorem tL_isSorted_36 {l : Launch} {K : mK} {n nz r d : Nat} {X : List mIt} {S : cS} (hl : l.stackTraces = false) (hr : r < 4) (hn : 27 ≤ n) (hL : X.length ≤ 320) (hX : S.1 r = X) (kk0 : ∀ (h : mH) (kf : Nat → Int32) (sf : Nat → Int32) (rf : Nat → Int32) (tf : Nat → Int32), (cAt h S) → (h n = .inl (0, X.length, kf)) → (h (n + 1) = .inl (0, X.length, sf)) → (h (n + 2) = .inl (0, X.length, rf)) → (∀ i, i < X.length → kf i = xk X i) → (∀ i, i < X.length → sf i = xt X i) → (∀ i, i < X.length → rf i = -1 ∨ rf i = nI (rankf X i)) → mT l mL_isSorted rL_isSorted K 144 [.ref 0, .int (nI r), .int (nI d), .int (nI X.length), .ref n, .ref (n + 1), .ref (n + 2), .ref (n + 3), .int (mb (q_fallsThroughout X)), .double 0, .double 0, .double 0] [] h nz 2100 14000) : ∀ (N0 : Nat) (k : Nat) (h : mH) (kf : Nat → Int32) (sf : Nat → Int32) (rf : Nat → Int32) (tf : Nat → Int32), (X.length - k) < N0 → (cAt h S) → (h n = .inl (0, X.length, kf)) → (h (n + 1) = .inl (0, X.length, sf)) → (h (n + 2) = .inl (0, X.length, rf)) → (h (n + 3) = .inl (3, X.length, tf)) → (∀ i, i < k → kf i = xk X i) → (∀ i, i < k → sf i = xt X i) → (∀ i, i < k → rf i = -1 ∨ rf i = nI (rankf X i)) → (∀ j, j < X.length → tf j = 0 ∨ ∃ i, i < k ∧ rankf X i = j) → (k ≤ X.length) → mT l mL_isSorted rL_isSorted K 36 [.ref 0, .int (nI r), .int (nI d), .int (nI X.length), .ref n, .ref (n + 1), .ref (n + 2), .ref (n + 3), .int (mb (q_fallsThroughout X)), .int (nI k), .double 0, .double 0] [] h nz (100 + 6 * k) (2000 + 36 * k) := by
  intro N0
  induction N0 with
  | zero => intro k h kf sf rf tf hm; exact absurd hm (Nat.not_lt_zero _)
  | succ N0 ih =>
    intro k h kf sf rf tf hm C eK eT eR eB iK iT iR iB hk
    refine mt_iload dL_isSorted_36 rfl ?_
    refine mt_iload_n dL_isSorted_38 rfl ?_
    refine mt_icmp_ge dL_isSorted_39 (tgt := 144) rfl (fun q1 => ?_) (fun q1 => ?_)
    · have q1 := Int32.not_lt.mpr q1
      have q1 := (not_congr (nI_ltI (by omega) (by omega))).mp q1
      refine mt_drop 9 (ls' := [.ref 0, .int (nI r), .int (nI d), .int (nI X.length), .ref n, .ref (n + 1), .ref (n + 2), .ref (n + 3), .int (mb (q_fallsThroughout X)), .double 0, .double 0, .double 0]) rfl ?_
      refine mt_widen (cc' := 2100) (sc' := 14000) (by first | omega | (simp only [rX2_many, rX2_isFalling, rX2_key, rX2_stamp, rX2_rank, rX2_copy, rX2_end, rX2_sort, rX2_isSorted, rX2_bag, rX2_mark, rX2_same, rL_isSorted]; omega)) (by first | omega | (simp only [rX2_many, rX2_isFalling, rX2_key, rX2_stamp, rX2_rank, rX2_copy, rX2_end, rX2_sort, rX2_isSorted, rX2_bag, rX2_mark, rX2_same, rL_isSorted]; omega)) ?_
      exact kk0 h kf sf rf tf C eK eT eR (fun i hi => iK i (by omega)) (fun i hi => iT i (by omega)) (fun i hi => iR i (by omega))
    · have q1 := Int32.not_le.mp q1
      have q1 := (nI_ltI (by omega) (by omega)).mp q1
      have hk9 : k < X.length := by omega
      have hrk := (lf_rank hk9).1
      refine mt_aload dL_isSorted_42 rfl rfl ?_
      refine mt_iload dL_isSorted_44 rfl ?_
      refine mt_aload_n dL_isSorted_46 rfl rfl ?_
      refine mt_iload_n dL_isSorted_47 rfl ?_
      refine mt_iload dL_isSorted_48 rfl ?_
      refine mt_callV (N := mX2_key) (Rc := rX2_key) (As := [.int (nI r), .int (nI k)]) (st := [.int (nI k), .ref n]) dL_isSorted_50 ((kX2_key hl C).good (v := .int (xk X k)) (S' := S) (by rw [g_key (lenOk_of C) hr (by rw [hX]; omega), hX])) sX2_key mw_468 mKX2 rfl C.1 rfl (Nat.le_of_ble_eq_true rfl) ⟨⟨Nat.le_of_ble_eq_true rfl, Nat.le_of_ble_eq_true rfl⟩, (by simp only [rX2_many, rX2_isFalling, rX2_key, rX2_stamp, rX2_rank, rX2_copy, rX2_end, rX2_sort, rX2_isSorted, rX2_bag, rX2_mark, rX2_same, rL_isSorted]; omega), (by simp only [rX2_many, rX2_isFalling, rX2_key, rX2_stamp, rX2_rank, rX2_copy, rX2_end, rX2_sort, rX2_isSorted, rX2_bag, rX2_mark, rX2_same, rL_isSorted]; omega)⟩ (fun v2 h3 n4 c5 => ?_) (fun _ _ _ hx => hx.elim)
      obtain ⟨c5a, c5b, c5c, c5d⟩ := c5
      rw [c5a, c5b]
      show mT _ _ _ _ 53 [.ref 0, .int (nI r), .int (nI d), .int (nI X.length), .ref n, .ref (n + 1), .ref (n + 2), .ref (n + 3), .int (mb (q_fallsThroughout X)), .int (nI k), .double 0, .double 0] [.int (xk X k), .int (nI k), .ref n] _ _ _ _
      refine mp_iastore dL_isSorted_53 ((c5d (n) (by omega)).trans eK) rfl (by omega) (by omega) (fun h6 e7 f8 => ?_)
      have Ch9 := cAt.fr2 c5c (fun j hj => f8 j (by omega))
      refine mt_aload dL_isSorted_54 rfl rfl ?_
      refine mt_iload dL_isSorted_56 rfl ?_
      refine mt_aload_n dL_isSorted_58 rfl rfl ?_
      refine mt_iload_n dL_isSorted_59 rfl ?_
      refine mt_iload dL_isSorted_60 rfl ?_
      refine mt_callV (N := mX2_stamp) (Rc := rX2_stamp) (As := [.int (nI r), .int (nI k)]) (st := [.int (nI k), .ref (n + 1)]) dL_isSorted_62 ((kX2_stamp hl Ch9).good (v := .int (xt X k)) (S' := S) (by rw [g_stamp (lenOk_of Ch9) hr (by rw [hX]; omega), hX])) sX2_stamp mw_475 mKX2 rfl Ch9.1 rfl (Nat.le_of_ble_eq_true rfl) ⟨⟨Nat.le_of_ble_eq_true rfl, Nat.le_of_ble_eq_true rfl⟩, (by simp only [rX2_many, rX2_isFalling, rX2_key, rX2_stamp, rX2_rank, rX2_copy, rX2_end, rX2_sort, rX2_isSorted, rX2_bag, rX2_mark, rX2_same, rL_isSorted]; omega), (by simp only [rX2_many, rX2_isFalling, rX2_key, rX2_stamp, rX2_rank, rX2_copy, rX2_end, rX2_sort, rX2_isSorted, rX2_bag, rX2_mark, rX2_same, rL_isSorted]; omega)⟩ (fun v10 h11 n12 c13 => ?_) (fun _ _ _ hx => hx.elim)
      obtain ⟨c13a, c13b, c13c, c13d⟩ := c13
      rw [c13a, c13b]
      show mT _ _ _ _ 65 [.ref 0, .int (nI r), .int (nI d), .int (nI X.length), .ref n, .ref (n + 1), .ref (n + 2), .ref (n + 3), .int (mb (q_fallsThroughout X)), .int (nI k), .double 0, .double 0] [.int (xt X k), .int (nI k), .ref (n + 1)] _ _ _ _
      refine mp_iastore dL_isSorted_65 ((c13d (n + 1) (by omega)).trans ((f8 (n + 1) (by omega)).trans ((c5d (n + 1) (by omega)).trans eT))) rfl (by omega) (by omega) (fun h14 e15 f16 => ?_)
      have Ch17 := cAt.fr2 c13c (fun j hj => f16 j (by omega))
      refine mt_aload dL_isSorted_66 rfl rfl ?_
      refine mt_iload dL_isSorted_68 rfl ?_
      refine mt_iload_n dL_isSorted_70 rfl ?_
      refine mt_bipush dL_isSorted_71 (v := nI 60) (by decide) ?_
      refine mt_icmp_lt dL_isSorted_73 (tgt := 84) rfl (fun q18 => ?_) (fun q18 => ?_)
      · have q18 := (nI_ltI (by omega) (by omega)).mp q18
        refine mt_aload_n dL_isSorted_84 rfl rfl ?_
        refine mt_iload_n dL_isSorted_85 rfl ?_
        refine mt_iload dL_isSorted_86 rfl ?_
        refine mt_callV (N := mX2_rank) (Rc := rX2_rank) (As := [.int (nI r), .int (nI k)]) (st := [.int (nI k), .ref (n + 2)]) dL_isSorted_88 ((kX2_rank hl Ch17).good (v := .int (nI (rankf X k))) (S' := S) (by rw [g_rank (lenOk_of Ch17) hr (by rw [hX]; omega), hX])) sX2_rank mw_479 mKX2 rfl Ch17.1 rfl (Nat.le_of_ble_eq_true rfl) ⟨⟨Nat.le_of_ble_eq_true rfl, Nat.le_of_ble_eq_true rfl⟩, (by simp only [rX2_many, rX2_isFalling, rX2_key, rX2_stamp, rX2_rank, rX2_copy, rX2_end, rX2_sort, rX2_isSorted, rX2_bag, rX2_mark, rX2_same, rL_isSorted]; omega), (by simp only [rX2_many, rX2_isFalling, rX2_key, rX2_stamp, rX2_rank, rX2_copy, rX2_end, rX2_sort, rX2_isSorted, rX2_bag, rX2_mark, rX2_same, rL_isSorted]; omega)⟩ (fun v19 h20 n21 c22 => ?_) (fun _ _ _ hx => hx.elim)
        obtain ⟨c22a, c22b, c22c, c22d⟩ := c22
        rw [c22a, c22b]
        show mT _ _ _ _ 91 [.ref 0, .int (nI r), .int (nI d), .int (nI X.length), .ref n, .ref (n + 1), .ref (n + 2), .ref (n + 3), .int (mb (q_fallsThroughout X)), .int (nI k), .double 0, .double 0] [.int (nI (rankf X k)), .int (nI k), .ref (n + 2)] _ _ _ _
        refine mt_goto dL_isSorted_91 (tgt := 95) rfl ?_
        refine mp_iastore dL_isSorted_95 ((c22d (n + 2) (by omega)).trans ((f16 (n + 2) (by omega)).trans ((c13d (n + 2) (by omega)).trans ((f8 (n + 2) (by omega)).trans ((c5d (n + 2) (by omega)).trans eR))))) rfl (by omega) (by omega) (fun h23 e24 f25 => ?_)
        have Ch26 := cAt.fr2 c22c (fun j hj => f25 j (by omega))
        refine mt_aload dL_isSorted_96 rfl rfl ?_
        refine mt_iload dL_isSorted_98 rfl ?_
        refine mp_iaload dL_isSorted_100 e24 rfl (by omega) (by omega) (v := nI (rankf X k)) upd_at ?_
        refine mt_if_ge dL_isSorted_101 (tgt := 107) rfl (fun q27 => ?_) (fun q27 => ?_)
        · have q27 := Int32.not_lt.mpr q27
          have q27 := (not_congr (mI_lt0 (by omega))).mp q27
          refine mt_aload dL_isSorted_107 rfl rfl ?_
          refine mt_iload dL_isSorted_109 rfl ?_
          refine mp_iaload dL_isSorted_111 e24 rfl (by omega) (by omega) (v := nI (rankf X k)) upd_at ?_
          refine mt_iload_n dL_isSorted_112 rfl ?_
          refine mt_icmp_ge dL_isSorted_113 (tgt := 127) rfl (fun q9 => absurd q9 (Int32.not_le.mpr (nI_lt hrk (by omega)))) (fun q9 => ?_)
          refine mt_aload dL_isSorted_116 rfl rfl ?_
          refine mt_aload dL_isSorted_118 rfl rfl ?_
          refine mt_iload dL_isSorted_120 rfl ?_
          refine mp_iaload dL_isSorted_122 e24 rfl (by omega) (by omega) (v := nI (rankf X k)) upd_at ?_
          refine mt_zaload dL_isSorted_123 ((f25 (n + 3) (by omega)).trans ((c22d (n + 3) (by omega)).trans ((f16 (n + 3) (by omega)).trans ((c13d (n + 3) (by omega)).trans ((f8 (n + 3) (by omega)).trans ((c5d (n + 3) (by omega)).trans eB)))))) hrk (by omega) ?_
          refine mt_if_eq dL_isSorted_124 (tgt := 129) rfl (fun q9 => ?_) (fun q9 => absurd q9 (fun z => z (ar_free iB hk9)))
          refine mt_aload dL_isSorted_129 rfl rfl ?_
          refine mt_aload dL_isSorted_131 rfl rfl ?_
          refine mt_iload dL_isSorted_133 rfl ?_
          refine mp_iaload dL_isSorted_135 e24 rfl (by omega) (by omega) (v := nI (rankf X k)) upd_at ?_
          refine mt_iconst dL_isSorted_136 (v := nI 1) rfl ?_
          refine mp_zastore dL_isSorted_137 ((f25 (n + 3) (by omega)).trans ((c22d (n + 3) (by omega)).trans ((f16 (n + 3) (by omega)).trans ((c13d (n + 3) (by omega)).trans ((f8 (n + 3) (by omega)).trans ((c5d (n + 3) (by omega)).trans eB)))))) hrk (by omega) (fun h28 e29 f30 => ?_)
          have Ch31 := cAt.fr2 Ch26 (fun j hj => f30 j (by omega))
          refine mp_iinc dL_isSorted_138 rfl (v := nI (k + 1)) mI_inc (ls' := [.ref 0, .int (nI r), .int (nI d), .int (nI X.length), .ref n, .ref (n + 1), .ref (n + 2), .ref (n + 3), .int (mb (q_fallsThroughout X)), .int (nI (k + 1)), .double 0, .double 0]) rfl (by decide) rfl ?_
          refine mt_goto dL_isSorted_141 (tgt := 36) rfl ?_
          refine mt_widen (cc' := 100 + 6 * (k + 1)) (sc' := 2000 + 36 * (k + 1)) (by first | omega | (simp only [rX2_many, rX2_isFalling, rX2_key, rX2_stamp, rX2_rank, rX2_copy, rX2_end, rX2_sort, rX2_isSorted, rX2_bag, rX2_mark, rX2_same, rL_isSorted]; omega)) (by first | omega | (simp only [rX2_many, rX2_isFalling, rX2_key, rX2_stamp, rX2_rank, rX2_copy, rX2_end, rX2_sort, rX2_isSorted, rX2_bag, rX2_mark, rX2_same, rL_isSorted]; omega)) ?_
          exact ih (k + 1) h28 (upd kf k (xk X k)) (upd sf k (xt X k)) (upd rf k (nI (rankf X k))) (upd tf (rankf X k) (vp_nar .boolean (nI 1))) (by omega) Ch31 ((f30 (n) (by omega)).trans ((f25 (n) (by omega)).trans ((c22d (n) (by omega)).trans ((f16 (n) (by omega)).trans ((c13d (n) (by omega)).trans e7))))) ((f30 (n + 1) (by omega)).trans ((f25 (n + 1) (by omega)).trans ((c22d (n + 1) (by omega)).trans e15))) ((f30 (n + 2) (by omega)).trans e24) e29 (ar_S (F := xk X) iK rfl) (ar_S (F := xt X) iT rfl) (ar_R iR (Or.inr rfl)) (ar_B iB) (by omega)
        · have q27 := Int32.not_le.mp q27
          have q27 := (mI_lt0 (by omega)).mp q27
          exact q27.elim
      · have q18 := (not_congr (nI_ltI (by omega) (by omega))).mp q18
        refine mt_iload dL_isSorted_76 rfl ?_
        refine mt_bipush dL_isSorted_78 (v := nI 7) (by decide) ?_
        refine mp_irem dL_isSorted_80 (mI_ne0 (by omega) (by omega)) (v := nI (k % 7)) (pk_rem (by omega) (by omega) (by omega)) ?_
        refine mt_if_ne dL_isSorted_81 (tgt := 94) rfl (fun q32 => ?_) (fun q32 => ?_)
        · have q32 := (not_congr (mI_eq0 (by omega))).mp q32
          refine mt_iconst dL_isSorted_94 (v := -1) rfl ?_
          refine mp_iastore dL_isSorted_95 ((f16 (n + 2) (by omega)).trans ((c13d (n + 2) (by omega)).trans ((f8 (n + 2) (by omega)).trans ((c5d (n + 2) (by omega)).trans eR)))) rfl (by omega) (by omega) (fun h33 e34 f35 => ?_)
          have Ch36 := cAt.fr2 Ch17 (fun j hj => f35 j (by omega))
          refine mt_aload dL_isSorted_96 rfl rfl ?_
          refine mt_iload dL_isSorted_98 rfl ?_
          refine mp_iaload dL_isSorted_100 e34 rfl (by omega) (by omega) (v := -1) upd_at ?_
          refine mt_if_ge dL_isSorted_101 (tgt := 107) rfl (fun q37 => ?_) (fun q37 => ?_)
          · have q37 := Int32.not_lt.mpr q37
            exact (q37 (by decide)).elim
          · have q37 := Int32.not_le.mp q37
            refine mt_goto dL_isSorted_104 (tgt := 138) rfl ?_
            refine mp_iinc dL_isSorted_138 rfl (v := nI (k + 1)) mI_inc (ls' := [.ref 0, .int (nI r), .int (nI d), .int (nI X.length), .ref n, .ref (n + 1), .ref (n + 2), .ref (n + 3), .int (mb (q_fallsThroughout X)), .int (nI (k + 1)), .double 0, .double 0]) rfl (by decide) rfl ?_
            refine mt_goto dL_isSorted_141 (tgt := 36) rfl ?_
            refine mt_widen (cc' := 100 + 6 * (k + 1)) (sc' := 2000 + 36 * (k + 1)) (by first | omega | (simp only [rX2_many, rX2_isFalling, rX2_key, rX2_stamp, rX2_rank, rX2_copy, rX2_end, rX2_sort, rX2_isSorted, rX2_bag, rX2_mark, rX2_same, rL_isSorted]; omega)) (by first | omega | (simp only [rX2_many, rX2_isFalling, rX2_key, rX2_stamp, rX2_rank, rX2_copy, rX2_end, rX2_sort, rX2_isSorted, rX2_bag, rX2_mark, rX2_same, rL_isSorted]; omega)) ?_
            exact ih (k + 1) h33 (upd kf k (xk X k)) (upd sf k (xt X k)) (upd rf k (-1)) tf (by omega) Ch36 ((f35 (n) (by omega)).trans ((f16 (n) (by omega)).trans ((c13d (n) (by omega)).trans e7))) ((f35 (n + 1) (by omega)).trans e15) e34 ((f35 (n + 3) (by omega)).trans ((f16 (n + 3) (by omega)).trans ((c13d (n + 3) (by omega)).trans ((f8 (n + 3) (by omega)).trans ((c5d (n + 3) (by omega)).trans eB))))) (ar_S (F := xk X) iK rfl) (ar_S (F := xt X) iT rfl) (ar_R iR (Or.inl rfl)) (ar_Bm iB) (by omega)
        · have q32 := (mI_eq0 (by omega)).mp q32
          refine mt_aload_n dL_isSorted_84 rfl rfl ?_
          refine mt_iload_n dL_isSorted_85 rfl ?_
          refine mt_iload dL_isSorted_86 rfl ?_
          refine mt_callV (N := mX2_rank) (Rc := rX2_rank) (As := [.int (nI r), .int (nI k)]) (st := [.int (nI k), .ref (n + 2)]) dL_isSorted_88 ((kX2_rank hl Ch17).good (v := .int (nI (rankf X k))) (S' := S) (by rw [g_rank (lenOk_of Ch17) hr (by rw [hX]; omega), hX])) sX2_rank mw_479 mKX2 rfl Ch17.1 rfl (Nat.le_of_ble_eq_true rfl) ⟨⟨Nat.le_of_ble_eq_true rfl, Nat.le_of_ble_eq_true rfl⟩, (by simp only [rX2_many, rX2_isFalling, rX2_key, rX2_stamp, rX2_rank, rX2_copy, rX2_end, rX2_sort, rX2_isSorted, rX2_bag, rX2_mark, rX2_same, rL_isSorted]; omega), (by simp only [rX2_many, rX2_isFalling, rX2_key, rX2_stamp, rX2_rank, rX2_copy, rX2_end, rX2_sort, rX2_isSorted, rX2_bag, rX2_mark, rX2_same, rL_isSorted]; omega)⟩ (fun v38 h39 n40 c41 => ?_) (fun _ _ _ hx => hx.elim)
          obtain ⟨c41a, c41b, c41c, c41d⟩ := c41
          rw [c41a, c41b]
          show mT _ _ _ _ 91 [.ref 0, .int (nI r), .int (nI d), .int (nI X.length), .ref n, .ref (n + 1), .ref (n + 2), .ref (n + 3), .int (mb (q_fallsThroughout X)), .int (nI k), .double 0, .double 0] [.int (nI (rankf X k)), .int (nI k), .ref (n + 2)] _ _ _ _
          refine mt_goto dL_isSorted_91 (tgt := 95) rfl ?_
          refine mp_iastore dL_isSorted_95 ((c41d (n + 2) (by omega)).trans ((f16 (n + 2) (by omega)).trans ((c13d (n + 2) (by omega)).trans ((f8 (n + 2) (by omega)).trans ((c5d (n + 2) (by omega)).trans eR))))) rfl (by omega) (by omega) (fun h42 e43 f44 => ?_)
          have Ch45 := cAt.fr2 c41c (fun j hj => f44 j (by omega))
          refine mt_aload dL_isSorted_96 rfl rfl ?_
          refine mt_iload dL_isSorted_98 rfl ?_
          refine mp_iaload dL_isSorted_100 e43 rfl (by omega) (by omega) (v := nI (rankf X k)) upd_at ?_
          refine mt_if_ge dL_isSorted_101 (tgt := 107) rfl (fun q46 => ?_) (fun q46 => ?_)
          · have q46 := Int32.not_lt.mpr q46
            have q46 := (not_congr (mI_lt0 (by omega))).mp q46
            refine mt_aload dL_isSorted_107 rfl rfl ?_
            refine mt_iload dL_isSorted_109 rfl ?_
            refine mp_iaload dL_isSorted_111 e43 rfl (by omega) (by omega) (v := nI (rankf X k)) upd_at ?_
            refine mt_iload_n dL_isSorted_112 rfl ?_
            refine mt_icmp_ge dL_isSorted_113 (tgt := 127) rfl (fun q9 => absurd q9 (Int32.not_le.mpr (nI_lt hrk (by omega)))) (fun q9 => ?_)
            refine mt_aload dL_isSorted_116 rfl rfl ?_
            refine mt_aload dL_isSorted_118 rfl rfl ?_
            refine mt_iload dL_isSorted_120 rfl ?_
            refine mp_iaload dL_isSorted_122 e43 rfl (by omega) (by omega) (v := nI (rankf X k)) upd_at ?_
            refine mt_zaload dL_isSorted_123 ((f44 (n + 3) (by omega)).trans ((c41d (n + 3) (by omega)).trans ((f16 (n + 3) (by omega)).trans ((c13d (n + 3) (by omega)).trans ((f8 (n + 3) (by omega)).trans ((c5d (n + 3) (by omega)).trans eB)))))) hrk (by omega) ?_
            refine mt_if_eq dL_isSorted_124 (tgt := 129) rfl (fun q9 => ?_) (fun q9 => absurd q9 (fun z => z (ar_free iB hk9)))
            refine mt_aload dL_isSorted_129 rfl rfl ?_
            refine mt_aload dL_isSorted_131 rfl rfl ?_
            refine mt_iload dL_isSorted_133 rfl ?_
            refine mp_iaload dL_isSorted_135 e43 rfl (by omega) (by omega) (v := nI (rankf X k)) upd_at ?_
            refine mt_iconst dL_isSorted_136 (v := nI 1) rfl ?_
            refine mp_zastore dL_isSorted_137 ((f44 (n + 3) (by omega)).trans ((c41d (n + 3) (by omega)).trans ((f16 (n + 3) (by omega)).trans ((c13d (n + 3) (by omega)).trans ((f8 (n + 3) (by omega)).trans ((c5d (n + 3) (by omega)).trans eB)))))) hrk (by omega) (fun h47 e48 f49 => ?_)
            have Ch50 := cAt.fr2 Ch45 (fun j hj => f49 j (by omega))
            refine mp_iinc dL_isSorted_138 rfl (v := nI (k + 1)) mI_inc (ls' := [.ref 0, .int (nI r), .int (nI d), .int (nI X.length), .ref n, .ref (n + 1), .ref (n + 2), .ref (n + 3), .int (mb (q_fallsThroughout X)), .int (nI (k + 1)), .double 0, .double 0]) rfl (by decide) rfl ?_
            refine mt_goto dL_isSorted_141 (tgt := 36) rfl ?_
            refine mt_widen (cc' := 100 + 6 * (k + 1)) (sc' := 2000 + 36 * (k + 1)) (by first | omega | (simp only [rX2_many, rX2_isFalling, rX2_key, rX2_stamp, rX2_rank, rX2_copy, rX2_end, rX2_sort, rX2_isSorted, rX2_bag, rX2_mark, rX2_same, rL_isSorted]; omega)) (by first | omega | (simp only [rX2_many, rX2_isFalling, rX2_key, rX2_stamp, rX2_rank, rX2_copy, rX2_end, rX2_sort, rX2_isSorted, rX2_bag, rX2_mark, rX2_same, rL_isSorted]; omega)) ?_
            exact ih (k + 1) h47 (upd kf k (xk X k)) (upd sf k (xt X k)) (upd rf k (nI (rankf X k))) (upd tf (rankf X k) (vp_nar .boolean (nI 1))) (by omega) Ch50 ((f49 (n) (by omega)).trans ((f44 (n) (by omega)).trans ((c41d (n) (by omega)).trans ((f16 (n) (by omega)).trans ((c13d (n) (by omega)).trans e7))))) ((f49 (n + 1) (by omega)).trans ((f44 (n + 1) (by omega)).trans ((c41d (n + 1) (by omega)).trans e15))) ((f49 (n + 2) (by omega)).trans e43) e48 (ar_S (F := xk X) iK rfl) (ar_S (F := xt X) iT rfl) (ar_R iR (Or.inr rfl)) (ar_B iB) (by omega)
          · have q46 := Int32.not_le.mp q46
            have q46 := (mI_lt0 (by omega)).mp q46
            exact q46.elim
set_option maxRecDepth 100000 in
set_option maxHeartbeats 2000000 in
theorem tL_isSorted_229 {l : Launch} {K : mK} {n nz r d : Nat} {X : List mIt} {cp : Nat} {lk : Int32} {S : cS} {kf : Nat → Int32} {sf : Nat → Int32} {rf : Nat → Int32} (hl : l.stackTraces = false) (hr : r < 4) (hn : 27 ≤ n) (hL : X.length ≤ 320) (hX : S.1 r = (msort X).1) (iK : ∀ i, i < X.length → kf i = xk X i) (iT : ∀ i, i < X.length → sf i = xt X i) (iR : ∀ i, i < X.length → rf i = -1 ∨ rf i = nI (rankf X i)) (kk0 : ∀ (k : Nat) (h : mH), (cAt h S) → mT l mL_isSorted rL_isSorted K 313 [.ref 0, .int (nI r), .int (nI d), .int (nI X.length), .ref n, .ref (n + 1), .ref (n + 2), .ref (n + 3), .int (mb (q_fallsThroughout X)), .int (nI cp), .int lk, .int (nI k)] [] h nz 4300 27000) : ∀ (N0 : Nat) (k : Nat) (h : mH), (X.length - k) < N0 → (cAt h S) → (h n = .inl (0, X.length, kf)) → (h (n + 1) = .inl (0, X.length, sf)) → (h (n + 2) = .inl (0, X.length, rf)) → (k ≤ X.length) → mT l mL_isSorted rL_isSorted K 229 [.ref 0, .int (nI r), .int (nI d), .int (nI X.length), .ref n, .ref (n + 1), .ref (n + 2), .ref (n + 3), .int (mb (q_fallsThroughout X)), .int (nI cp), .int lk, .int (nI k)] [] h nz (2300 + 6 * k) (15000 + 36 * k) := by
  intro N0
  induction N0 with
  | zero => intro k h hm; exact absurd hm (Nat.not_lt_zero _)
  | succ N0 ih =>
    intro k h hm C eK eT eR hk
    have hYl : (msort X).1.length = X.length := msort_len
    refine mt_iload dL_isSorted_229 rfl ?_
    refine mt_iload_n dL_isSorted_231 rfl ?_
    refine mt_icmp_ge dL_isSorted_232 (tgt := 313) rfl (fun q1 => ?_) (fun q1 => ?_)
    · have q1 := Int32.not_lt.mpr q1
      have q1 := (not_congr (nI_ltI (by omega) (by omega))).mp q1
      refine mt_widen (cc' := 4300) (sc' := 27000) (by first | omega | (simp only [rX2_many, rX2_isFalling, rX2_key, rX2_stamp, rX2_rank, rX2_copy, rX2_end, rX2_sort, rX2_isSorted, rX2_bag, rX2_mark, rX2_same, rL_isSorted]; omega)) (by first | omega | (simp only [rX2_many, rX2_isFalling, rX2_key, rX2_stamp, rX2_rank, rX2_copy, rX2_end, rX2_sort, rX2_isSorted, rX2_bag, rX2_mark, rX2_same, rL_isSorted]; omega)) ?_
      exact kk0 k h C
    · have q1 := Int32.not_le.mp q1
      have q1 := (nI_ltI (by omega) (by omega)).mp q1
      have hk9 : k < X.length := by omega
      have hrk := (lf_rank hk9).1
      refine mt_aload dL_isSorted_235 rfl rfl ?_
      refine mt_iload dL_isSorted_237 rfl ?_
      refine mp_iaload dL_isSorted_239 eR rfl (by omega) (by omega) (v := rf k) rfl ?_
      refine mt_if_lt dL_isSorted_240 (tgt := 281) rfl (fun q2 => ?_) (fun q2 => ?_)
      · refine mt_iload dL_isSorted_281 rfl ?_
        refine mt_if_eq dL_isSorted_283 (tgt := 307) rfl (fun q3 => ?_) (fun q3 => ?_)
        · have q3 : (q_fallsThroughout X) = false := mb_0.mp q3
          refine mp_iinc dL_isSorted_307 rfl (v := nI (k + 1)) mI_inc (ls' := [.ref 0, .int (nI r), .int (nI d), .int (nI X.length), .ref n, .ref (n + 1), .ref (n + 2), .ref (n + 3), .int (mb (q_fallsThroughout X)), .int (nI cp), .int lk, .int (nI (k + 1))]) rfl (by decide) rfl ?_
          refine mt_goto dL_isSorted_310 (tgt := 229) rfl ?_
          refine mt_widen (cc' := 2300 + 6 * (k + 1)) (sc' := 15000 + 36 * (k + 1)) (by first | omega | (simp only [rX2_many, rX2_isFalling, rX2_key, rX2_stamp, rX2_rank, rX2_copy, rX2_end, rX2_sort, rX2_isSorted, rX2_bag, rX2_mark, rX2_same, rL_isSorted]; omega)) (by first | omega | (simp only [rX2_many, rX2_isFalling, rX2_key, rX2_stamp, rX2_rank, rX2_copy, rX2_end, rX2_sort, rX2_isSorted, rX2_bag, rX2_mark, rX2_same, rL_isSorted]; omega)) ?_
          exact ih (k + 1) h (by omega) C eK eT eR (by omega)
        · have q3 : (q_fallsThroughout X) = true := mb_1.mp q3
          refine mt_aload_n dL_isSorted_286 rfl rfl ?_
          refine mt_iload_n dL_isSorted_287 rfl ?_
          refine mt_iload_n dL_isSorted_288 rfl ?_
          refine mt_iconst dL_isSorted_289 (v := nI 1) rfl ?_
          refine mp_isub dL_isSorted_290 (v := nI (X.length - 1)) (pk_sub (by omega)) ?_
          refine mt_iload dL_isSorted_291 rfl ?_
          refine mp_isub dL_isSorted_293 (v := nI ((X.length - 1) - k)) (pk_sub (by omega)) ?_
          refine mt_callV (N := mX2_key) (Rc := rX2_key) (As := [.int (nI r), .int (nI ((X.length - 1) - k))]) (st := []) dL_isSorted_294 ((kX2_key hl C).good (v := .int (xk ((msort X).1) ((X.length - 1) - k))) (S' := S) (by rw [g_key (lenOk_of C) hr (by rw [hX]; omega), hX])) sX2_key mw_468 mKX2 rfl C.1 rfl (Nat.le_of_ble_eq_true rfl) ⟨⟨Nat.le_of_ble_eq_true rfl, Nat.le_of_ble_eq_true rfl⟩, (by simp only [rX2_many, rX2_isFalling, rX2_key, rX2_stamp, rX2_rank, rX2_copy, rX2_end, rX2_sort, rX2_isSorted, rX2_bag, rX2_mark, rX2_same, rL_isSorted]; omega), (by simp only [rX2_many, rX2_isFalling, rX2_key, rX2_stamp, rX2_rank, rX2_copy, rX2_end, rX2_sort, rX2_isSorted, rX2_bag, rX2_mark, rX2_same, rL_isSorted]; omega)⟩ (fun v4 h5 n6 c7 => ?_) (fun _ _ _ hx => hx.elim)
          obtain ⟨c7a, c7b, c7c, c7d⟩ := c7
          rw [c7a, c7b]
          show mT _ _ _ _ 297 [.ref 0, .int (nI r), .int (nI d), .int (nI X.length), .ref n, .ref (n + 1), .ref (n + 2), .ref (n + 3), .int (mb (q_fallsThroughout X)), .int (nI cp), .int lk, .int (nI k)] [.int (xk ((msort X).1) ((X.length - 1) - k))] _ _ _ _
          refine mt_aload dL_isSorted_297 rfl rfl ?_
          refine mt_iload dL_isSorted_299 rfl ?_
          refine mp_iaload dL_isSorted_301 ((c7d (n) (by omega)).trans eK) rfl (by omega) (by omega) (v := kf k) rfl ?_
          refine mt_icmp_eq dL_isSorted_302 (tgt := 307) rfl (fun q9 => ?_) (fun q9 => absurd q9 (fun z => z ((congrArg Prod.fst (lf_falls (falls_iff.mp q3) hk9)).trans (iK k hk9).symm)))
          refine mp_iinc dL_isSorted_307 rfl (v := nI (k + 1)) mI_inc (ls' := [.ref 0, .int (nI r), .int (nI d), .int (nI X.length), .ref n, .ref (n + 1), .ref (n + 2), .ref (n + 3), .int (mb (q_fallsThroughout X)), .int (nI cp), .int lk, .int (nI (k + 1))]) rfl (by decide) rfl ?_
          refine mt_goto dL_isSorted_310 (tgt := 229) rfl ?_
          refine mt_widen (cc' := 2300 + 6 * (k + 1)) (sc' := 15000 + 36 * (k + 1)) (by first | omega | (simp only [rX2_many, rX2_isFalling, rX2_key, rX2_stamp, rX2_rank, rX2_copy, rX2_end, rX2_sort, rX2_isSorted, rX2_bag, rX2_mark, rX2_same, rL_isSorted]; omega)) (by first | omega | (simp only [rX2_many, rX2_isFalling, rX2_key, rX2_stamp, rX2_rank, rX2_copy, rX2_end, rX2_sort, rX2_isSorted, rX2_bag, rX2_mark, rX2_same, rL_isSorted]; omega)) ?_
          exact ih (k + 1) h5 (by omega) c7c ((c7d (n) (by omega)).trans eK) ((c7d (n + 1) (by omega)).trans eT) ((c7d (n + 2) (by omega)).trans eR) (by omega)
      · have er : rf k = nI (rankf X k) := by rcases iR k hk9 with z | z; exact absurd (by rw [z]; decide) q2; exact z
        refine mt_aload_n dL_isSorted_243 rfl rfl ?_
        refine mt_iload_n dL_isSorted_244 rfl ?_
        refine mt_aload dL_isSorted_245 rfl rfl ?_
        refine mt_iload dL_isSorted_247 rfl ?_
        refine mp_iaload dL_isSorted_249 eR rfl (by omega) (by omega) (v := rf k) rfl ?_
        rw [er]
        refine mt_callV (N := mX2_key) (Rc := rX2_key) (As := [.int (nI r), .int (nI (rankf X k))]) (st := []) dL_isSorted_250 ((kX2_key hl C).good (v := .int (xk ((msort X).1) (rankf X k))) (S' := S) (by rw [g_key (lenOk_of C) hr (by rw [hX]; omega), hX])) sX2_key mw_468 mKX2 rfl C.1 rfl (Nat.le_of_ble_eq_true rfl) ⟨⟨Nat.le_of_ble_eq_true rfl, Nat.le_of_ble_eq_true rfl⟩, (by simp only [rX2_many, rX2_isFalling, rX2_key, rX2_stamp, rX2_rank, rX2_copy, rX2_end, rX2_sort, rX2_isSorted, rX2_bag, rX2_mark, rX2_same, rL_isSorted]; omega), (by simp only [rX2_many, rX2_isFalling, rX2_key, rX2_stamp, rX2_rank, rX2_copy, rX2_end, rX2_sort, rX2_isSorted, rX2_bag, rX2_mark, rX2_same, rL_isSorted]; omega)⟩ (fun v8 h9 n10 c11 => ?_) (fun _ _ _ hx => hx.elim)
        obtain ⟨c11a, c11b, c11c, c11d⟩ := c11
        rw [c11a, c11b]
        show mT _ _ _ _ 253 [.ref 0, .int (nI r), .int (nI d), .int (nI X.length), .ref n, .ref (n + 1), .ref (n + 2), .ref (n + 3), .int (mb (q_fallsThroughout X)), .int (nI cp), .int lk, .int (nI k)] [.int (xk ((msort X).1) (rankf X k))] _ _ _ _
        refine mt_aload dL_isSorted_253 rfl rfl ?_
        refine mt_iload dL_isSorted_255 rfl ?_
        refine mp_iaload dL_isSorted_257 ((c11d (n) (by omega)).trans eK) rfl (by omega) (by omega) (v := kf k) rfl ?_
        refine mt_icmp_ne dL_isSorted_258 (tgt := 279) rfl (fun q9 => absurd q9 (fun z => z ((congrArg Prod.fst (lf_rank hk9).2).trans (iK k hk9).symm))) (fun q9 => ?_)
        refine mt_aload_n dL_isSorted_261 rfl rfl ?_
        refine mt_iload_n dL_isSorted_262 rfl ?_
        refine mt_aload dL_isSorted_263 rfl rfl ?_
        refine mt_iload dL_isSorted_265 rfl ?_
        refine mp_iaload dL_isSorted_267 ((c11d (n + 2) (by omega)).trans eR) rfl (by omega) (by omega) (v := rf k) rfl ?_
        rw [er]
        refine mt_callV (N := mX2_stamp) (Rc := rX2_stamp) (As := [.int (nI r), .int (nI (rankf X k))]) (st := []) dL_isSorted_268 ((kX2_stamp hl c11c).good (v := .int (xt ((msort X).1) (rankf X k))) (S' := S) (by rw [g_stamp (lenOk_of c11c) hr (by rw [hX]; omega), hX])) sX2_stamp mw_475 mKX2 rfl c11c.1 rfl (Nat.le_of_ble_eq_true rfl) ⟨⟨Nat.le_of_ble_eq_true rfl, Nat.le_of_ble_eq_true rfl⟩, (by simp only [rX2_many, rX2_isFalling, rX2_key, rX2_stamp, rX2_rank, rX2_copy, rX2_end, rX2_sort, rX2_isSorted, rX2_bag, rX2_mark, rX2_same, rL_isSorted]; omega), (by simp only [rX2_many, rX2_isFalling, rX2_key, rX2_stamp, rX2_rank, rX2_copy, rX2_end, rX2_sort, rX2_isSorted, rX2_bag, rX2_mark, rX2_same, rL_isSorted]; omega)⟩ (fun v12 h13 n14 c15 => ?_) (fun _ _ _ hx => hx.elim)
        obtain ⟨c15a, c15b, c15c, c15d⟩ := c15
        rw [c15a, c15b]
        show mT _ _ _ _ 271 [.ref 0, .int (nI r), .int (nI d), .int (nI X.length), .ref n, .ref (n + 1), .ref (n + 2), .ref (n + 3), .int (mb (q_fallsThroughout X)), .int (nI cp), .int lk, .int (nI k)] [.int (xt ((msort X).1) (rankf X k))] _ _ _ _
        refine mt_aload dL_isSorted_271 rfl rfl ?_
        refine mt_iload dL_isSorted_273 rfl ?_
        refine mp_iaload dL_isSorted_275 ((c15d (n + 1) (by omega)).trans ((c11d (n + 1) (by omega)).trans eT)) rfl (by omega) (by omega) (v := sf k) rfl ?_
        refine mt_icmp_eq dL_isSorted_276 (tgt := 281) rfl (fun q9 => ?_) (fun q9 => absurd q9 (fun z => z ((congrArg Prod.snd (lf_rank hk9).2).trans (iT k hk9).symm)))
        refine mt_iload dL_isSorted_281 rfl ?_
        refine mt_if_eq dL_isSorted_283 (tgt := 307) rfl (fun q16 => ?_) (fun q16 => ?_)
        · have q16 : (q_fallsThroughout X) = false := mb_0.mp q16
          refine mp_iinc dL_isSorted_307 rfl (v := nI (k + 1)) mI_inc (ls' := [.ref 0, .int (nI r), .int (nI d), .int (nI X.length), .ref n, .ref (n + 1), .ref (n + 2), .ref (n + 3), .int (mb (q_fallsThroughout X)), .int (nI cp), .int lk, .int (nI (k + 1))]) rfl (by decide) rfl ?_
          refine mt_goto dL_isSorted_310 (tgt := 229) rfl ?_
          refine mt_widen (cc' := 2300 + 6 * (k + 1)) (sc' := 15000 + 36 * (k + 1)) (by first | omega | (simp only [rX2_many, rX2_isFalling, rX2_key, rX2_stamp, rX2_rank, rX2_copy, rX2_end, rX2_sort, rX2_isSorted, rX2_bag, rX2_mark, rX2_same, rL_isSorted]; omega)) (by first | omega | (simp only [rX2_many, rX2_isFalling, rX2_key, rX2_stamp, rX2_rank, rX2_copy, rX2_end, rX2_sort, rX2_isSorted, rX2_bag, rX2_mark, rX2_same, rL_isSorted]; omega)) ?_
          exact ih (k + 1) h13 (by omega) c15c ((c15d (n) (by omega)).trans ((c11d (n) (by omega)).trans eK)) ((c15d (n + 1) (by omega)).trans ((c11d (n + 1) (by omega)).trans eT)) ((c15d (n + 2) (by omega)).trans ((c11d (n + 2) (by omega)).trans eR)) (by omega)
        · have q16 : (q_fallsThroughout X) = true := mb_1.mp q16
          refine mt_aload_n dL_isSorted_286 rfl rfl ?_
          refine mt_iload_n dL_isSorted_287 rfl ?_
          refine mt_iload_n dL_isSorted_288 rfl ?_
          refine mt_iconst dL_isSorted_289 (v := nI 1) rfl ?_
          refine mp_isub dL_isSorted_290 (v := nI (X.length - 1)) (pk_sub (by omega)) ?_
          refine mt_iload dL_isSorted_291 rfl ?_
          refine mp_isub dL_isSorted_293 (v := nI ((X.length - 1) - k)) (pk_sub (by omega)) ?_
          refine mt_callV (N := mX2_key) (Rc := rX2_key) (As := [.int (nI r), .int (nI ((X.length - 1) - k))]) (st := []) dL_isSorted_294 ((kX2_key hl c15c).good (v := .int (xk ((msort X).1) ((X.length - 1) - k))) (S' := S) (by rw [g_key (lenOk_of c15c) hr (by rw [hX]; omega), hX])) sX2_key mw_468 mKX2 rfl c15c.1 rfl (Nat.le_of_ble_eq_true rfl) ⟨⟨Nat.le_of_ble_eq_true rfl, Nat.le_of_ble_eq_true rfl⟩, (by simp only [rX2_many, rX2_isFalling, rX2_key, rX2_stamp, rX2_rank, rX2_copy, rX2_end, rX2_sort, rX2_isSorted, rX2_bag, rX2_mark, rX2_same, rL_isSorted]; omega), (by simp only [rX2_many, rX2_isFalling, rX2_key, rX2_stamp, rX2_rank, rX2_copy, rX2_end, rX2_sort, rX2_isSorted, rX2_bag, rX2_mark, rX2_same, rL_isSorted]; omega)⟩ (fun v17 h18 n19 c20 => ?_) (fun _ _ _ hx => hx.elim)
          obtain ⟨c20a, c20b, c20c, c20d⟩ := c20
          rw [c20a, c20b]
          show mT _ _ _ _ 297 [.ref 0, .int (nI r), .int (nI d), .int (nI X.length), .ref n, .ref (n + 1), .ref (n + 2), .ref (n + 3), .int (mb (q_fallsThroughout X)), .int (nI cp), .int lk, .int (nI k)] [.int (xk ((msort X).1) ((X.length - 1) - k))] _ _ _ _
          refine mt_aload dL_isSorted_297 rfl rfl ?_
          refine mt_iload dL_isSorted_299 rfl ?_
          refine mp_iaload dL_isSorted_301 ((c20d (n) (by omega)).trans ((c15d (n) (by omega)).trans ((c11d (n) (by omega)).trans eK))) rfl (by omega) (by omega) (v := kf k) rfl ?_
          refine mt_icmp_eq dL_isSorted_302 (tgt := 307) rfl (fun q9 => ?_) (fun q9 => absurd q9 (fun z => z ((congrArg Prod.fst (lf_falls (falls_iff.mp q16) hk9)).trans (iK k hk9).symm)))
          refine mp_iinc dL_isSorted_307 rfl (v := nI (k + 1)) mI_inc (ls' := [.ref 0, .int (nI r), .int (nI d), .int (nI X.length), .ref n, .ref (n + 1), .ref (n + 2), .ref (n + 3), .int (mb (q_fallsThroughout X)), .int (nI cp), .int lk, .int (nI (k + 1))]) rfl (by decide) rfl ?_
          refine mt_goto dL_isSorted_310 (tgt := 229) rfl ?_
          refine mt_widen (cc' := 2300 + 6 * (k + 1)) (sc' := 15000 + 36 * (k + 1)) (by first | omega | (simp only [rX2_many, rX2_isFalling, rX2_key, rX2_stamp, rX2_rank, rX2_copy, rX2_end, rX2_sort, rX2_isSorted, rX2_bag, rX2_mark, rX2_same, rL_isSorted]; omega)) (by first | omega | (simp only [rX2_many, rX2_isFalling, rX2_key, rX2_stamp, rX2_rank, rX2_copy, rX2_end, rX2_sort, rX2_isSorted, rX2_bag, rX2_mark, rX2_same, rL_isSorted]; omega)) ?_
          exact ih (k + 1) h18 (by omega) c20c ((c20d (n) (by omega)).trans ((c15d (n) (by omega)).trans ((c11d (n) (by omega)).trans eK))) ((c20d (n + 1) (by omega)).trans ((c15d (n + 1) (by omega)).trans ((c11d (n + 1) (by omega)).trans eT))) ((c20d (n + 2) (by omega)).trans ((c15d (n + 2) (by omega)).trans ((c11d (n + 2) (by omega)).trans eR))) (by omega)
set_option maxRecDepth 100000 in
set_option maxHeartbeats 2000000 in
theorem kL_isSorted {l : Launch} (hl : l.stackTraces = false) {h : mH} {n r d : Nat} {S : cS} (C : cAt h S) (hr : r < 4) (hd : d < 4) (hn : 27 ≤ n) : mC l mL_isSorted rL_isSorted [.ref 0, .int (nI r), .int (nI d)] h n (fun v h' n' => v = some (.int (nI 1)) ∧ n ≤ n' ∧ ∃ S', cAt h' S') (mNX) := by
  obtain ⟨X, hX⟩ : ∃ z, S.1 r = z := ⟨_, rfl⟩
  have hL : X.length ≤ 320 := by rw [← hX]; exact (lenOk_of C).le hr
  obtain ⟨c1, hc1, ec1⟩ := lf_others (xs := X) (ys := (msort X).1) hL
  refine mm_enter hl (by decide +kernel) rfl rfl rfl (Nat.le_of_ble_eq_true rfl) ?_
  show mT _ _ _ _ 0 [.ref 0, .int (nI r), .int (nI d), .double 0, .double 0, .double 0, .double 0, .double 0, .double 0, .double 0, .double 0, .double 0] [] _ _ 0 0
  refine mt_aload_n dL_isSorted_0 rfl rfl ?_
  refine mt_iload_n dL_isSorted_1 rfl ?_
  refine mt_callV (N := mX2_many) (Rc := rX2_many) (As := [.int (nI r)]) (st := []) dL_isSorted_2 ((kX2_many hl C).good (v := .int (nI X.length)) (S' := S) (by rw [g_many hr, hX])) sX2_many mw_213 mKX2 rfl C.1 rfl (Nat.le_of_ble_eq_true rfl) ⟨⟨Nat.le_of_ble_eq_true rfl, Nat.le_of_ble_eq_true rfl⟩, (by simp only [rX2_many, rX2_isFalling, rX2_key, rX2_stamp, rX2_rank, rX2_copy, rX2_end, rX2_sort, rX2_isSorted, rX2_bag, rX2_mark, rX2_same, rL_isSorted]; omega), (by simp only [rX2_many, rX2_isFalling, rX2_key, rX2_stamp, rX2_rank, rX2_copy, rX2_end, rX2_sort, rX2_isSorted, rX2_bag, rX2_mark, rX2_same, rL_isSorted]; omega)⟩ (fun v1 h2 n3 c4 => ?_) (fun _ _ _ hx => hx.elim)
  obtain ⟨c4a, c4b, c4c, c4d⟩ := c4
  rw [c4a, c4b]
  show mT _ _ _ _ 5 [.ref 0, .int (nI r), .int (nI d), .double 0, .double 0, .double 0, .double 0, .double 0, .double 0, .double 0, .double 0, .double 0] [.int (nI X.length)] _ _ _ _
  refine mp_istore_n dL_isSorted_5 (ls' := [.ref 0, .int (nI r), .int (nI d), .int (nI X.length), .double 0, .double 0, .double 0, .double 0, .double 0, .double 0, .double 0, .double 0]) rfl (by decide) rfl ?_
  refine mt_iload_n dL_isSorted_6 rfl ?_
  refine mp_newarray dL_isSorted_7 mw_70 rfl (by omega) (by first | omega | (simp only [rX2_many, rX2_isFalling, rX2_key, rX2_stamp, rX2_rank, rX2_copy, rX2_end, rX2_sort, rX2_isSorted, rX2_bag, rX2_mark, rX2_same, rL_isSorted]; omega)) (by first | omega | (simp only [rX2_many, rX2_isFalling, rX2_key, rX2_stamp, rX2_rank, rX2_copy, rX2_end, rX2_sort, rX2_isSorted, rX2_bag, rX2_mark, rX2_same, rL_isSorted]; omega)) (fun h5 e6 f7 => ?_)
  have Ch8 := cAt.fr2 c4c (fun j hj => f7 j (by omega))
  refine mp_astore dL_isSorted_9 (ls' := [.ref 0, .int (nI r), .int (nI d), .int (nI X.length), .ref n, .double 0, .double 0, .double 0, .double 0, .double 0, .double 0, .double 0]) rfl rfl (by decide) rfl ?_
  refine mt_iload_n dL_isSorted_11 rfl ?_
  refine mp_newarray dL_isSorted_12 mw_70 rfl (by omega) (by first | omega | (simp only [rX2_many, rX2_isFalling, rX2_key, rX2_stamp, rX2_rank, rX2_copy, rX2_end, rX2_sort, rX2_isSorted, rX2_bag, rX2_mark, rX2_same, rL_isSorted]; omega)) (by first | omega | (simp only [rX2_many, rX2_isFalling, rX2_key, rX2_stamp, rX2_rank, rX2_copy, rX2_end, rX2_sort, rX2_isSorted, rX2_bag, rX2_mark, rX2_same, rL_isSorted]; omega)) (fun h9 e10 f11 => ?_)
  have Ch12 := cAt.fr2 Ch8 (fun j hj => f11 j (by omega))
  refine mp_astore dL_isSorted_14 (ls' := [.ref 0, .int (nI r), .int (nI d), .int (nI X.length), .ref n, .ref (n + 1), .double 0, .double 0, .double 0, .double 0, .double 0, .double 0]) rfl rfl (by decide) rfl ?_
  refine mt_iload_n dL_isSorted_16 rfl ?_
  refine mp_newarray dL_isSorted_17 mw_70 rfl (by omega) (by first | omega | (simp only [rX2_many, rX2_isFalling, rX2_key, rX2_stamp, rX2_rank, rX2_copy, rX2_end, rX2_sort, rX2_isSorted, rX2_bag, rX2_mark, rX2_same, rL_isSorted]; omega)) (by first | omega | (simp only [rX2_many, rX2_isFalling, rX2_key, rX2_stamp, rX2_rank, rX2_copy, rX2_end, rX2_sort, rX2_isSorted, rX2_bag, rX2_mark, rX2_same, rL_isSorted]; omega)) (fun h13 e14 f15 => ?_)
  have Ch16 := cAt.fr2 Ch12 (fun j hj => f15 j (by omega))
  refine mp_astore dL_isSorted_19 (ls' := [.ref 0, .int (nI r), .int (nI d), .int (nI X.length), .ref n, .ref (n + 1), .ref (n + 2), .double 0, .double 0, .double 0, .double 0, .double 0]) rfl rfl (by decide) rfl ?_
  refine mt_iload_n dL_isSorted_21 rfl ?_
  refine mp_newarrayZ dL_isSorted_22 mw_512 (by omega) (by first | omega | (simp only [rX2_many, rX2_isFalling, rX2_key, rX2_stamp, rX2_rank, rX2_copy, rX2_end, rX2_sort, rX2_isSorted, rX2_bag, rX2_mark, rX2_same, rL_isSorted]; omega)) (by first | omega | (simp only [rX2_many, rX2_isFalling, rX2_key, rX2_stamp, rX2_rank, rX2_copy, rX2_end, rX2_sort, rX2_isSorted, rX2_bag, rX2_mark, rX2_same, rL_isSorted]; omega)) (fun h17 e18 f19 => ?_)
  have Ch20 := cAt.fr2 Ch16 (fun j hj => f19 j (by omega))
  refine mp_astore dL_isSorted_24 (ls' := [.ref 0, .int (nI r), .int (nI d), .int (nI X.length), .ref n, .ref (n + 1), .ref (n + 2), .ref (n + 3), .double 0, .double 0, .double 0, .double 0]) rfl rfl (by decide) rfl ?_
  refine mt_aload_n dL_isSorted_26 rfl rfl ?_
  refine mt_iload_n dL_isSorted_27 rfl ?_
  refine mt_callV (N := mX2_isFalling) (Rc := rX2_isFalling) (As := [.int (nI r)]) (st := []) dL_isSorted_28 ((kX2_isFalling hl Ch20).good (v := .int (mb (q_fallsThroughout X))) (S' := S) (by rw [g_isFalling hr, hX])) sX2_isFalling mw_452 mKX2 rfl Ch20.1 rfl (Nat.le_of_ble_eq_true rfl) ⟨⟨Nat.le_of_ble_eq_true rfl, Nat.le_of_ble_eq_true rfl⟩, (by simp only [rX2_many, rX2_isFalling, rX2_key, rX2_stamp, rX2_rank, rX2_copy, rX2_end, rX2_sort, rX2_isSorted, rX2_bag, rX2_mark, rX2_same, rL_isSorted]; omega), (by simp only [rX2_many, rX2_isFalling, rX2_key, rX2_stamp, rX2_rank, rX2_copy, rX2_end, rX2_sort, rX2_isSorted, rX2_bag, rX2_mark, rX2_same, rL_isSorted]; omega)⟩ (fun v21 h22 n23 c24 => ?_) (fun _ _ _ hx => hx.elim)
  obtain ⟨c24a, c24b, c24c, c24d⟩ := c24
  rw [c24a, c24b]
  show mT _ _ _ _ 31 [.ref 0, .int (nI r), .int (nI d), .int (nI X.length), .ref n, .ref (n + 1), .ref (n + 2), .ref (n + 3), .double 0, .double 0, .double 0, .double 0] [.int (mb (q_fallsThroughout X))] _ _ _ _
  refine mp_istore dL_isSorted_31 (ls' := [.ref 0, .int (nI r), .int (nI d), .int (nI X.length), .ref n, .ref (n + 1), .ref (n + 2), .ref (n + 3), .int (mb (q_fallsThroughout X)), .double 0, .double 0, .double 0]) rfl (by decide) rfl ?_
  refine mt_widen (cc' := 100 + 6 * 0) (sc' := 2000 + 36 * 0) (by first | omega | (simp only [rX2_many, rX2_isFalling, rX2_key, rX2_stamp, rX2_rank, rX2_copy, rX2_end, rX2_sort, rX2_isSorted, rX2_bag, rX2_mark, rX2_same, rL_isSorted]; omega)) (by first | omega | (simp only [rX2_many, rX2_isFalling, rX2_key, rX2_stamp, rX2_rank, rX2_copy, rX2_end, rX2_sort, rX2_isSorted, rX2_bag, rX2_mark, rX2_same, rL_isSorted]; omega)) ?_
  refine mt_iconst dL_isSorted_33 (v := nI 0) rfl ?_
  refine mp_istore dL_isSorted_34 (ls' := [.ref 0, .int (nI r), .int (nI d), .int (nI X.length), .ref n, .ref (n + 1), .ref (n + 2), .ref (n + 3), .int (mb (q_fallsThroughout X)), .int (nI 0), .double 0, .double 0]) rfl (by decide) rfl ?_
  refine tL_isSorted_36 hl hr hn hL hX (fun h_25 kf_26 sf_27 rf_28 tf_29 z30 z31 z32 z33 z34 z35 z36 => ?_) _ 0 h22 (fun _ => (0 : Int32)) (fun _ => (0 : Int32)) (fun _ => (0 : Int32)) (fun _ => (0 : Int32)) (Nat.lt_succ_self _) c24c ((c24d (n) (by omega)).trans ((f19 (n) (by omega)).trans ((f15 (n) (by omega)).trans ((f11 (n) (by omega)).trans e6)))) ((c24d (n + 1) (by omega)).trans ((f19 (n + 1) (by omega)).trans ((f15 (n + 1) (by omega)).trans e10))) ((c24d (n + 2) (by omega)).trans ((f19 (n + 2) (by omega)).trans e14)) ((c24d (n + 3) (by omega)).trans e18) (fun i hi => absurd hi (by omega)) (fun i hi => absurd hi (by omega)) (fun i hi => absurd hi (by omega)) (fun j hj => Or.inl rfl) (by omega)
  by_cases hdr : d = r
  · refine mt_iload_n dL_isSorted_144 rfl ?_
    refine mt_iload_n dL_isSorted_145 rfl ?_
    refine mt_icmp_eq dL_isSorted_146 (tgt := 163) rfl (fun q9 => ?_) (fun q9 => absurd q9 (fun z => z (by rw [hdr])))
    refine mt_iconst dL_isSorted_163 (v := nI 0) rfl ?_
    refine mp_istore dL_isSorted_164 (ls' := [.ref 0, .int (nI r), .int (nI d), .int (nI X.length), .ref n, .ref (n + 1), .ref (n + 2), .ref (n + 3), .int (mb (q_fallsThroughout X)), .int (nI 0), .double 0, .double 0]) rfl (by decide) rfl ?_
    refine mt_aload_n dL_isSorted_166 rfl rfl ?_
    refine mt_iload_n dL_isSorted_167 rfl ?_
    refine mt_iconst dL_isSorted_168 (v := nI 0) rfl ?_
    refine mt_callV (N := mX2_end) (Rc := rX2_end) (As := [.int (nI r), .int (nI 0)]) (st := []) dL_isSorted_169 ((kX2_end (isGreatest := false) hl z30).good (v := .int (q_leastKey X)) (S' := S) (by rw [g_end hr, hX])) sX2_end mw_484 mKX2 rfl z30.1 rfl (Nat.le_of_ble_eq_true rfl) ⟨⟨Nat.le_of_ble_eq_true rfl, Nat.le_of_ble_eq_true rfl⟩, (by simp only [rX2_many, rX2_isFalling, rX2_key, rX2_stamp, rX2_rank, rX2_copy, rX2_end, rX2_sort, rX2_isSorted, rX2_bag, rX2_mark, rX2_same, rL_isSorted]; omega), (by simp only [rX2_many, rX2_isFalling, rX2_key, rX2_stamp, rX2_rank, rX2_copy, rX2_end, rX2_sort, rX2_isSorted, rX2_bag, rX2_mark, rX2_same, rL_isSorted]; omega)⟩ (fun v37 h38 n39 c40 => ?_) (fun _ _ _ hx => hx.elim)
    obtain ⟨c40a, c40b, c40c, c40d⟩ := c40
    rw [c40a, c40b]
    show mT _ _ _ _ 172 [.ref 0, .int (nI r), .int (nI d), .int (nI X.length), .ref n, .ref (n + 1), .ref (n + 2), .ref (n + 3), .int (mb (q_fallsThroughout X)), .int (nI 0), .double 0, .double 0] [.int (q_leastKey X)] _ _ _ _
    refine mp_istore dL_isSorted_172 (ls' := [.ref 0, .int (nI r), .int (nI d), .int (nI X.length), .ref n, .ref (n + 1), .ref (n + 2), .ref (n + 3), .int (mb (q_fallsThroughout X)), .int (nI 0), .int (q_leastKey X), .double 0]) rfl (by decide) rfl ?_
    refine mt_aload_n dL_isSorted_174 rfl rfl ?_
    refine mt_iload_n dL_isSorted_175 rfl ?_
    refine mt_callV (N := mX2_sort) (Rc := rX2_sort) (As := [.int (nI r)]) (st := []) dL_isSorted_176 ((kX2_sort hl c40c).good (v := .int (nI c1)) (S' := cAct (cSet S r ((msort X).1))) (by rw [g_sort hr, hX, ec1])) sX2_sort mw_429 mKX2 rfl c40c.1 rfl (Nat.le_of_ble_eq_true rfl) ⟨⟨Nat.le_of_ble_eq_true rfl, Nat.le_of_ble_eq_true rfl⟩, (by simp only [rX2_many, rX2_isFalling, rX2_key, rX2_stamp, rX2_rank, rX2_copy, rX2_end, rX2_sort, rX2_isSorted, rX2_bag, rX2_mark, rX2_same, rL_isSorted]; omega), (by simp only [rX2_many, rX2_isFalling, rX2_key, rX2_stamp, rX2_rank, rX2_copy, rX2_end, rX2_sort, rX2_isSorted, rX2_bag, rX2_mark, rX2_same, rL_isSorted]; omega)⟩ (fun v41 h42 n43 c44 => ?_) (fun _ _ _ hx => hx.elim)
    obtain ⟨c44a, c44b, c44c, c44d⟩ := c44
    rw [c44a, c44b]
    obtain ⟨S_45, eS_45⟩ : ∃ z, z = cAct (cSet S r ((msort X).1)) := ⟨_, rfl⟩
    rw [← eS_45] at c44c
    have xS_45_r : S_45.1 r = (msort X).1 := by rw [eS_45]; exact cAct_at
    show mT _ _ _ _ 179 [.ref 0, .int (nI r), .int (nI d), .int (nI X.length), .ref n, .ref (n + 1), .ref (n + 2), .ref (n + 3), .int (mb (q_fallsThroughout X)), .int (nI 0), .int (q_leastKey X), .double 0] [.int (nI c1)] _ _ _ _
    refine mt_if_lt dL_isSorted_179 (tgt := 224) rfl (fun q46 => ?_) (fun q46 => ?_)
    · have q46 := (mI_lt0 (by omega)).mp q46
      exact q46.elim
    · have q46 := (not_congr (mI_lt0 (by omega))).mp q46
      refine mt_aload_n dL_isSorted_182 rfl rfl ?_
      refine mt_iload_n dL_isSorted_183 rfl ?_
      refine mt_callV (N := mX2_isSorted) (Rc := rX2_isSorted) (As := [.int (nI r)]) (st := []) dL_isSorted_184 ((kX2_isSorted hl c44c).good (v := .int (nI 1)) (S' := S_45) (by rw [g_isSorted hr, xS_45_r, lf_rises lf_ksorted, mb_t])) sX2_isSorted mw_448 mKX2 rfl c44c.1 rfl (Nat.le_of_ble_eq_true rfl) ⟨⟨Nat.le_of_ble_eq_true rfl, Nat.le_of_ble_eq_true rfl⟩, (by simp only [rX2_many, rX2_isFalling, rX2_key, rX2_stamp, rX2_rank, rX2_copy, rX2_end, rX2_sort, rX2_isSorted, rX2_bag, rX2_mark, rX2_same, rL_isSorted]; omega), (by simp only [rX2_many, rX2_isFalling, rX2_key, rX2_stamp, rX2_rank, rX2_copy, rX2_end, rX2_sort, rX2_isSorted, rX2_bag, rX2_mark, rX2_same, rL_isSorted]; omega)⟩ (fun v47 h48 n49 c50 => ?_) (fun _ _ _ hx => hx.elim)
      obtain ⟨c50a, c50b, c50c, c50d⟩ := c50
      rw [c50a, c50b]
      show mT _ _ _ _ 187 [.ref 0, .int (nI r), .int (nI d), .int (nI X.length), .ref n, .ref (n + 1), .ref (n + 2), .ref (n + 3), .int (mb (q_fallsThroughout X)), .int (nI 0), .int (q_leastKey X), .double 0] [.int (nI 1)] _ _ _ _
      refine mt_if_eq dL_isSorted_187 (tgt := 224) rfl (fun q51 => ?_) (fun q51 => ?_)
      · have q51 := (mI_eq0 (by omega)).mp q51
        exact absurd q51 (by decide)
      · have q51 := (not_congr (mI_eq0 (by omega))).mp q51
        refine mt_aload_n dL_isSorted_190 rfl rfl ?_
        refine mt_iload_n dL_isSorted_191 rfl ?_
        refine mt_callV (N := mX2_many) (Rc := rX2_many) (As := [.int (nI r)]) (st := []) dL_isSorted_192 ((kX2_many hl c50c).good (v := .int (nI X.length)) (S' := S_45) (by rw [g_many hr, xS_45_r, msort_len])) sX2_many mw_213 mKX2 rfl c50c.1 rfl (Nat.le_of_ble_eq_true rfl) ⟨⟨Nat.le_of_ble_eq_true rfl, Nat.le_of_ble_eq_true rfl⟩, (by simp only [rX2_many, rX2_isFalling, rX2_key, rX2_stamp, rX2_rank, rX2_copy, rX2_end, rX2_sort, rX2_isSorted, rX2_bag, rX2_mark, rX2_same, rL_isSorted]; omega), (by simp only [rX2_many, rX2_isFalling, rX2_key, rX2_stamp, rX2_rank, rX2_copy, rX2_end, rX2_sort, rX2_isSorted, rX2_bag, rX2_mark, rX2_same, rL_isSorted]; omega)⟩ (fun v52 h53 n54 c55 => ?_) (fun _ _ _ hx => hx.elim)
        obtain ⟨c55a, c55b, c55c, c55d⟩ := c55
        rw [c55a, c55b]
        show mT _ _ _ _ 195 [.ref 0, .int (nI r), .int (nI d), .int (nI X.length), .ref n, .ref (n + 1), .ref (n + 2), .ref (n + 3), .int (mb (q_fallsThroughout X)), .int (nI 0), .int (q_leastKey X), .double 0] [.int (nI X.length)] _ _ _ _
        refine mt_iload_n dL_isSorted_195 rfl ?_
        refine mt_icmp_ne dL_isSorted_196 (tgt := 224) rfl (fun q9 => absurd q9 (fun z => z rfl)) (fun q9 => ?_)
        refine mt_iload dL_isSorted_199 rfl ?_
        refine mt_if_eq dL_isSorted_201 (tgt := 213) rfl (fun q56 => ?_) (fun q56 => ?_)
        · have q56 := (mI_eq0 (by omega)).mp q56
          refine mt_aload_n dL_isSorted_213 rfl rfl ?_
          refine mt_iload_n dL_isSorted_214 rfl ?_
          refine mt_iconst dL_isSorted_215 (v := nI 0) rfl ?_
          refine mt_callV (N := mX2_end) (Rc := rX2_end) (As := [.int (nI r), .int (nI 0)]) (st := []) dL_isSorted_216 ((kX2_end (isGreatest := false) hl c55c).good (v := .int (q_leastKey X)) (S' := S_45) (by rw [g_end hr, xS_45_r, lf_least_perm lf_msks])) sX2_end mw_484 mKX2 rfl c55c.1 rfl (Nat.le_of_ble_eq_true rfl) ⟨⟨Nat.le_of_ble_eq_true rfl, Nat.le_of_ble_eq_true rfl⟩, (by simp only [rX2_many, rX2_isFalling, rX2_key, rX2_stamp, rX2_rank, rX2_copy, rX2_end, rX2_sort, rX2_isSorted, rX2_bag, rX2_mark, rX2_same, rL_isSorted]; omega), (by simp only [rX2_many, rX2_isFalling, rX2_key, rX2_stamp, rX2_rank, rX2_copy, rX2_end, rX2_sort, rX2_isSorted, rX2_bag, rX2_mark, rX2_same, rL_isSorted]; omega)⟩ (fun v57 h58 n59 c60 => ?_) (fun _ _ _ hx => hx.elim)
          obtain ⟨c60a, c60b, c60c, c60d⟩ := c60
          rw [c60a, c60b]
          show mT _ _ _ _ 219 [.ref 0, .int (nI r), .int (nI d), .int (nI X.length), .ref n, .ref (n + 1), .ref (n + 2), .ref (n + 3), .int (mb (q_fallsThroughout X)), .int (nI 0), .int (q_leastKey X), .double 0] [.int (q_leastKey X)] _ _ _ _
          refine mt_iload dL_isSorted_219 rfl ?_
          refine mt_icmp_eq dL_isSorted_221 (tgt := 226) rfl (fun q9 => ?_) (fun q9 => absurd q9 (fun z => z rfl))
          refine mt_widen (cc' := 2300 + 6 * 0) (sc' := 15000 + 36 * 0) (by first | omega | (simp only [rX2_many, rX2_isFalling, rX2_key, rX2_stamp, rX2_rank, rX2_copy, rX2_end, rX2_sort, rX2_isSorted, rX2_bag, rX2_mark, rX2_same, rL_isSorted]; omega)) (by first | omega | (simp only [rX2_many, rX2_isFalling, rX2_key, rX2_stamp, rX2_rank, rX2_copy, rX2_end, rX2_sort, rX2_isSorted, rX2_bag, rX2_mark, rX2_same, rL_isSorted]; omega)) ?_
          refine mt_iconst dL_isSorted_226 (v := nI 0) rfl ?_
          refine mp_istore dL_isSorted_227 (ls' := [.ref 0, .int (nI r), .int (nI d), .int (nI X.length), .ref n, .ref (n + 1), .ref (n + 2), .ref (n + 3), .int (mb (q_fallsThroughout X)), .int (nI 0), .int (q_leastKey X), .int (nI 0)]) rfl (by decide) rfl ?_
          refine tL_isSorted_229 hl hr hn hL xS_45_r z34 z35 z36 (fun k_61 h_62 z63 => ?_) _ 0 h58 (Nat.lt_succ_self _) c60c ((c60d (n) (by omega)).trans ((c55d (n) (by omega)).trans ((c50d (n) (by omega)).trans ((c44d (n) (by omega)).trans ((c40d (n) (by omega)).trans z31))))) ((c60d (n + 1) (by omega)).trans ((c55d (n + 1) (by omega)).trans ((c50d (n + 1) (by omega)).trans ((c44d (n + 1) (by omega)).trans ((c40d (n + 1) (by omega)).trans z32))))) ((c60d (n + 2) (by omega)).trans ((c55d (n + 2) (by omega)).trans ((c50d (n + 2) (by omega)).trans ((c44d (n + 2) (by omega)).trans ((c40d (n + 2) (by omega)).trans z33))))) (by omega)
          refine mt_aload_n dL_isSorted_313 rfl rfl ?_
          refine mt_iload_n dL_isSorted_314 rfl ?_
          refine mt_iconst dL_isSorted_315 (v := nI 1) rfl ?_
          refine mt_callV (N := mX2_mark) (Rc := rX2_mark) (As := [.int (nI r), .int (nI 1)]) (st := []) dL_isSorted_316 ((kX2_mark (isStamps := true) hl z63).good (v := .int (q_mark ((msort X).1) true)) (S' := S_45) (by rw [g_mark hr, xS_45_r])) sX2_mark mw_504 mKX2 rfl z63.1 rfl (Nat.le_of_ble_eq_true rfl) ⟨⟨Nat.le_of_ble_eq_true rfl, Nat.le_of_ble_eq_true rfl⟩, (by simp only [rX2_many, rX2_isFalling, rX2_key, rX2_stamp, rX2_rank, rX2_copy, rX2_end, rX2_sort, rX2_isSorted, rX2_bag, rX2_mark, rX2_same, rL_isSorted]; omega), (by simp only [rX2_many, rX2_isFalling, rX2_key, rX2_stamp, rX2_rank, rX2_copy, rX2_end, rX2_sort, rX2_isSorted, rX2_bag, rX2_mark, rX2_same, rL_isSorted]; omega)⟩ (fun v64 h65 n66 c67 => ?_) (fun _ _ _ hx => hx.elim)
          obtain ⟨c67a, c67b, c67c, c67d⟩ := c67
          rw [c67a, c67b]
          show mT _ _ _ _ 319 [.ref 0, .int (nI r), .int (nI d), .int (nI X.length), .ref n, .ref (n + 1), .ref (n + 2), .ref (n + 3), .int (mb (q_fallsThroughout X)), .int (nI 0), .int (q_leastKey X), .int (nI k_61)] [.int (q_mark ((msort X).1) true)] _ _ _ _
          refine mp_istore dL_isSorted_319 (ls' := [.ref 0, .int (nI r), .int (nI d), .int (nI X.length), .ref n, .ref (n + 1), .ref (n + 2), .ref (n + 3), .int (mb (q_fallsThroughout X)), .int (nI 0), .int (q_leastKey X), .int (q_mark ((msort X).1) true)]) rfl (by decide) rfl ?_
          refine mt_aload_n dL_isSorted_321 rfl rfl ?_
          refine mt_iload_n dL_isSorted_322 rfl ?_
          refine mt_callV (N := mX2_sort) (Rc := rX2_sort) (As := [.int (nI r)]) (st := []) dL_isSorted_323 ((kX2_sort hl c67c).good (v := .int (nI 0)) (S' := cAct (cSet S_45 r ((msort X).1))) (by rw [g_sort hr, xS_45_r, lf_idem lf_ksorted, other_self0])) sX2_sort mw_429 mKX2 rfl c67c.1 rfl (Nat.le_of_ble_eq_true rfl) ⟨⟨Nat.le_of_ble_eq_true rfl, Nat.le_of_ble_eq_true rfl⟩, (by simp only [rX2_many, rX2_isFalling, rX2_key, rX2_stamp, rX2_rank, rX2_copy, rX2_end, rX2_sort, rX2_isSorted, rX2_bag, rX2_mark, rX2_same, rL_isSorted]; omega), (by simp only [rX2_many, rX2_isFalling, rX2_key, rX2_stamp, rX2_rank, rX2_copy, rX2_end, rX2_sort, rX2_isSorted, rX2_bag, rX2_mark, rX2_same, rL_isSorted]; omega)⟩ (fun v68 h69 n70 c71 => ?_) (fun _ _ _ hx => hx.elim)
          obtain ⟨c71a, c71b, c71c, c71d⟩ := c71
          rw [c71a, c71b]
          obtain ⟨S_72, eS_72⟩ : ∃ z, z = cAct (cSet S_45 r ((msort X).1)) := ⟨_, rfl⟩
          rw [← eS_72] at c71c
          have xS_72_r : S_72.1 r = (msort X).1 := by rw [eS_72]; exact cAct_at
          show mT _ _ _ _ 326 [.ref 0, .int (nI r), .int (nI d), .int (nI X.length), .ref n, .ref (n + 1), .ref (n + 2), .ref (n + 3), .int (mb (q_fallsThroughout X)), .int (nI 0), .int (q_leastKey X), .int (q_mark ((msort X).1) true)] [.int (nI 0)] _ _ _ _
          refine mt_if_ne dL_isSorted_326 (tgt := 366) rfl (fun q73 => ?_) (fun q73 => ?_)
          · have q73 := (not_congr (mI_eq0 (by omega))).mp q73
            exact absurd q73 (by decide)
          · have q73 := (mI_eq0 (by omega)).mp q73
            refine mt_aload_n dL_isSorted_329 rfl rfl ?_
            refine mt_iload_n dL_isSorted_330 rfl ?_
            refine mt_iconst dL_isSorted_331 (v := nI 1) rfl ?_
            refine mt_callV (N := mX2_mark) (Rc := rX2_mark) (As := [.int (nI r), .int (nI 1)]) (st := []) dL_isSorted_332 ((kX2_mark (isStamps := true) hl c71c).good (v := .int (q_mark ((msort X).1) true)) (S' := S_72) (by rw [g_mark hr, xS_72_r])) sX2_mark mw_504 mKX2 rfl c71c.1 rfl (Nat.le_of_ble_eq_true rfl) ⟨⟨Nat.le_of_ble_eq_true rfl, Nat.le_of_ble_eq_true rfl⟩, (by simp only [rX2_many, rX2_isFalling, rX2_key, rX2_stamp, rX2_rank, rX2_copy, rX2_end, rX2_sort, rX2_isSorted, rX2_bag, rX2_mark, rX2_same, rL_isSorted]; omega), (by simp only [rX2_many, rX2_isFalling, rX2_key, rX2_stamp, rX2_rank, rX2_copy, rX2_end, rX2_sort, rX2_isSorted, rX2_bag, rX2_mark, rX2_same, rL_isSorted]; omega)⟩ (fun v74 h75 n76 c77 => ?_) (fun _ _ _ hx => hx.elim)
            obtain ⟨c77a, c77b, c77c, c77d⟩ := c77
            rw [c77a, c77b]
            show mT _ _ _ _ 335 [.ref 0, .int (nI r), .int (nI d), .int (nI X.length), .ref n, .ref (n + 1), .ref (n + 2), .ref (n + 3), .int (mb (q_fallsThroughout X)), .int (nI 0), .int (q_leastKey X), .int (q_mark ((msort X).1) true)] [.int (q_mark ((msort X).1) true)] _ _ _ _
            refine mt_iload dL_isSorted_335 rfl ?_
            refine mt_icmp_ne dL_isSorted_337 (tgt := 366) rfl (fun q9 => absurd q9 (fun z => z rfl)) (fun q9 => ?_)
            refine mt_iload dL_isSorted_340 rfl ?_
            refine mt_if_eq dL_isSorted_342 (tgt := 362) rfl (fun q78 => ?_) (fun q78 => ?_)
            · have q78 := (mI_eq0 (by omega)).mp q78
              refine mt_iconst dL_isSorted_362 (v := nI 1) rfl ?_
              refine mt_goto dL_isSorted_363 (tgt := 367) rfl ?_
              refine mt_ireturn dL_isSorted_367 rfl rfl (by simp only [rX2_many, rX2_isFalling, rX2_key, rX2_stamp, rX2_rank, rX2_copy, rX2_end, rX2_sort, rX2_isSorted, rX2_bag, rX2_mark, rX2_same, rL_isSorted]; omega) (by simp only [rX2_many, rX2_isFalling, rX2_key, rX2_stamp, rX2_rank, rX2_copy, rX2_end, rX2_sort, rX2_isSorted, rX2_bag, rX2_mark, rX2_same, rL_isSorted]; omega) ?_
              exact ⟨rfl, by omega, _, c77c⟩
            · have q78 := (not_congr (mI_eq0 (by omega))).mp q78
              exact absurd q78 (by decide)
        · have q56 := (not_congr (mI_eq0 (by omega))).mp q56
          exact absurd q56 (by decide)
  · by_cases hroom : rroom d < X.length
    · refine mt_iload_n dL_isSorted_144 rfl ?_
      refine mt_iload_n dL_isSorted_145 rfl ?_
      refine mt_icmp_eq dL_isSorted_146 (tgt := 163) rfl (fun q9 => absurd q9 (fun z => hdr ((nI_eq (by omega) (by omega)).mp z))) (fun q9 => ?_)
      refine mt_aload_n dL_isSorted_149 rfl rfl ?_
      refine mt_iload_n dL_isSorted_150 rfl ?_
      refine mt_iload_n dL_isSorted_151 rfl ?_
      refine mt_callV (N := mX2_copy) (Rc := rX2_copy) (As := [.int (nI r), .int (nI d)]) (st := []) dL_isSorted_152 ((kX2_copy hl z30).good (v := .int (-9)) (S' := cRef S) (by rw [g_copyN hr hd (fun z => hdr z.symm) (by rw [hX]; exact hroom)])) sX2_copy mw_405 mKX2 rfl z30.1 rfl (Nat.le_of_ble_eq_true rfl) ⟨⟨Nat.le_of_ble_eq_true rfl, Nat.le_of_ble_eq_true rfl⟩, (by simp only [rX2_many, rX2_isFalling, rX2_key, rX2_stamp, rX2_rank, rX2_copy, rX2_end, rX2_sort, rX2_isSorted, rX2_bag, rX2_mark, rX2_same, rL_isSorted]; omega), (by simp only [rX2_many, rX2_isFalling, rX2_key, rX2_stamp, rX2_rank, rX2_copy, rX2_end, rX2_sort, rX2_isSorted, rX2_bag, rX2_mark, rX2_same, rL_isSorted]; omega)⟩ (fun v79 h80 n81 c82 => ?_) (fun _ _ _ hx => hx.elim)
      obtain ⟨c82a, c82b, c82c, c82d⟩ := c82
      rw [c82a, c82b]
      obtain ⟨S_83, eS_83⟩ : ∃ z, z = cRef S := ⟨_, rfl⟩
      rw [← eS_83] at c82c
      have xS_83_r : S_83.1 r = X := by rw [eS_83]; exact hX
      show mT _ _ _ _ 155 [.ref 0, .int (nI r), .int (nI d), .int (nI X.length), .ref n, .ref (n + 1), .ref (n + 2), .ref (n + 3), .int (mb (q_fallsThroughout X)), .double 0, .double 0, .double 0] [.int (-9)] _ _ _ _
      refine mt_iload_n dL_isSorted_155 rfl ?_
      refine mt_icmp_ne dL_isSorted_156 (tgt := 163) rfl (fun q9 => ?_) (fun q9 => absurd q9 (lf_m9 (by omega)))
      refine mt_iconst dL_isSorted_163 (v := nI 0) rfl ?_
      refine mp_istore dL_isSorted_164 (ls' := [.ref 0, .int (nI r), .int (nI d), .int (nI X.length), .ref n, .ref (n + 1), .ref (n + 2), .ref (n + 3), .int (mb (q_fallsThroughout X)), .int (nI 0), .double 0, .double 0]) rfl (by decide) rfl ?_
      refine mt_aload_n dL_isSorted_166 rfl rfl ?_
      refine mt_iload_n dL_isSorted_167 rfl ?_
      refine mt_iconst dL_isSorted_168 (v := nI 0) rfl ?_
      refine mt_callV (N := mX2_end) (Rc := rX2_end) (As := [.int (nI r), .int (nI 0)]) (st := []) dL_isSorted_169 ((kX2_end (isGreatest := false) hl c82c).good (v := .int (q_leastKey X)) (S' := S_83) (by rw [g_end hr, xS_83_r])) sX2_end mw_484 mKX2 rfl c82c.1 rfl (Nat.le_of_ble_eq_true rfl) ⟨⟨Nat.le_of_ble_eq_true rfl, Nat.le_of_ble_eq_true rfl⟩, (by simp only [rX2_many, rX2_isFalling, rX2_key, rX2_stamp, rX2_rank, rX2_copy, rX2_end, rX2_sort, rX2_isSorted, rX2_bag, rX2_mark, rX2_same, rL_isSorted]; omega), (by simp only [rX2_many, rX2_isFalling, rX2_key, rX2_stamp, rX2_rank, rX2_copy, rX2_end, rX2_sort, rX2_isSorted, rX2_bag, rX2_mark, rX2_same, rL_isSorted]; omega)⟩ (fun v84 h85 n86 c87 => ?_) (fun _ _ _ hx => hx.elim)
      obtain ⟨c87a, c87b, c87c, c87d⟩ := c87
      rw [c87a, c87b]
      show mT _ _ _ _ 172 [.ref 0, .int (nI r), .int (nI d), .int (nI X.length), .ref n, .ref (n + 1), .ref (n + 2), .ref (n + 3), .int (mb (q_fallsThroughout X)), .int (nI 0), .double 0, .double 0] [.int (q_leastKey X)] _ _ _ _
      refine mp_istore dL_isSorted_172 (ls' := [.ref 0, .int (nI r), .int (nI d), .int (nI X.length), .ref n, .ref (n + 1), .ref (n + 2), .ref (n + 3), .int (mb (q_fallsThroughout X)), .int (nI 0), .int (q_leastKey X), .double 0]) rfl (by decide) rfl ?_
      refine mt_aload_n dL_isSorted_174 rfl rfl ?_
      refine mt_iload_n dL_isSorted_175 rfl ?_
      refine mt_callV (N := mX2_sort) (Rc := rX2_sort) (As := [.int (nI r)]) (st := []) dL_isSorted_176 ((kX2_sort hl c87c).good (v := .int (nI c1)) (S' := cAct (cSet S_83 r ((msort X).1))) (by rw [g_sort hr, xS_83_r, ec1])) sX2_sort mw_429 mKX2 rfl c87c.1 rfl (Nat.le_of_ble_eq_true rfl) ⟨⟨Nat.le_of_ble_eq_true rfl, Nat.le_of_ble_eq_true rfl⟩, (by simp only [rX2_many, rX2_isFalling, rX2_key, rX2_stamp, rX2_rank, rX2_copy, rX2_end, rX2_sort, rX2_isSorted, rX2_bag, rX2_mark, rX2_same, rL_isSorted]; omega), (by simp only [rX2_many, rX2_isFalling, rX2_key, rX2_stamp, rX2_rank, rX2_copy, rX2_end, rX2_sort, rX2_isSorted, rX2_bag, rX2_mark, rX2_same, rL_isSorted]; omega)⟩ (fun v88 h89 n90 c91 => ?_) (fun _ _ _ hx => hx.elim)
      obtain ⟨c91a, c91b, c91c, c91d⟩ := c91
      rw [c91a, c91b]
      obtain ⟨S_92, eS_92⟩ : ∃ z, z = cAct (cSet S_83 r ((msort X).1)) := ⟨_, rfl⟩
      rw [← eS_92] at c91c
      have xS_92_r : S_92.1 r = (msort X).1 := by rw [eS_92]; exact cAct_at
      show mT _ _ _ _ 179 [.ref 0, .int (nI r), .int (nI d), .int (nI X.length), .ref n, .ref (n + 1), .ref (n + 2), .ref (n + 3), .int (mb (q_fallsThroughout X)), .int (nI 0), .int (q_leastKey X), .double 0] [.int (nI c1)] _ _ _ _
      refine mt_if_lt dL_isSorted_179 (tgt := 224) rfl (fun q93 => ?_) (fun q93 => ?_)
      · have q93 := (mI_lt0 (by omega)).mp q93
        exact q93.elim
      · have q93 := (not_congr (mI_lt0 (by omega))).mp q93
        refine mt_aload_n dL_isSorted_182 rfl rfl ?_
        refine mt_iload_n dL_isSorted_183 rfl ?_
        refine mt_callV (N := mX2_isSorted) (Rc := rX2_isSorted) (As := [.int (nI r)]) (st := []) dL_isSorted_184 ((kX2_isSorted hl c91c).good (v := .int (nI 1)) (S' := S_92) (by rw [g_isSorted hr, xS_92_r, lf_rises lf_ksorted, mb_t])) sX2_isSorted mw_448 mKX2 rfl c91c.1 rfl (Nat.le_of_ble_eq_true rfl) ⟨⟨Nat.le_of_ble_eq_true rfl, Nat.le_of_ble_eq_true rfl⟩, (by simp only [rX2_many, rX2_isFalling, rX2_key, rX2_stamp, rX2_rank, rX2_copy, rX2_end, rX2_sort, rX2_isSorted, rX2_bag, rX2_mark, rX2_same, rL_isSorted]; omega), (by simp only [rX2_many, rX2_isFalling, rX2_key, rX2_stamp, rX2_rank, rX2_copy, rX2_end, rX2_sort, rX2_isSorted, rX2_bag, rX2_mark, rX2_same, rL_isSorted]; omega)⟩ (fun v94 h95 n96 c97 => ?_) (fun _ _ _ hx => hx.elim)
        obtain ⟨c97a, c97b, c97c, c97d⟩ := c97
        rw [c97a, c97b]
        show mT _ _ _ _ 187 [.ref 0, .int (nI r), .int (nI d), .int (nI X.length), .ref n, .ref (n + 1), .ref (n + 2), .ref (n + 3), .int (mb (q_fallsThroughout X)), .int (nI 0), .int (q_leastKey X), .double 0] [.int (nI 1)] _ _ _ _
        refine mt_if_eq dL_isSorted_187 (tgt := 224) rfl (fun q98 => ?_) (fun q98 => ?_)
        · have q98 := (mI_eq0 (by omega)).mp q98
          exact absurd q98 (by decide)
        · have q98 := (not_congr (mI_eq0 (by omega))).mp q98
          refine mt_aload_n dL_isSorted_190 rfl rfl ?_
          refine mt_iload_n dL_isSorted_191 rfl ?_
          refine mt_callV (N := mX2_many) (Rc := rX2_many) (As := [.int (nI r)]) (st := []) dL_isSorted_192 ((kX2_many hl c97c).good (v := .int (nI X.length)) (S' := S_92) (by rw [g_many hr, xS_92_r, msort_len])) sX2_many mw_213 mKX2 rfl c97c.1 rfl (Nat.le_of_ble_eq_true rfl) ⟨⟨Nat.le_of_ble_eq_true rfl, Nat.le_of_ble_eq_true rfl⟩, (by simp only [rX2_many, rX2_isFalling, rX2_key, rX2_stamp, rX2_rank, rX2_copy, rX2_end, rX2_sort, rX2_isSorted, rX2_bag, rX2_mark, rX2_same, rL_isSorted]; omega), (by simp only [rX2_many, rX2_isFalling, rX2_key, rX2_stamp, rX2_rank, rX2_copy, rX2_end, rX2_sort, rX2_isSorted, rX2_bag, rX2_mark, rX2_same, rL_isSorted]; omega)⟩ (fun v99 h100 n101 c102 => ?_) (fun _ _ _ hx => hx.elim)
          obtain ⟨c102a, c102b, c102c, c102d⟩ := c102
          rw [c102a, c102b]
          show mT _ _ _ _ 195 [.ref 0, .int (nI r), .int (nI d), .int (nI X.length), .ref n, .ref (n + 1), .ref (n + 2), .ref (n + 3), .int (mb (q_fallsThroughout X)), .int (nI 0), .int (q_leastKey X), .double 0] [.int (nI X.length)] _ _ _ _
          refine mt_iload_n dL_isSorted_195 rfl ?_
          refine mt_icmp_ne dL_isSorted_196 (tgt := 224) rfl (fun q9 => absurd q9 (fun z => z rfl)) (fun q9 => ?_)
          refine mt_iload dL_isSorted_199 rfl ?_
          refine mt_if_eq dL_isSorted_201 (tgt := 213) rfl (fun q103 => ?_) (fun q103 => ?_)
          · have q103 := (mI_eq0 (by omega)).mp q103
            refine mt_aload_n dL_isSorted_213 rfl rfl ?_
            refine mt_iload_n dL_isSorted_214 rfl ?_
            refine mt_iconst dL_isSorted_215 (v := nI 0) rfl ?_
            refine mt_callV (N := mX2_end) (Rc := rX2_end) (As := [.int (nI r), .int (nI 0)]) (st := []) dL_isSorted_216 ((kX2_end (isGreatest := false) hl c102c).good (v := .int (q_leastKey X)) (S' := S_92) (by rw [g_end hr, xS_92_r, lf_least_perm lf_msks])) sX2_end mw_484 mKX2 rfl c102c.1 rfl (Nat.le_of_ble_eq_true rfl) ⟨⟨Nat.le_of_ble_eq_true rfl, Nat.le_of_ble_eq_true rfl⟩, (by simp only [rX2_many, rX2_isFalling, rX2_key, rX2_stamp, rX2_rank, rX2_copy, rX2_end, rX2_sort, rX2_isSorted, rX2_bag, rX2_mark, rX2_same, rL_isSorted]; omega), (by simp only [rX2_many, rX2_isFalling, rX2_key, rX2_stamp, rX2_rank, rX2_copy, rX2_end, rX2_sort, rX2_isSorted, rX2_bag, rX2_mark, rX2_same, rL_isSorted]; omega)⟩ (fun v104 h105 n106 c107 => ?_) (fun _ _ _ hx => hx.elim)
            obtain ⟨c107a, c107b, c107c, c107d⟩ := c107
            rw [c107a, c107b]
            show mT _ _ _ _ 219 [.ref 0, .int (nI r), .int (nI d), .int (nI X.length), .ref n, .ref (n + 1), .ref (n + 2), .ref (n + 3), .int (mb (q_fallsThroughout X)), .int (nI 0), .int (q_leastKey X), .double 0] [.int (q_leastKey X)] _ _ _ _
            refine mt_iload dL_isSorted_219 rfl ?_
            refine mt_icmp_eq dL_isSorted_221 (tgt := 226) rfl (fun q9 => ?_) (fun q9 => absurd q9 (fun z => z rfl))
            refine mt_widen (cc' := 2300 + 6 * 0) (sc' := 15000 + 36 * 0) (by first | omega | (simp only [rX2_many, rX2_isFalling, rX2_key, rX2_stamp, rX2_rank, rX2_copy, rX2_end, rX2_sort, rX2_isSorted, rX2_bag, rX2_mark, rX2_same, rL_isSorted]; omega)) (by first | omega | (simp only [rX2_many, rX2_isFalling, rX2_key, rX2_stamp, rX2_rank, rX2_copy, rX2_end, rX2_sort, rX2_isSorted, rX2_bag, rX2_mark, rX2_same, rL_isSorted]; omega)) ?_
            refine mt_iconst dL_isSorted_226 (v := nI 0) rfl ?_
            refine mp_istore dL_isSorted_227 (ls' := [.ref 0, .int (nI r), .int (nI d), .int (nI X.length), .ref n, .ref (n + 1), .ref (n + 2), .ref (n + 3), .int (mb (q_fallsThroughout X)), .int (nI 0), .int (q_leastKey X), .int (nI 0)]) rfl (by decide) rfl ?_
            refine tL_isSorted_229 hl hr hn hL xS_92_r z34 z35 z36 (fun k_108 h_109 z110 => ?_) _ 0 h105 (Nat.lt_succ_self _) c107c ((c107d (n) (by omega)).trans ((c102d (n) (by omega)).trans ((c97d (n) (by omega)).trans ((c91d (n) (by omega)).trans ((c87d (n) (by omega)).trans ((c82d (n) (by omega)).trans z31)))))) ((c107d (n + 1) (by omega)).trans ((c102d (n + 1) (by omega)).trans ((c97d (n + 1) (by omega)).trans ((c91d (n + 1) (by omega)).trans ((c87d (n + 1) (by omega)).trans ((c82d (n + 1) (by omega)).trans z32)))))) ((c107d (n + 2) (by omega)).trans ((c102d (n + 2) (by omega)).trans ((c97d (n + 2) (by omega)).trans ((c91d (n + 2) (by omega)).trans ((c87d (n + 2) (by omega)).trans ((c82d (n + 2) (by omega)).trans z33)))))) (by omega)
            refine mt_aload_n dL_isSorted_313 rfl rfl ?_
            refine mt_iload_n dL_isSorted_314 rfl ?_
            refine mt_iconst dL_isSorted_315 (v := nI 1) rfl ?_
            refine mt_callV (N := mX2_mark) (Rc := rX2_mark) (As := [.int (nI r), .int (nI 1)]) (st := []) dL_isSorted_316 ((kX2_mark (isStamps := true) hl z110).good (v := .int (q_mark ((msort X).1) true)) (S' := S_92) (by rw [g_mark hr, xS_92_r])) sX2_mark mw_504 mKX2 rfl z110.1 rfl (Nat.le_of_ble_eq_true rfl) ⟨⟨Nat.le_of_ble_eq_true rfl, Nat.le_of_ble_eq_true rfl⟩, (by simp only [rX2_many, rX2_isFalling, rX2_key, rX2_stamp, rX2_rank, rX2_copy, rX2_end, rX2_sort, rX2_isSorted, rX2_bag, rX2_mark, rX2_same, rL_isSorted]; omega), (by simp only [rX2_many, rX2_isFalling, rX2_key, rX2_stamp, rX2_rank, rX2_copy, rX2_end, rX2_sort, rX2_isSorted, rX2_bag, rX2_mark, rX2_same, rL_isSorted]; omega)⟩ (fun v111 h112 n113 c114 => ?_) (fun _ _ _ hx => hx.elim)
            obtain ⟨c114a, c114b, c114c, c114d⟩ := c114
            rw [c114a, c114b]
            show mT _ _ _ _ 319 [.ref 0, .int (nI r), .int (nI d), .int (nI X.length), .ref n, .ref (n + 1), .ref (n + 2), .ref (n + 3), .int (mb (q_fallsThroughout X)), .int (nI 0), .int (q_leastKey X), .int (nI k_108)] [.int (q_mark ((msort X).1) true)] _ _ _ _
            refine mp_istore dL_isSorted_319 (ls' := [.ref 0, .int (nI r), .int (nI d), .int (nI X.length), .ref n, .ref (n + 1), .ref (n + 2), .ref (n + 3), .int (mb (q_fallsThroughout X)), .int (nI 0), .int (q_leastKey X), .int (q_mark ((msort X).1) true)]) rfl (by decide) rfl ?_
            refine mt_aload_n dL_isSorted_321 rfl rfl ?_
            refine mt_iload_n dL_isSorted_322 rfl ?_
            refine mt_callV (N := mX2_sort) (Rc := rX2_sort) (As := [.int (nI r)]) (st := []) dL_isSorted_323 ((kX2_sort hl c114c).good (v := .int (nI 0)) (S' := cAct (cSet S_92 r ((msort X).1))) (by rw [g_sort hr, xS_92_r, lf_idem lf_ksorted, other_self0])) sX2_sort mw_429 mKX2 rfl c114c.1 rfl (Nat.le_of_ble_eq_true rfl) ⟨⟨Nat.le_of_ble_eq_true rfl, Nat.le_of_ble_eq_true rfl⟩, (by simp only [rX2_many, rX2_isFalling, rX2_key, rX2_stamp, rX2_rank, rX2_copy, rX2_end, rX2_sort, rX2_isSorted, rX2_bag, rX2_mark, rX2_same, rL_isSorted]; omega), (by simp only [rX2_many, rX2_isFalling, rX2_key, rX2_stamp, rX2_rank, rX2_copy, rX2_end, rX2_sort, rX2_isSorted, rX2_bag, rX2_mark, rX2_same, rL_isSorted]; omega)⟩ (fun v115 h116 n117 c118 => ?_) (fun _ _ _ hx => hx.elim)
            obtain ⟨c118a, c118b, c118c, c118d⟩ := c118
            rw [c118a, c118b]
            obtain ⟨S_119, eS_119⟩ : ∃ z, z = cAct (cSet S_92 r ((msort X).1)) := ⟨_, rfl⟩
            rw [← eS_119] at c118c
            have xS_119_r : S_119.1 r = (msort X).1 := by rw [eS_119]; exact cAct_at
            show mT _ _ _ _ 326 [.ref 0, .int (nI r), .int (nI d), .int (nI X.length), .ref n, .ref (n + 1), .ref (n + 2), .ref (n + 3), .int (mb (q_fallsThroughout X)), .int (nI 0), .int (q_leastKey X), .int (q_mark ((msort X).1) true)] [.int (nI 0)] _ _ _ _
            refine mt_if_ne dL_isSorted_326 (tgt := 366) rfl (fun q120 => ?_) (fun q120 => ?_)
            · have q120 := (not_congr (mI_eq0 (by omega))).mp q120
              exact absurd q120 (by decide)
            · have q120 := (mI_eq0 (by omega)).mp q120
              refine mt_aload_n dL_isSorted_329 rfl rfl ?_
              refine mt_iload_n dL_isSorted_330 rfl ?_
              refine mt_iconst dL_isSorted_331 (v := nI 1) rfl ?_
              refine mt_callV (N := mX2_mark) (Rc := rX2_mark) (As := [.int (nI r), .int (nI 1)]) (st := []) dL_isSorted_332 ((kX2_mark (isStamps := true) hl c118c).good (v := .int (q_mark ((msort X).1) true)) (S' := S_119) (by rw [g_mark hr, xS_119_r])) sX2_mark mw_504 mKX2 rfl c118c.1 rfl (Nat.le_of_ble_eq_true rfl) ⟨⟨Nat.le_of_ble_eq_true rfl, Nat.le_of_ble_eq_true rfl⟩, (by simp only [rX2_many, rX2_isFalling, rX2_key, rX2_stamp, rX2_rank, rX2_copy, rX2_end, rX2_sort, rX2_isSorted, rX2_bag, rX2_mark, rX2_same, rL_isSorted]; omega), (by simp only [rX2_many, rX2_isFalling, rX2_key, rX2_stamp, rX2_rank, rX2_copy, rX2_end, rX2_sort, rX2_isSorted, rX2_bag, rX2_mark, rX2_same, rL_isSorted]; omega)⟩ (fun v121 h122 n123 c124 => ?_) (fun _ _ _ hx => hx.elim)
              obtain ⟨c124a, c124b, c124c, c124d⟩ := c124
              rw [c124a, c124b]
              show mT _ _ _ _ 335 [.ref 0, .int (nI r), .int (nI d), .int (nI X.length), .ref n, .ref (n + 1), .ref (n + 2), .ref (n + 3), .int (mb (q_fallsThroughout X)), .int (nI 0), .int (q_leastKey X), .int (q_mark ((msort X).1) true)] [.int (q_mark ((msort X).1) true)] _ _ _ _
              refine mt_iload dL_isSorted_335 rfl ?_
              refine mt_icmp_ne dL_isSorted_337 (tgt := 366) rfl (fun q9 => absurd q9 (fun z => z rfl)) (fun q9 => ?_)
              refine mt_iload dL_isSorted_340 rfl ?_
              refine mt_if_eq dL_isSorted_342 (tgt := 362) rfl (fun q125 => ?_) (fun q125 => ?_)
              · have q125 := (mI_eq0 (by omega)).mp q125
                refine mt_iconst dL_isSorted_362 (v := nI 1) rfl ?_
                refine mt_goto dL_isSorted_363 (tgt := 367) rfl ?_
                refine mt_ireturn dL_isSorted_367 rfl rfl (by simp only [rX2_many, rX2_isFalling, rX2_key, rX2_stamp, rX2_rank, rX2_copy, rX2_end, rX2_sort, rX2_isSorted, rX2_bag, rX2_mark, rX2_same, rL_isSorted]; omega) (by simp only [rX2_many, rX2_isFalling, rX2_key, rX2_stamp, rX2_rank, rX2_copy, rX2_end, rX2_sort, rX2_isSorted, rX2_bag, rX2_mark, rX2_same, rL_isSorted]; omega) ?_
                exact ⟨rfl, by omega, _, c124c⟩
              · have q125 := (not_congr (mI_eq0 (by omega))).mp q125
                exact absurd q125 (by decide)
          · have q103 := (not_congr (mI_eq0 (by omega))).mp q103
            exact absurd q103 (by decide)
    · refine mt_iload_n dL_isSorted_144 rfl ?_
      refine mt_iload_n dL_isSorted_145 rfl ?_
      refine mt_icmp_eq dL_isSorted_146 (tgt := 163) rfl (fun q9 => absurd q9 (fun z => hdr ((nI_eq (by omega) (by omega)).mp z))) (fun q9 => ?_)
      refine mt_aload_n dL_isSorted_149 rfl rfl ?_
      refine mt_iload_n dL_isSorted_150 rfl ?_
      refine mt_iload_n dL_isSorted_151 rfl ?_
      refine mt_callV (N := mX2_copy) (Rc := rX2_copy) (As := [.int (nI r), .int (nI d)]) (st := []) dL_isSorted_152 ((kX2_copy hl z30).good (v := .int (nI X.length)) (S' := cAct (cGiv (cSet S d (bringL X (decide (d < 2)) (decide (r < 2)) ([]) S.2.1).1) (bringL X (decide (d < 2)) (decide (r < 2)) ([]) S.2.1).2)) (by rw [g_copyY hr hd (fun z => hdr z.symm) (by rw [hX]; exact hroom), hX])) sX2_copy mw_405 mKX2 rfl z30.1 rfl (Nat.le_of_ble_eq_true rfl) ⟨⟨Nat.le_of_ble_eq_true rfl, Nat.le_of_ble_eq_true rfl⟩, (by simp only [rX2_many, rX2_isFalling, rX2_key, rX2_stamp, rX2_rank, rX2_copy, rX2_end, rX2_sort, rX2_isSorted, rX2_bag, rX2_mark, rX2_same, rL_isSorted]; omega), (by simp only [rX2_many, rX2_isFalling, rX2_key, rX2_stamp, rX2_rank, rX2_copy, rX2_end, rX2_sort, rX2_isSorted, rX2_bag, rX2_mark, rX2_same, rL_isSorted]; omega)⟩ (fun v126 h127 n128 c129 => ?_) (fun _ _ _ hx => hx.elim)
      obtain ⟨c129a, c129b, c129c, c129d⟩ := c129
      rw [c129a, c129b]
      obtain ⟨S_130, eS_130⟩ : ∃ z, z = cAct (cGiv (cSet S d (bringL X (decide (d < 2)) (decide (r < 2)) ([]) S.2.1).1) (bringL X (decide (d < 2)) (decide (r < 2)) ([]) S.2.1).2) := ⟨_, rfl⟩
      rw [← eS_130] at c129c
      have xS_130_d : S_130.1 d = (bringL X (decide (d < 2)) (decide (r < 2)) ([]) S.2.1).1 := by rw [eS_130]; exact cGiv_at
      have xS_130_r : S_130.1 r = X := by rw [eS_130]; exact (cGiv_ne (fun z => hdr z.symm)).trans hX
      show mT _ _ _ _ 155 [.ref 0, .int (nI r), .int (nI d), .int (nI X.length), .ref n, .ref (n + 1), .ref (n + 2), .ref (n + 3), .int (mb (q_fallsThroughout X)), .double 0, .double 0, .double 0] [.int (nI X.length)] _ _ _ _
      refine mt_iload_n dL_isSorted_155 rfl ?_
      obtain ⟨G, eG⟩ : ∃ z, z = (bringL X (decide (d < 2)) (decide (r < 2)) ([]) S.2.1).1 := ⟨_, rfl⟩
      rw [← eG] at xS_130_d
      have kG : ks G = ks X := by rw [eG, lf_bringk]; rfl
      have hG3 : G.length ≤ 320 := by rw [← xS_130_d]; exact (lenOk_of c129c).le hd
      obtain ⟨c2, hc2, ec2⟩ := lf_others (xs := G) (ys := (msort G).1) hG3
      refine mt_icmp_ne dL_isSorted_156 (tgt := 163) rfl (fun q9 => absurd q9 (fun z => z rfl)) (fun q9 => ?_)
      refine mt_iconst dL_isSorted_159 (v := nI 1) rfl ?_
      refine mt_goto dL_isSorted_160 (tgt := 164) rfl ?_
      refine mp_istore dL_isSorted_164 (ls' := [.ref 0, .int (nI r), .int (nI d), .int (nI X.length), .ref n, .ref (n + 1), .ref (n + 2), .ref (n + 3), .int (mb (q_fallsThroughout X)), .int (nI 1), .double 0, .double 0]) rfl (by decide) rfl ?_
      refine mt_aload_n dL_isSorted_166 rfl rfl ?_
      refine mt_iload_n dL_isSorted_167 rfl ?_
      refine mt_iconst dL_isSorted_168 (v := nI 0) rfl ?_
      refine mt_callV (N := mX2_end) (Rc := rX2_end) (As := [.int (nI r), .int (nI 0)]) (st := []) dL_isSorted_169 ((kX2_end (isGreatest := false) hl c129c).good (v := .int (q_leastKey X)) (S' := S_130) (by rw [g_end hr, xS_130_r])) sX2_end mw_484 mKX2 rfl c129c.1 rfl (Nat.le_of_ble_eq_true rfl) ⟨⟨Nat.le_of_ble_eq_true rfl, Nat.le_of_ble_eq_true rfl⟩, (by simp only [rX2_many, rX2_isFalling, rX2_key, rX2_stamp, rX2_rank, rX2_copy, rX2_end, rX2_sort, rX2_isSorted, rX2_bag, rX2_mark, rX2_same, rL_isSorted]; omega), (by simp only [rX2_many, rX2_isFalling, rX2_key, rX2_stamp, rX2_rank, rX2_copy, rX2_end, rX2_sort, rX2_isSorted, rX2_bag, rX2_mark, rX2_same, rL_isSorted]; omega)⟩ (fun v131 h132 n133 c134 => ?_) (fun _ _ _ hx => hx.elim)
      obtain ⟨c134a, c134b, c134c, c134d⟩ := c134
      rw [c134a, c134b]
      show mT _ _ _ _ 172 [.ref 0, .int (nI r), .int (nI d), .int (nI X.length), .ref n, .ref (n + 1), .ref (n + 2), .ref (n + 3), .int (mb (q_fallsThroughout X)), .int (nI 1), .double 0, .double 0] [.int (q_leastKey X)] _ _ _ _
      refine mp_istore dL_isSorted_172 (ls' := [.ref 0, .int (nI r), .int (nI d), .int (nI X.length), .ref n, .ref (n + 1), .ref (n + 2), .ref (n + 3), .int (mb (q_fallsThroughout X)), .int (nI 1), .int (q_leastKey X), .double 0]) rfl (by decide) rfl ?_
      refine mt_aload_n dL_isSorted_174 rfl rfl ?_
      refine mt_iload_n dL_isSorted_175 rfl ?_
      refine mt_callV (N := mX2_sort) (Rc := rX2_sort) (As := [.int (nI r)]) (st := []) dL_isSorted_176 ((kX2_sort hl c134c).good (v := .int (nI c1)) (S' := cAct (cSet S_130 r ((msort X).1))) (by rw [g_sort hr, xS_130_r, ec1])) sX2_sort mw_429 mKX2 rfl c134c.1 rfl (Nat.le_of_ble_eq_true rfl) ⟨⟨Nat.le_of_ble_eq_true rfl, Nat.le_of_ble_eq_true rfl⟩, (by simp only [rX2_many, rX2_isFalling, rX2_key, rX2_stamp, rX2_rank, rX2_copy, rX2_end, rX2_sort, rX2_isSorted, rX2_bag, rX2_mark, rX2_same, rL_isSorted]; omega), (by simp only [rX2_many, rX2_isFalling, rX2_key, rX2_stamp, rX2_rank, rX2_copy, rX2_end, rX2_sort, rX2_isSorted, rX2_bag, rX2_mark, rX2_same, rL_isSorted]; omega)⟩ (fun v135 h136 n137 c138 => ?_) (fun _ _ _ hx => hx.elim)
      obtain ⟨c138a, c138b, c138c, c138d⟩ := c138
      rw [c138a, c138b]
      obtain ⟨S_139, eS_139⟩ : ∃ z, z = cAct (cSet S_130 r ((msort X).1)) := ⟨_, rfl⟩
      rw [← eS_139] at c138c
      have xS_139_r : S_139.1 r = (msort X).1 := by rw [eS_139]; exact cAct_at
      have xS_139_d : S_139.1 d = G := by rw [eS_139]; exact (cAct_ne hdr).trans xS_130_d
      show mT _ _ _ _ 179 [.ref 0, .int (nI r), .int (nI d), .int (nI X.length), .ref n, .ref (n + 1), .ref (n + 2), .ref (n + 3), .int (mb (q_fallsThroughout X)), .int (nI 1), .int (q_leastKey X), .double 0] [.int (nI c1)] _ _ _ _
      refine mt_if_lt dL_isSorted_179 (tgt := 224) rfl (fun q140 => ?_) (fun q140 => ?_)
      · have q140 := (mI_lt0 (by omega)).mp q140
        exact q140.elim
      · have q140 := (not_congr (mI_lt0 (by omega))).mp q140
        refine mt_aload_n dL_isSorted_182 rfl rfl ?_
        refine mt_iload_n dL_isSorted_183 rfl ?_
        refine mt_callV (N := mX2_isSorted) (Rc := rX2_isSorted) (As := [.int (nI r)]) (st := []) dL_isSorted_184 ((kX2_isSorted hl c138c).good (v := .int (nI 1)) (S' := S_139) (by rw [g_isSorted hr, xS_139_r, lf_rises lf_ksorted, mb_t])) sX2_isSorted mw_448 mKX2 rfl c138c.1 rfl (Nat.le_of_ble_eq_true rfl) ⟨⟨Nat.le_of_ble_eq_true rfl, Nat.le_of_ble_eq_true rfl⟩, (by simp only [rX2_many, rX2_isFalling, rX2_key, rX2_stamp, rX2_rank, rX2_copy, rX2_end, rX2_sort, rX2_isSorted, rX2_bag, rX2_mark, rX2_same, rL_isSorted]; omega), (by simp only [rX2_many, rX2_isFalling, rX2_key, rX2_stamp, rX2_rank, rX2_copy, rX2_end, rX2_sort, rX2_isSorted, rX2_bag, rX2_mark, rX2_same, rL_isSorted]; omega)⟩ (fun v141 h142 n143 c144 => ?_) (fun _ _ _ hx => hx.elim)
        obtain ⟨c144a, c144b, c144c, c144d⟩ := c144
        rw [c144a, c144b]
        show mT _ _ _ _ 187 [.ref 0, .int (nI r), .int (nI d), .int (nI X.length), .ref n, .ref (n + 1), .ref (n + 2), .ref (n + 3), .int (mb (q_fallsThroughout X)), .int (nI 1), .int (q_leastKey X), .double 0] [.int (nI 1)] _ _ _ _
        refine mt_if_eq dL_isSorted_187 (tgt := 224) rfl (fun q145 => ?_) (fun q145 => ?_)
        · have q145 := (mI_eq0 (by omega)).mp q145
          exact absurd q145 (by decide)
        · have q145 := (not_congr (mI_eq0 (by omega))).mp q145
          refine mt_aload_n dL_isSorted_190 rfl rfl ?_
          refine mt_iload_n dL_isSorted_191 rfl ?_
          refine mt_callV (N := mX2_many) (Rc := rX2_many) (As := [.int (nI r)]) (st := []) dL_isSorted_192 ((kX2_many hl c144c).good (v := .int (nI X.length)) (S' := S_139) (by rw [g_many hr, xS_139_r, msort_len])) sX2_many mw_213 mKX2 rfl c144c.1 rfl (Nat.le_of_ble_eq_true rfl) ⟨⟨Nat.le_of_ble_eq_true rfl, Nat.le_of_ble_eq_true rfl⟩, (by simp only [rX2_many, rX2_isFalling, rX2_key, rX2_stamp, rX2_rank, rX2_copy, rX2_end, rX2_sort, rX2_isSorted, rX2_bag, rX2_mark, rX2_same, rL_isSorted]; omega), (by simp only [rX2_many, rX2_isFalling, rX2_key, rX2_stamp, rX2_rank, rX2_copy, rX2_end, rX2_sort, rX2_isSorted, rX2_bag, rX2_mark, rX2_same, rL_isSorted]; omega)⟩ (fun v146 h147 n148 c149 => ?_) (fun _ _ _ hx => hx.elim)
          obtain ⟨c149a, c149b, c149c, c149d⟩ := c149
          rw [c149a, c149b]
          show mT _ _ _ _ 195 [.ref 0, .int (nI r), .int (nI d), .int (nI X.length), .ref n, .ref (n + 1), .ref (n + 2), .ref (n + 3), .int (mb (q_fallsThroughout X)), .int (nI 1), .int (q_leastKey X), .double 0] [.int (nI X.length)] _ _ _ _
          refine mt_iload_n dL_isSorted_195 rfl ?_
          refine mt_icmp_ne dL_isSorted_196 (tgt := 224) rfl (fun q9 => absurd q9 (fun z => z rfl)) (fun q9 => ?_)
          refine mt_iload dL_isSorted_199 rfl ?_
          refine mt_if_eq dL_isSorted_201 (tgt := 213) rfl (fun q150 => ?_) (fun q150 => ?_)
          · have q150 := (mI_eq0 (by omega)).mp q150
            exact absurd q150 (by decide)
          · have q150 := (not_congr (mI_eq0 (by omega))).mp q150
            refine mt_aload_n dL_isSorted_204 rfl rfl ?_
            refine mt_iload_n dL_isSorted_205 rfl ?_
            refine mt_iload_n dL_isSorted_206 rfl ?_
            refine mt_callV (N := mX2_bag) (Rc := rX2_bag) (As := [.int (nI r), .int (nI d)]) (st := []) dL_isSorted_207 ((kX2_bag hl c149c).good (v := .int (nI 1)) (S' := S_139) (by rw [g_bagT (lenOk_of c149c) hr hd (by rw [xS_139_r, xS_139_d]; exact (by rw [kG]; exact lf_msks)), mb_t])) sX2_bag mw_500 mKX2 rfl c149c.1 rfl (Nat.le_of_ble_eq_true rfl) ⟨⟨Nat.le_of_ble_eq_true rfl, Nat.le_of_ble_eq_true rfl⟩, (by simp only [rX2_many, rX2_isFalling, rX2_key, rX2_stamp, rX2_rank, rX2_copy, rX2_end, rX2_sort, rX2_isSorted, rX2_bag, rX2_mark, rX2_same, rL_isSorted]; omega), (by simp only [rX2_many, rX2_isFalling, rX2_key, rX2_stamp, rX2_rank, rX2_copy, rX2_end, rX2_sort, rX2_isSorted, rX2_bag, rX2_mark, rX2_same, rL_isSorted]; omega)⟩ (fun v151 h152 n153 c154 => ?_) (fun _ _ _ hx => hx.elim)
            obtain ⟨c154a, c154b, c154c, c154d⟩ := c154
            rw [c154a, c154b]
            show mT _ _ _ _ 210 [.ref 0, .int (nI r), .int (nI d), .int (nI X.length), .ref n, .ref (n + 1), .ref (n + 2), .ref (n + 3), .int (mb (q_fallsThroughout X)), .int (nI 1), .int (q_leastKey X), .double 0] [.int (nI 1)] _ _ _ _
            refine mt_if_eq dL_isSorted_210 (tgt := 224) rfl (fun q155 => ?_) (fun q155 => ?_)
            · have q155 := (mI_eq0 (by omega)).mp q155
              exact absurd q155 (by decide)
            · have q155 := (not_congr (mI_eq0 (by omega))).mp q155
              refine mt_aload_n dL_isSorted_213 rfl rfl ?_
              refine mt_iload_n dL_isSorted_214 rfl ?_
              refine mt_iconst dL_isSorted_215 (v := nI 0) rfl ?_
              refine mt_callV (N := mX2_end) (Rc := rX2_end) (As := [.int (nI r), .int (nI 0)]) (st := []) dL_isSorted_216 ((kX2_end (isGreatest := false) hl c154c).good (v := .int (q_leastKey X)) (S' := S_139) (by rw [g_end hr, xS_139_r, lf_least_perm lf_msks])) sX2_end mw_484 mKX2 rfl c154c.1 rfl (Nat.le_of_ble_eq_true rfl) ⟨⟨Nat.le_of_ble_eq_true rfl, Nat.le_of_ble_eq_true rfl⟩, (by simp only [rX2_many, rX2_isFalling, rX2_key, rX2_stamp, rX2_rank, rX2_copy, rX2_end, rX2_sort, rX2_isSorted, rX2_bag, rX2_mark, rX2_same, rL_isSorted]; omega), (by simp only [rX2_many, rX2_isFalling, rX2_key, rX2_stamp, rX2_rank, rX2_copy, rX2_end, rX2_sort, rX2_isSorted, rX2_bag, rX2_mark, rX2_same, rL_isSorted]; omega)⟩ (fun v156 h157 n158 c159 => ?_) (fun _ _ _ hx => hx.elim)
              obtain ⟨c159a, c159b, c159c, c159d⟩ := c159
              rw [c159a, c159b]
              show mT _ _ _ _ 219 [.ref 0, .int (nI r), .int (nI d), .int (nI X.length), .ref n, .ref (n + 1), .ref (n + 2), .ref (n + 3), .int (mb (q_fallsThroughout X)), .int (nI 1), .int (q_leastKey X), .double 0] [.int (q_leastKey X)] _ _ _ _
              refine mt_iload dL_isSorted_219 rfl ?_
              refine mt_icmp_eq dL_isSorted_221 (tgt := 226) rfl (fun q9 => ?_) (fun q9 => absurd q9 (fun z => z rfl))
              refine mt_widen (cc' := 2300 + 6 * 0) (sc' := 15000 + 36 * 0) (by first | omega | (simp only [rX2_many, rX2_isFalling, rX2_key, rX2_stamp, rX2_rank, rX2_copy, rX2_end, rX2_sort, rX2_isSorted, rX2_bag, rX2_mark, rX2_same, rL_isSorted]; omega)) (by first | omega | (simp only [rX2_many, rX2_isFalling, rX2_key, rX2_stamp, rX2_rank, rX2_copy, rX2_end, rX2_sort, rX2_isSorted, rX2_bag, rX2_mark, rX2_same, rL_isSorted]; omega)) ?_
              refine mt_iconst dL_isSorted_226 (v := nI 0) rfl ?_
              refine mp_istore dL_isSorted_227 (ls' := [.ref 0, .int (nI r), .int (nI d), .int (nI X.length), .ref n, .ref (n + 1), .ref (n + 2), .ref (n + 3), .int (mb (q_fallsThroughout X)), .int (nI 1), .int (q_leastKey X), .int (nI 0)]) rfl (by decide) rfl ?_
              refine tL_isSorted_229 hl hr hn hL xS_139_r z34 z35 z36 (fun k_160 h_161 z162 => ?_) _ 0 h157 (Nat.lt_succ_self _) c159c ((c159d (n) (by omega)).trans ((c154d (n) (by omega)).trans ((c149d (n) (by omega)).trans ((c144d (n) (by omega)).trans ((c138d (n) (by omega)).trans ((c134d (n) (by omega)).trans ((c129d (n) (by omega)).trans z31))))))) ((c159d (n + 1) (by omega)).trans ((c154d (n + 1) (by omega)).trans ((c149d (n + 1) (by omega)).trans ((c144d (n + 1) (by omega)).trans ((c138d (n + 1) (by omega)).trans ((c134d (n + 1) (by omega)).trans ((c129d (n + 1) (by omega)).trans z32))))))) ((c159d (n + 2) (by omega)).trans ((c154d (n + 2) (by omega)).trans ((c149d (n + 2) (by omega)).trans ((c144d (n + 2) (by omega)).trans ((c138d (n + 2) (by omega)).trans ((c134d (n + 2) (by omega)).trans ((c129d (n + 2) (by omega)).trans z33))))))) (by omega)
              refine mt_aload_n dL_isSorted_313 rfl rfl ?_
              refine mt_iload_n dL_isSorted_314 rfl ?_
              refine mt_iconst dL_isSorted_315 (v := nI 1) rfl ?_
              refine mt_callV (N := mX2_mark) (Rc := rX2_mark) (As := [.int (nI r), .int (nI 1)]) (st := []) dL_isSorted_316 ((kX2_mark (isStamps := true) hl z162).good (v := .int (q_mark ((msort X).1) true)) (S' := S_139) (by rw [g_mark hr, xS_139_r])) sX2_mark mw_504 mKX2 rfl z162.1 rfl (Nat.le_of_ble_eq_true rfl) ⟨⟨Nat.le_of_ble_eq_true rfl, Nat.le_of_ble_eq_true rfl⟩, (by simp only [rX2_many, rX2_isFalling, rX2_key, rX2_stamp, rX2_rank, rX2_copy, rX2_end, rX2_sort, rX2_isSorted, rX2_bag, rX2_mark, rX2_same, rL_isSorted]; omega), (by simp only [rX2_many, rX2_isFalling, rX2_key, rX2_stamp, rX2_rank, rX2_copy, rX2_end, rX2_sort, rX2_isSorted, rX2_bag, rX2_mark, rX2_same, rL_isSorted]; omega)⟩ (fun v163 h164 n165 c166 => ?_) (fun _ _ _ hx => hx.elim)
              obtain ⟨c166a, c166b, c166c, c166d⟩ := c166
              rw [c166a, c166b]
              show mT _ _ _ _ 319 [.ref 0, .int (nI r), .int (nI d), .int (nI X.length), .ref n, .ref (n + 1), .ref (n + 2), .ref (n + 3), .int (mb (q_fallsThroughout X)), .int (nI 1), .int (q_leastKey X), .int (nI k_160)] [.int (q_mark ((msort X).1) true)] _ _ _ _
              refine mp_istore dL_isSorted_319 (ls' := [.ref 0, .int (nI r), .int (nI d), .int (nI X.length), .ref n, .ref (n + 1), .ref (n + 2), .ref (n + 3), .int (mb (q_fallsThroughout X)), .int (nI 1), .int (q_leastKey X), .int (q_mark ((msort X).1) true)]) rfl (by decide) rfl ?_
              refine mt_aload_n dL_isSorted_321 rfl rfl ?_
              refine mt_iload_n dL_isSorted_322 rfl ?_
              refine mt_callV (N := mX2_sort) (Rc := rX2_sort) (As := [.int (nI r)]) (st := []) dL_isSorted_323 ((kX2_sort hl c166c).good (v := .int (nI 0)) (S' := cAct (cSet S_139 r ((msort X).1))) (by rw [g_sort hr, xS_139_r, lf_idem lf_ksorted, other_self0])) sX2_sort mw_429 mKX2 rfl c166c.1 rfl (Nat.le_of_ble_eq_true rfl) ⟨⟨Nat.le_of_ble_eq_true rfl, Nat.le_of_ble_eq_true rfl⟩, (by simp only [rX2_many, rX2_isFalling, rX2_key, rX2_stamp, rX2_rank, rX2_copy, rX2_end, rX2_sort, rX2_isSorted, rX2_bag, rX2_mark, rX2_same, rL_isSorted]; omega), (by simp only [rX2_many, rX2_isFalling, rX2_key, rX2_stamp, rX2_rank, rX2_copy, rX2_end, rX2_sort, rX2_isSorted, rX2_bag, rX2_mark, rX2_same, rL_isSorted]; omega)⟩ (fun v167 h168 n169 c170 => ?_) (fun _ _ _ hx => hx.elim)
              obtain ⟨c170a, c170b, c170c, c170d⟩ := c170
              rw [c170a, c170b]
              obtain ⟨S_171, eS_171⟩ : ∃ z, z = cAct (cSet S_139 r ((msort X).1)) := ⟨_, rfl⟩
              rw [← eS_171] at c170c
              have xS_171_r : S_171.1 r = (msort X).1 := by rw [eS_171]; exact cAct_at
              have xS_171_d : S_171.1 d = G := by rw [eS_171]; exact (cAct_ne hdr).trans xS_139_d
              show mT _ _ _ _ 326 [.ref 0, .int (nI r), .int (nI d), .int (nI X.length), .ref n, .ref (n + 1), .ref (n + 2), .ref (n + 3), .int (mb (q_fallsThroughout X)), .int (nI 1), .int (q_leastKey X), .int (q_mark ((msort X).1) true)] [.int (nI 0)] _ _ _ _
              refine mt_if_ne dL_isSorted_326 (tgt := 366) rfl (fun q172 => ?_) (fun q172 => ?_)
              · have q172 := (not_congr (mI_eq0 (by omega))).mp q172
                exact absurd q172 (by decide)
              · have q172 := (mI_eq0 (by omega)).mp q172
                refine mt_aload_n dL_isSorted_329 rfl rfl ?_
                refine mt_iload_n dL_isSorted_330 rfl ?_
                refine mt_iconst dL_isSorted_331 (v := nI 1) rfl ?_
                refine mt_callV (N := mX2_mark) (Rc := rX2_mark) (As := [.int (nI r), .int (nI 1)]) (st := []) dL_isSorted_332 ((kX2_mark (isStamps := true) hl c170c).good (v := .int (q_mark ((msort X).1) true)) (S' := S_171) (by rw [g_mark hr, xS_171_r])) sX2_mark mw_504 mKX2 rfl c170c.1 rfl (Nat.le_of_ble_eq_true rfl) ⟨⟨Nat.le_of_ble_eq_true rfl, Nat.le_of_ble_eq_true rfl⟩, (by simp only [rX2_many, rX2_isFalling, rX2_key, rX2_stamp, rX2_rank, rX2_copy, rX2_end, rX2_sort, rX2_isSorted, rX2_bag, rX2_mark, rX2_same, rL_isSorted]; omega), (by simp only [rX2_many, rX2_isFalling, rX2_key, rX2_stamp, rX2_rank, rX2_copy, rX2_end, rX2_sort, rX2_isSorted, rX2_bag, rX2_mark, rX2_same, rL_isSorted]; omega)⟩ (fun v173 h174 n175 c176 => ?_) (fun _ _ _ hx => hx.elim)
                obtain ⟨c176a, c176b, c176c, c176d⟩ := c176
                rw [c176a, c176b]
                show mT _ _ _ _ 335 [.ref 0, .int (nI r), .int (nI d), .int (nI X.length), .ref n, .ref (n + 1), .ref (n + 2), .ref (n + 3), .int (mb (q_fallsThroughout X)), .int (nI 1), .int (q_leastKey X), .int (q_mark ((msort X).1) true)] [.int (q_mark ((msort X).1) true)] _ _ _ _
                refine mt_iload dL_isSorted_335 rfl ?_
                refine mt_icmp_ne dL_isSorted_337 (tgt := 366) rfl (fun q9 => absurd q9 (fun z => z rfl)) (fun q9 => ?_)
                refine mt_iload dL_isSorted_340 rfl ?_
                refine mt_if_eq dL_isSorted_342 (tgt := 362) rfl (fun q177 => ?_) (fun q177 => ?_)
                · have q177 := (mI_eq0 (by omega)).mp q177
                  exact absurd q177 (by decide)
                · have q177 := (not_congr (mI_eq0 (by omega))).mp q177
                  refine mt_aload_n dL_isSorted_345 rfl rfl ?_
                  refine mt_iload_n dL_isSorted_346 rfl ?_
                  refine mt_callV (N := mX2_sort) (Rc := rX2_sort) (As := [.int (nI d)]) (st := []) dL_isSorted_347 ((kX2_sort hl c176c).good (v := .int (nI c2)) (S' := cAct (cSet S_171 d ((msort G).1))) (by rw [g_sort hd, xS_171_d, ec2])) sX2_sort mw_429 mKX2 rfl c176c.1 rfl (Nat.le_of_ble_eq_true rfl) ⟨⟨Nat.le_of_ble_eq_true rfl, Nat.le_of_ble_eq_true rfl⟩, (by simp only [rX2_many, rX2_isFalling, rX2_key, rX2_stamp, rX2_rank, rX2_copy, rX2_end, rX2_sort, rX2_isSorted, rX2_bag, rX2_mark, rX2_same, rL_isSorted]; omega), (by simp only [rX2_many, rX2_isFalling, rX2_key, rX2_stamp, rX2_rank, rX2_copy, rX2_end, rX2_sort, rX2_isSorted, rX2_bag, rX2_mark, rX2_same, rL_isSorted]; omega)⟩ (fun v178 h179 n180 c181 => ?_) (fun _ _ _ hx => hx.elim)
                  obtain ⟨c181a, c181b, c181c, c181d⟩ := c181
                  rw [c181a, c181b]
                  obtain ⟨S_182, eS_182⟩ : ∃ z, z = cAct (cSet S_171 d ((msort G).1)) := ⟨_, rfl⟩
                  rw [← eS_182] at c181c
                  have xS_182_d : S_182.1 d = (msort G).1 := by rw [eS_182]; exact cAct_at
                  have xS_182_r : S_182.1 r = (msort X).1 := by rw [eS_182]; exact (cAct_ne (fun z => hdr z.symm)).trans xS_171_r
                  show mT _ _ _ _ 350 [.ref 0, .int (nI r), .int (nI d), .int (nI X.length), .ref n, .ref (n + 1), .ref (n + 2), .ref (n + 3), .int (mb (q_fallsThroughout X)), .int (nI 1), .int (q_leastKey X), .int (q_mark ((msort X).1) true)] [.int (nI c2)] _ _ _ _
                  refine mt_if_lt dL_isSorted_350 (tgt := 366) rfl (fun q183 => ?_) (fun q183 => ?_)
                  · have q183 := (mI_lt0 (by omega)).mp q183
                    exact q183.elim
                  · have q183 := (not_congr (mI_lt0 (by omega))).mp q183
                    refine mt_aload_n dL_isSorted_353 rfl rfl ?_
                    refine mt_iload_n dL_isSorted_354 rfl ?_
                    refine mt_iload_n dL_isSorted_355 rfl ?_
                    refine mt_callV (N := mX2_same) (Rc := rX2_same) (As := [.int (nI r), .int (nI d)]) (st := []) dL_isSorted_356 ((kX2_same hl c181c).good (v := .int (nI 1)) (S' := S_182) (by rw [g_sameT (lenOk_of c181c) hr hd (by rw [xS_182_r, xS_182_d]; exact lf_two kG), mb_t])) sX2_same mw_508 mKX2 rfl c181c.1 rfl (Nat.le_of_ble_eq_true rfl) ⟨⟨Nat.le_of_ble_eq_true rfl, Nat.le_of_ble_eq_true rfl⟩, (by simp only [rX2_many, rX2_isFalling, rX2_key, rX2_stamp, rX2_rank, rX2_copy, rX2_end, rX2_sort, rX2_isSorted, rX2_bag, rX2_mark, rX2_same, rL_isSorted]; omega), (by simp only [rX2_many, rX2_isFalling, rX2_key, rX2_stamp, rX2_rank, rX2_copy, rX2_end, rX2_sort, rX2_isSorted, rX2_bag, rX2_mark, rX2_same, rL_isSorted]; omega)⟩ (fun v184 h185 n186 c187 => ?_) (fun _ _ _ hx => hx.elim)
                    obtain ⟨c187a, c187b, c187c, c187d⟩ := c187
                    rw [c187a, c187b]
                    show mT _ _ _ _ 359 [.ref 0, .int (nI r), .int (nI d), .int (nI X.length), .ref n, .ref (n + 1), .ref (n + 2), .ref (n + 3), .int (mb (q_fallsThroughout X)), .int (nI 1), .int (q_leastKey X), .int (q_mark ((msort X).1) true)] [.int (nI 1)] _ _ _ _
                    refine mt_if_eq dL_isSorted_359 (tgt := 366) rfl (fun q188 => ?_) (fun q188 => ?_)
                    · have q188 := (mI_eq0 (by omega)).mp q188
                      exact absurd q188 (by decide)
                    · have q188 := (not_congr (mI_eq0 (by omega))).mp q188
                      refine mt_iconst dL_isSorted_362 (v := nI 1) rfl ?_
                      refine mt_goto dL_isSorted_363 (tgt := 367) rfl ?_
                      refine mt_ireturn dL_isSorted_367 rfl rfl (by simp only [rX2_many, rX2_isFalling, rX2_key, rX2_stamp, rX2_rank, rX2_copy, rX2_end, rX2_sort, rX2_isSorted, rX2_bag, rX2_mark, rX2_same, rL_isSorted]; omega) (by simp only [rX2_many, rX2_isFalling, rX2_key, rX2_stamp, rX2_rank, rX2_copy, rX2_end, rX2_sort, rX2_isSorted, rX2_bag, rX2_mark, rX2_same, rL_isSorted]; omega) ?_
                      exact ⟨rfl, by omega, _, c187c⟩
