/-! ===== the law: merged ===== -/
abbrev rL_areMerged : Room := { frames := 9, cells := 2500, slots := 16000, locals := 154 }
set_option maxRecDepth 100000 in
set_option maxHeartbeats 2000000 in
theorem tL_areMerged_100 {l : Launch} {K : mK} {n nz r q all : Nat} {A B : List mIt} {S : cS} (hl : l.stackTraces = false) (hr : r < 2) (hq : q < 2) (hqe : nI 1 - nI r = nI q) (hn : 27 ≤ n) (hall : all = A.length + B.length) (ha9 : all ≤ 150) (hA : S.1 r = A) (hB : S.1 q = B) (kk0 : ∀ (h : mH) (g : Nat → Int32), (cAt h S) → (h n = .inl (0, all, g)) → (∀ j, j < all → g j = xt (mg A B 0 0) j) → mT l mL_areMerged rL_areMerged K 205 [.ref 0, .int (nI r), .int (nI all), .ref n, .double 0, .double 0, .double 0] [] h nz 1800 12500) : ∀ (N0 : Nat) (a : Nat) (b : Nat) (h : mH) (g : Nat → Int32), (all - (a + b)) < N0 → (cAt h S) → (h n = .inl (0, all, g)) → ((mg A B 0 0).drop (a + b) = mg A B a b) → (∀ j, j < (a + b) → g j = xt (mg A B 0 0) j) → (a ≤ A.length) → (b ≤ B.length) → mT l mL_areMerged rL_areMerged K 100 [.ref 0, .int (nI r), .int (nI all), .ref n, .int (nI a), .int (nI b), .double 0] [] h nz (500 + 8 * (a + b)) (5000 + 48 * (a + b)) := by
  intro N0
  induction N0 with
  | zero => intro a b h g hm; exact absurd hm (Nat.not_lt_zero _)
  | succ N0 ih =>
    intro a b h g hm C eg im ig ha hb
    refine mt_iload dL_areMerged_100 rfl ?_
    refine mt_iload dL_areMerged_102 rfl ?_
    refine mp_iadd dL_areMerged_104 (v := nI (a + b)) (nI_add _ _) ?_
    refine mt_iload_n dL_areMerged_105 rfl ?_
    refine mt_icmp_ge dL_areMerged_106 (tgt := 205) rfl (fun q1 => ?_) (fun q1 => ?_)
    · have q1 := Int32.not_lt.mpr q1
      have q1 := (not_congr (nI_ltI (by omega) (by omega))).mp q1
      refine mt_drop 4 (ls' := [.ref 0, .int (nI r), .int (nI all), .ref n, .double 0, .int (nI b), .double 0]) rfl ?_
      refine mt_drop 5 (ls' := [.ref 0, .int (nI r), .int (nI all), .ref n, .double 0, .double 0, .double 0]) rfl ?_
      refine mt_widen (cc' := 1800) (sc' := 12500) (by first | omega | (simp only [rX2_many, rX2_sort, rX2_copy, rX2_join, rX2_key, rX2_stamp, rX2_merge, rX2_same, rX2_isSorted, rX2_mark, rL_areMerged]; omega)) (by first | omega | (simp only [rX2_many, rX2_sort, rX2_copy, rX2_join, rX2_key, rX2_stamp, rX2_merge, rX2_same, rX2_isSorted, rX2_mark, rL_areMerged]; omega)) ?_
      exact kk0 h g C eg (fun j hj => ig j (by omega))
    · have q1 := Int32.not_le.mp q1
      have q1 := (nI_ltI (by omega) (by omega)).mp q1
      refine mt_iload dL_areMerged_109 rfl ?_
      refine mt_aload_n dL_areMerged_111 rfl rfl ?_
      refine mt_iconst dL_areMerged_112 (v := nI 1) rfl ?_
      refine mt_iload_n dL_areMerged_113 rfl ?_
      refine mp_isub dL_areMerged_114 (v := nI q) hqe ?_
      refine mt_callV (N := mX2_many) (Rc := rX2_many) (As := [.int (nI q)]) (st := [.int (nI b)]) dL_areMerged_115 ((kX2_many hl C).good (v := .int (nI B.length)) (S' := S) (by rw [g_many (by omega), hB])) sX2_many mw_213 mKX2 rfl C.1 rfl (Nat.le_of_ble_eq_true rfl) ⟨⟨Nat.le_of_ble_eq_true rfl, Nat.le_of_ble_eq_true rfl⟩, (by simp only [rX2_many, rX2_sort, rX2_copy, rX2_join, rX2_key, rX2_stamp, rX2_merge, rX2_same, rX2_isSorted, rX2_mark, rL_areMerged]; omega), (by simp only [rX2_many, rX2_sort, rX2_copy, rX2_join, rX2_key, rX2_stamp, rX2_merge, rX2_same, rX2_isSorted, rX2_mark, rL_areMerged]; omega)⟩ (fun v2 h3 n4 c5 => ?_) (fun _ _ _ hx => hx.elim)
      obtain ⟨c5a, c5b, c5c, c5d⟩ := c5
      rw [c5a, c5b]
      show mT _ _ _ _ 118 [.ref 0, .int (nI r), .int (nI all), .ref n, .int (nI a), .int (nI b), .double 0] [.int (nI B.length), .int (nI b)] _ _ _ _
      refine mt_icmp_eq dL_areMerged_118 (tgt := 150) rfl (fun q6 => ?_) (fun q6 => ?_)
      · have q6 := (nI_eq (by omega) (by omega)).mp q6
        refine mt_iconst dL_areMerged_150 (v := nI 1) rfl ?_
        refine mt_goto dL_areMerged_151 (tgt := 155) rfl ?_
        refine mp_istore dL_areMerged_155 (ls' := [.ref 0, .int (nI r), .int (nI all), .ref n, .int (nI a), .int (nI b), .int (nI 1)]) rfl (by decide) rfl ?_
        refine mt_aload_n dL_areMerged_157 rfl rfl ?_
        refine mt_iload dL_areMerged_158 rfl ?_
        refine mt_iload dL_areMerged_160 rfl ?_
        refine mp_iadd dL_areMerged_162 (v := nI (a + b)) (nI_add _ _) ?_
        refine mt_iload dL_areMerged_163 rfl ?_
        refine mt_if_eq dL_areMerged_165 (tgt := 178) rfl (fun q7 => ?_) (fun q7 => ?_)
        · have q7 := (mI_eq0 (by omega)).mp q7
          exact absurd q7 (by decide)
        · have q7 := (not_congr (mI_eq0 (by omega))).mp q7
          refine mt_aload_n dL_areMerged_168 rfl rfl ?_
          refine mt_iload_n dL_areMerged_169 rfl ?_
          refine mt_iload dL_areMerged_170 rfl ?_
          refine mt_callV (N := mX2_stamp) (Rc := rX2_stamp) (As := [.int (nI r), .int (nI a)]) (st := [.int (nI (a + b)), .ref n]) dL_areMerged_172 ((kX2_stamp hl c5c).good (v := .int (xt A a)) (S' := S) (by rw [g_stamp (lenOk_of c5c) (by omega) (by rw [hA]; omega), hA])) sX2_stamp mw_475 mKX2 rfl c5c.1 rfl (Nat.le_of_ble_eq_true rfl) ⟨⟨Nat.le_of_ble_eq_true rfl, Nat.le_of_ble_eq_true rfl⟩, (by simp only [rX2_many, rX2_sort, rX2_copy, rX2_join, rX2_key, rX2_stamp, rX2_merge, rX2_same, rX2_isSorted, rX2_mark, rL_areMerged]; omega), (by simp only [rX2_many, rX2_sort, rX2_copy, rX2_join, rX2_key, rX2_stamp, rX2_merge, rX2_same, rX2_isSorted, rX2_mark, rL_areMerged]; omega)⟩ (fun v8 h9 n10 c11 => ?_) (fun _ _ _ hx => hx.elim)
          obtain ⟨c11a, c11b, c11c, c11d⟩ := c11
          rw [c11a, c11b]
          show mT _ _ _ _ 175 [.ref 0, .int (nI r), .int (nI all), .ref n, .int (nI a), .int (nI b), .int (nI 1)] [.int (xt A a), .int (nI (a + b)), .ref n] _ _ _ _
          refine mt_goto dL_areMerged_175 (tgt := 187) rfl ?_
          refine mp_iastore dL_areMerged_187 ((c11d (n) (by omega)).trans ((c5d (n) (by omega)).trans eg)) rfl (by omega) (by omega) (fun h12 e13 f14 => ?_)
          have Ch15 := cAt.fr2 c11c (fun j hj => f14 j (by omega))
          refine mt_iload dL_areMerged_188 rfl ?_
          refine mt_if_eq dL_areMerged_190 (tgt := 199) rfl (fun q16 => ?_) (fun q16 => ?_)
          · have q16 := (mI_eq0 (by omega)).mp q16
            exact absurd q16 (by decide)
          · have q16 := (not_congr (mI_eq0 (by omega))).mp q16
            refine mp_iinc dL_areMerged_193 rfl (v := nI (a + 1)) mI_inc (ls' := [.ref 0, .int (nI r), .int (nI all), .ref n, .int (nI (a + 1)), .int (nI b), .int (nI 1)]) rfl (by decide) rfl ?_
            refine mt_goto dL_areMerged_196 (tgt := 202) rfl ?_
            have z9 := mg_own im ig (mg_l (A := A) (B := B) (a := a) (b := b) (by omega) (Or.inl q6))
            refine mt_goto dL_areMerged_202 (tgt := 100) rfl ?_
            refine mt_drop 6 (ls' := [.ref 0, .int (nI r), .int (nI all), .ref n, .int (nI (a + 1)), .int (nI b), .double 0]) rfl ?_
            refine mt_widen (cc' := 500 + 8 * ((a + 1) + b)) (sc' := 5000 + 48 * ((a + 1) + b)) (by first | omega | (simp only [rX2_many, rX2_sort, rX2_copy, rX2_join, rX2_key, rX2_stamp, rX2_merge, rX2_same, rX2_isSorted, rX2_mark, rL_areMerged]; omega)) (by first | omega | (simp only [rX2_many, rX2_sort, rX2_copy, rX2_join, rX2_key, rX2_stamp, rX2_merge, rX2_same, rX2_isSorted, rX2_mark, rL_areMerged]; omega)) ?_
            exact ih (a + 1) b h12 (upd g (a + b) (xt A a)) (by omega) Ch15 e13 z9.1 z9.2 (by omega) (by omega)
      · have q6 := (not_congr (nI_eq (by omega) (by omega))).mp q6
        refine mt_iload dL_areMerged_121 rfl ?_
        refine mt_aload_n dL_areMerged_123 rfl rfl ?_
        refine mt_iload_n dL_areMerged_124 rfl ?_
        refine mt_callV (N := mX2_many) (Rc := rX2_many) (As := [.int (nI r)]) (st := [.int (nI a)]) dL_areMerged_125 ((kX2_many hl c5c).good (v := .int (nI A.length)) (S' := S) (by rw [g_many (by omega), hA])) sX2_many mw_213 mKX2 rfl c5c.1 rfl (Nat.le_of_ble_eq_true rfl) ⟨⟨Nat.le_of_ble_eq_true rfl, Nat.le_of_ble_eq_true rfl⟩, (by simp only [rX2_many, rX2_sort, rX2_copy, rX2_join, rX2_key, rX2_stamp, rX2_merge, rX2_same, rX2_isSorted, rX2_mark, rL_areMerged]; omega), (by simp only [rX2_many, rX2_sort, rX2_copy, rX2_join, rX2_key, rX2_stamp, rX2_merge, rX2_same, rX2_isSorted, rX2_mark, rL_areMerged]; omega)⟩ (fun v17 h18 n19 c20 => ?_) (fun _ _ _ hx => hx.elim)
        obtain ⟨c20a, c20b, c20c, c20d⟩ := c20
        rw [c20a, c20b]
        show mT _ _ _ _ 128 [.ref 0, .int (nI r), .int (nI all), .ref n, .int (nI a), .int (nI b), .double 0] [.int (nI A.length), .int (nI a)] _ _ _ _
        refine mt_icmp_ge dL_areMerged_128 (tgt := 154) rfl (fun q21 => ?_) (fun q21 => ?_)
        · have q21 := Int32.not_lt.mpr q21
          have q21 := (not_congr (nI_ltI (by omega) (by omega))).mp q21
          refine mt_iconst dL_areMerged_154 (v := nI 0) rfl ?_
          refine mp_istore dL_areMerged_155 (ls' := [.ref 0, .int (nI r), .int (nI all), .ref n, .int (nI a), .int (nI b), .int (nI 0)]) rfl (by decide) rfl ?_
          refine mt_aload_n dL_areMerged_157 rfl rfl ?_
          refine mt_iload dL_areMerged_158 rfl ?_
          refine mt_iload dL_areMerged_160 rfl ?_
          refine mp_iadd dL_areMerged_162 (v := nI (a + b)) (nI_add _ _) ?_
          refine mt_iload dL_areMerged_163 rfl ?_
          refine mt_if_eq dL_areMerged_165 (tgt := 178) rfl (fun q22 => ?_) (fun q22 => ?_)
          · have q22 := (mI_eq0 (by omega)).mp q22
            refine mt_aload_n dL_areMerged_178 rfl rfl ?_
            refine mt_iconst dL_areMerged_179 (v := nI 1) rfl ?_
            refine mt_iload_n dL_areMerged_180 rfl ?_
            refine mp_isub dL_areMerged_181 (v := nI q) hqe ?_
            refine mt_iload dL_areMerged_182 rfl ?_
            refine mt_callV (N := mX2_stamp) (Rc := rX2_stamp) (As := [.int (nI q), .int (nI b)]) (st := [.int (nI (a + b)), .ref n]) dL_areMerged_184 ((kX2_stamp hl c20c).good (v := .int (xt B b)) (S' := S) (by rw [g_stamp (lenOk_of c20c) (by omega) (by rw [hB]; omega), hB])) sX2_stamp mw_475 mKX2 rfl c20c.1 rfl (Nat.le_of_ble_eq_true rfl) ⟨⟨Nat.le_of_ble_eq_true rfl, Nat.le_of_ble_eq_true rfl⟩, (by simp only [rX2_many, rX2_sort, rX2_copy, rX2_join, rX2_key, rX2_stamp, rX2_merge, rX2_same, rX2_isSorted, rX2_mark, rL_areMerged]; omega), (by simp only [rX2_many, rX2_sort, rX2_copy, rX2_join, rX2_key, rX2_stamp, rX2_merge, rX2_same, rX2_isSorted, rX2_mark, rL_areMerged]; omega)⟩ (fun v23 h24 n25 c26 => ?_) (fun _ _ _ hx => hx.elim)
            obtain ⟨c26a, c26b, c26c, c26d⟩ := c26
            rw [c26a, c26b]
            show mT _ _ _ _ 187 [.ref 0, .int (nI r), .int (nI all), .ref n, .int (nI a), .int (nI b), .int (nI 0)] [.int (xt B b), .int (nI (a + b)), .ref n] _ _ _ _
            refine mp_iastore dL_areMerged_187 ((c26d (n) (by omega)).trans ((c20d (n) (by omega)).trans ((c5d (n) (by omega)).trans eg))) rfl (by omega) (by omega) (fun h27 e28 f29 => ?_)
            have Ch30 := cAt.fr2 c26c (fun j hj => f29 j (by omega))
            refine mt_iload dL_areMerged_188 rfl ?_
            refine mt_if_eq dL_areMerged_190 (tgt := 199) rfl (fun q31 => ?_) (fun q31 => ?_)
            · have q31 := (mI_eq0 (by omega)).mp q31
              refine mp_iinc dL_areMerged_199 rfl (v := nI (b + 1)) mI_inc (ls' := [.ref 0, .int (nI r), .int (nI all), .ref n, .int (nI a), .int (nI (b + 1)), .int (nI 0)]) rfl (by decide) rfl ?_
              have z9 := mg_oth im ig (mg_r (A := A) (B := B) (a := a) (b := b) (by omega) (Or.inl (by omega)))
              refine mt_goto dL_areMerged_202 (tgt := 100) rfl ?_
              refine mt_drop 6 (ls' := [.ref 0, .int (nI r), .int (nI all), .ref n, .int (nI a), .int (nI (b + 1)), .double 0]) rfl ?_
              refine mt_widen (cc' := 500 + 8 * (a + (b + 1))) (sc' := 5000 + 48 * (a + (b + 1))) (by first | omega | (simp only [rX2_many, rX2_sort, rX2_copy, rX2_join, rX2_key, rX2_stamp, rX2_merge, rX2_same, rX2_isSorted, rX2_mark, rL_areMerged]; omega)) (by first | omega | (simp only [rX2_many, rX2_sort, rX2_copy, rX2_join, rX2_key, rX2_stamp, rX2_merge, rX2_same, rX2_isSorted, rX2_mark, rL_areMerged]; omega)) ?_
              exact ih a (b + 1) h27 (upd g (a + b) (xt B b)) (by omega) Ch30 e28 z9.1 z9.2 (by omega) (by omega)
            · have q31 := (not_congr (mI_eq0 (by omega))).mp q31
              exact absurd q31 (by decide)
          · have q22 := (not_congr (mI_eq0 (by omega))).mp q22
            exact absurd q22 (by decide)
        · have q21 := Int32.not_le.mp q21
          have q21 := (nI_ltI (by omega) (by omega)).mp q21
          refine mt_aload_n dL_areMerged_131 rfl rfl ?_
          refine mt_iload_n dL_areMerged_132 rfl ?_
          refine mt_iload dL_areMerged_133 rfl ?_
          refine mt_callV (N := mX2_key) (Rc := rX2_key) (As := [.int (nI r), .int (nI a)]) (st := []) dL_areMerged_135 ((kX2_key hl c20c).good (v := .int (xk A a)) (S' := S) (by rw [g_key (lenOk_of c20c) (by omega) (by rw [hA]; omega), hA])) sX2_key mw_468 mKX2 rfl c20c.1 rfl (Nat.le_of_ble_eq_true rfl) ⟨⟨Nat.le_of_ble_eq_true rfl, Nat.le_of_ble_eq_true rfl⟩, (by simp only [rX2_many, rX2_sort, rX2_copy, rX2_join, rX2_key, rX2_stamp, rX2_merge, rX2_same, rX2_isSorted, rX2_mark, rL_areMerged]; omega), (by simp only [rX2_many, rX2_sort, rX2_copy, rX2_join, rX2_key, rX2_stamp, rX2_merge, rX2_same, rX2_isSorted, rX2_mark, rL_areMerged]; omega)⟩ (fun v32 h33 n34 c35 => ?_) (fun _ _ _ hx => hx.elim)
          obtain ⟨c35a, c35b, c35c, c35d⟩ := c35
          rw [c35a, c35b]
          show mT _ _ _ _ 138 [.ref 0, .int (nI r), .int (nI all), .ref n, .int (nI a), .int (nI b), .double 0] [.int (xk A a)] _ _ _ _
          refine mt_aload_n dL_areMerged_138 rfl rfl ?_
          refine mt_iconst dL_areMerged_139 (v := nI 1) rfl ?_
          refine mt_iload_n dL_areMerged_140 rfl ?_
          refine mp_isub dL_areMerged_141 (v := nI q) hqe ?_
          refine mt_iload dL_areMerged_142 rfl ?_
          refine mt_callV (N := mX2_key) (Rc := rX2_key) (As := [.int (nI q), .int (nI b)]) (st := [.int (xk A a)]) dL_areMerged_144 ((kX2_key hl c35c).good (v := .int (xk B b)) (S' := S) (by rw [g_key (lenOk_of c35c) (by omega) (by rw [hB]; omega), hB])) sX2_key mw_468 mKX2 rfl c35c.1 rfl (Nat.le_of_ble_eq_true rfl) ⟨⟨Nat.le_of_ble_eq_true rfl, Nat.le_of_ble_eq_true rfl⟩, (by simp only [rX2_many, rX2_sort, rX2_copy, rX2_join, rX2_key, rX2_stamp, rX2_merge, rX2_same, rX2_isSorted, rX2_mark, rL_areMerged]; omega), (by simp only [rX2_many, rX2_sort, rX2_copy, rX2_join, rX2_key, rX2_stamp, rX2_merge, rX2_same, rX2_isSorted, rX2_mark, rL_areMerged]; omega)⟩ (fun v36 h37 n38 c39 => ?_) (fun _ _ _ hx => hx.elim)
          obtain ⟨c39a, c39b, c39c, c39d⟩ := c39
          rw [c39a, c39b]
          show mT _ _ _ _ 147 [.ref 0, .int (nI r), .int (nI all), .ref n, .int (nI a), .int (nI b), .double 0] [.int (xk B b), .int (xk A a)] _ _ _ _
          refine mt_icmp_gt dL_areMerged_147 (tgt := 154) rfl (fun q40 => ?_) (fun q40 => ?_)
          · refine mt_iconst dL_areMerged_154 (v := nI 0) rfl ?_
            refine mp_istore dL_areMerged_155 (ls' := [.ref 0, .int (nI r), .int (nI all), .ref n, .int (nI a), .int (nI b), .int (nI 0)]) rfl (by decide) rfl ?_
            refine mt_aload_n dL_areMerged_157 rfl rfl ?_
            refine mt_iload dL_areMerged_158 rfl ?_
            refine mt_iload dL_areMerged_160 rfl ?_
            refine mp_iadd dL_areMerged_162 (v := nI (a + b)) (nI_add _ _) ?_
            refine mt_iload dL_areMerged_163 rfl ?_
            refine mt_if_eq dL_areMerged_165 (tgt := 178) rfl (fun q41 => ?_) (fun q41 => ?_)
            · have q41 := (mI_eq0 (by omega)).mp q41
              refine mt_aload_n dL_areMerged_178 rfl rfl ?_
              refine mt_iconst dL_areMerged_179 (v := nI 1) rfl ?_
              refine mt_iload_n dL_areMerged_180 rfl ?_
              refine mp_isub dL_areMerged_181 (v := nI q) hqe ?_
              refine mt_iload dL_areMerged_182 rfl ?_
              refine mt_callV (N := mX2_stamp) (Rc := rX2_stamp) (As := [.int (nI q), .int (nI b)]) (st := [.int (nI (a + b)), .ref n]) dL_areMerged_184 ((kX2_stamp hl c39c).good (v := .int (xt B b)) (S' := S) (by rw [g_stamp (lenOk_of c39c) (by omega) (by rw [hB]; omega), hB])) sX2_stamp mw_475 mKX2 rfl c39c.1 rfl (Nat.le_of_ble_eq_true rfl) ⟨⟨Nat.le_of_ble_eq_true rfl, Nat.le_of_ble_eq_true rfl⟩, (by simp only [rX2_many, rX2_sort, rX2_copy, rX2_join, rX2_key, rX2_stamp, rX2_merge, rX2_same, rX2_isSorted, rX2_mark, rL_areMerged]; omega), (by simp only [rX2_many, rX2_sort, rX2_copy, rX2_join, rX2_key, rX2_stamp, rX2_merge, rX2_same, rX2_isSorted, rX2_mark, rL_areMerged]; omega)⟩ (fun v42 h43 n44 c45 => ?_) (fun _ _ _ hx => hx.elim)
              obtain ⟨c45a, c45b, c45c, c45d⟩ := c45
              rw [c45a, c45b]
              show mT _ _ _ _ 187 [.ref 0, .int (nI r), .int (nI all), .ref n, .int (nI a), .int (nI b), .int (nI 0)] [.int (xt B b), .int (nI (a + b)), .ref n] _ _ _ _
              refine mp_iastore dL_areMerged_187 ((c45d (n) (by omega)).trans ((c39d (n) (by omega)).trans ((c35d (n) (by omega)).trans ((c20d (n) (by omega)).trans ((c5d (n) (by omega)).trans eg))))) rfl (by omega) (by omega) (fun h46 e47 f48 => ?_)
              have Ch49 := cAt.fr2 c45c (fun j hj => f48 j (by omega))
              refine mt_iload dL_areMerged_188 rfl ?_
              refine mt_if_eq dL_areMerged_190 (tgt := 199) rfl (fun q50 => ?_) (fun q50 => ?_)
              · have q50 := (mI_eq0 (by omega)).mp q50
                refine mp_iinc dL_areMerged_199 rfl (v := nI (b + 1)) mI_inc (ls' := [.ref 0, .int (nI r), .int (nI all), .ref n, .int (nI a), .int (nI (b + 1)), .int (nI 0)]) rfl (by decide) rfl ?_
                have z9 := mg_oth im ig (mg_r (A := A) (B := B) (a := a) (b := b) (by omega) (Or.inr ⟨by omega, q40⟩))
                refine mt_goto dL_areMerged_202 (tgt := 100) rfl ?_
                refine mt_drop 6 (ls' := [.ref 0, .int (nI r), .int (nI all), .ref n, .int (nI a), .int (nI (b + 1)), .double 0]) rfl ?_
                refine mt_widen (cc' := 500 + 8 * (a + (b + 1))) (sc' := 5000 + 48 * (a + (b + 1))) (by first | omega | (simp only [rX2_many, rX2_sort, rX2_copy, rX2_join, rX2_key, rX2_stamp, rX2_merge, rX2_same, rX2_isSorted, rX2_mark, rL_areMerged]; omega)) (by first | omega | (simp only [rX2_many, rX2_sort, rX2_copy, rX2_join, rX2_key, rX2_stamp, rX2_merge, rX2_same, rX2_isSorted, rX2_mark, rL_areMerged]; omega)) ?_
                exact ih a (b + 1) h46 (upd g (a + b) (xt B b)) (by omega) Ch49 e47 z9.1 z9.2 (by omega) (by omega)
              · have q50 := (not_congr (mI_eq0 (by omega))).mp q50
                exact absurd q50 (by decide)
            · have q41 := (not_congr (mI_eq0 (by omega))).mp q41
              exact absurd q41 (by decide)
          · refine mt_iconst dL_areMerged_150 (v := nI 1) rfl ?_
            refine mt_goto dL_areMerged_151 (tgt := 155) rfl ?_
            refine mp_istore dL_areMerged_155 (ls' := [.ref 0, .int (nI r), .int (nI all), .ref n, .int (nI a), .int (nI b), .int (nI 1)]) rfl (by decide) rfl ?_
            refine mt_aload_n dL_areMerged_157 rfl rfl ?_
            refine mt_iload dL_areMerged_158 rfl ?_
            refine mt_iload dL_areMerged_160 rfl ?_
            refine mp_iadd dL_areMerged_162 (v := nI (a + b)) (nI_add _ _) ?_
            refine mt_iload dL_areMerged_163 rfl ?_
            refine mt_if_eq dL_areMerged_165 (tgt := 178) rfl (fun q51 => ?_) (fun q51 => ?_)
            · have q51 := (mI_eq0 (by omega)).mp q51
              exact absurd q51 (by decide)
            · have q51 := (not_congr (mI_eq0 (by omega))).mp q51
              refine mt_aload_n dL_areMerged_168 rfl rfl ?_
              refine mt_iload_n dL_areMerged_169 rfl ?_
              refine mt_iload dL_areMerged_170 rfl ?_
              refine mt_callV (N := mX2_stamp) (Rc := rX2_stamp) (As := [.int (nI r), .int (nI a)]) (st := [.int (nI (a + b)), .ref n]) dL_areMerged_172 ((kX2_stamp hl c39c).good (v := .int (xt A a)) (S' := S) (by rw [g_stamp (lenOk_of c39c) (by omega) (by rw [hA]; omega), hA])) sX2_stamp mw_475 mKX2 rfl c39c.1 rfl (Nat.le_of_ble_eq_true rfl) ⟨⟨Nat.le_of_ble_eq_true rfl, Nat.le_of_ble_eq_true rfl⟩, (by simp only [rX2_many, rX2_sort, rX2_copy, rX2_join, rX2_key, rX2_stamp, rX2_merge, rX2_same, rX2_isSorted, rX2_mark, rL_areMerged]; omega), (by simp only [rX2_many, rX2_sort, rX2_copy, rX2_join, rX2_key, rX2_stamp, rX2_merge, rX2_same, rX2_isSorted, rX2_mark, rL_areMerged]; omega)⟩ (fun v52 h53 n54 c55 => ?_) (fun _ _ _ hx => hx.elim)
              obtain ⟨c55a, c55b, c55c, c55d⟩ := c55
              rw [c55a, c55b]
              show mT _ _ _ _ 175 [.ref 0, .int (nI r), .int (nI all), .ref n, .int (nI a), .int (nI b), .int (nI 1)] [.int (xt A a), .int (nI (a + b)), .ref n] _ _ _ _
              refine mt_goto dL_areMerged_175 (tgt := 187) rfl ?_
              refine mp_iastore dL_areMerged_187 ((c55d (n) (by omega)).trans ((c39d (n) (by omega)).trans ((c35d (n) (by omega)).trans ((c20d (n) (by omega)).trans ((c5d (n) (by omega)).trans eg))))) rfl (by omega) (by omega) (fun h56 e57 f58 => ?_)
              have Ch59 := cAt.fr2 c55c (fun j hj => f58 j (by omega))
              refine mt_iload dL_areMerged_188 rfl ?_
              refine mt_if_eq dL_areMerged_190 (tgt := 199) rfl (fun q60 => ?_) (fun q60 => ?_)
              · have q60 := (mI_eq0 (by omega)).mp q60
                exact absurd q60 (by decide)
              · have q60 := (not_congr (mI_eq0 (by omega))).mp q60
                refine mp_iinc dL_areMerged_193 rfl (v := nI (a + 1)) mI_inc (ls' := [.ref 0, .int (nI r), .int (nI all), .ref n, .int (nI (a + 1)), .int (nI b), .int (nI 1)]) rfl (by decide) rfl ?_
                refine mt_goto dL_areMerged_196 (tgt := 202) rfl ?_
                have z9 := mg_own im ig (mg_l (A := A) (B := B) (a := a) (b := b) (by omega) (Or.inr ⟨by omega, q40⟩))
                refine mt_goto dL_areMerged_202 (tgt := 100) rfl ?_
                refine mt_drop 6 (ls' := [.ref 0, .int (nI r), .int (nI all), .ref n, .int (nI (a + 1)), .int (nI b), .double 0]) rfl ?_
                refine mt_widen (cc' := 500 + 8 * ((a + 1) + b)) (sc' := 5000 + 48 * ((a + 1) + b)) (by first | omega | (simp only [rX2_many, rX2_sort, rX2_copy, rX2_join, rX2_key, rX2_stamp, rX2_merge, rX2_same, rX2_isSorted, rX2_mark, rL_areMerged]; omega)) (by first | omega | (simp only [rX2_many, rX2_sort, rX2_copy, rX2_join, rX2_key, rX2_stamp, rX2_merge, rX2_same, rX2_isSorted, rX2_mark, rL_areMerged]; omega)) ?_
                exact ih (a + 1) b h56 (upd g (a + b) (xt A a)) (by omega) Ch59 e57 z9.1 z9.2 (by omega) (by omega)
set_option maxRecDepth 100000 in
set_option maxHeartbeats 2000000 in
theorem tL_areMerged_239 {l : Launch} {K : mK} {n nz r all : Nat} {A B : List mIt} {S : cS} {g : Nat → Int32} (hl : l.stackTraces = false) (hr : r < 2) (hn : 27 ≤ n) (hall : all = A.length + B.length) (ha9 : all ≤ 150) (hM : S.1 r = mg A B 0 0) (ig : ∀ j, j < all → g j = xt (mg A B 0 0) j) (kk0 : ∀ (h : mH), (cAt h S) → mT l mL_areMerged rL_areMerged K 267 [.ref 0, .int (nI r), .int (nI all), .ref n, .double 0, .double 0, .double 0] [] h nz 2400 15000) : ∀ (N0 : Nat) (k : Nat) (h : mH), (all - k) < N0 → (cAt h S) → (h n = .inl (0, all, g)) → (k ≤ all) → mT l mL_areMerged rL_areMerged K 239 [.ref 0, .int (nI r), .int (nI all), .ref n, .double 0, .double 0, .int (nI k)] [] h nz (2000 + 2 * k) (13000 + 12 * k) := by
  intro N0
  induction N0 with
  | zero => intro k h hm; exact absurd hm (Nat.not_lt_zero _)
  | succ N0 ih =>
    intro k h hm C eg hk
    have hml : (mg A B 0 0).length = all := by rw [mg_len, hall]
    refine mt_iload dL_areMerged_239 rfl ?_
    refine mt_iload_n dL_areMerged_241 rfl ?_
    refine mt_icmp_ge dL_areMerged_242 (tgt := 267) rfl (fun q1 => ?_) (fun q1 => ?_)
    · have q1 := Int32.not_lt.mpr q1
      have q1 := (not_congr (nI_ltI (by omega) (by omega))).mp q1
      refine mt_drop 6 (ls' := [.ref 0, .int (nI r), .int (nI all), .ref n, .double 0, .double 0, .double 0]) rfl ?_
      refine mt_widen (cc' := 2400) (sc' := 15000) (by first | omega | (simp only [rX2_many, rX2_sort, rX2_copy, rX2_join, rX2_key, rX2_stamp, rX2_merge, rX2_same, rX2_isSorted, rX2_mark, rL_areMerged]; omega)) (by first | omega | (simp only [rX2_many, rX2_sort, rX2_copy, rX2_join, rX2_key, rX2_stamp, rX2_merge, rX2_same, rX2_isSorted, rX2_mark, rL_areMerged]; omega)) ?_
      exact kk0 h C
    · have q1 := Int32.not_le.mp q1
      have q1 := (nI_ltI (by omega) (by omega)).mp q1
      have hk9 : k < all := by omega
      refine mt_aload_n dL_areMerged_245 rfl rfl ?_
      refine mt_iload_n dL_areMerged_246 rfl ?_
      refine mt_iload dL_areMerged_247 rfl ?_
      refine mt_callV (N := mX2_stamp) (Rc := rX2_stamp) (As := [.int (nI r), .int (nI k)]) (st := []) dL_areMerged_249 ((kX2_stamp hl C).good (v := .int (xt (mg A B 0 0) k)) (S' := S) (by rw [g_stamp (lenOk_of C) (by omega) (by rw [hM]; omega), hM])) sX2_stamp mw_475 mKX2 rfl C.1 rfl (Nat.le_of_ble_eq_true rfl) ⟨⟨Nat.le_of_ble_eq_true rfl, Nat.le_of_ble_eq_true rfl⟩, (by simp only [rX2_many, rX2_sort, rX2_copy, rX2_join, rX2_key, rX2_stamp, rX2_merge, rX2_same, rX2_isSorted, rX2_mark, rL_areMerged]; omega), (by simp only [rX2_many, rX2_sort, rX2_copy, rX2_join, rX2_key, rX2_stamp, rX2_merge, rX2_same, rX2_isSorted, rX2_mark, rL_areMerged]; omega)⟩ (fun v2 h3 n4 c5 => ?_) (fun _ _ _ hx => hx.elim)
      obtain ⟨c5a, c5b, c5c, c5d⟩ := c5
      rw [c5a, c5b]
      show mT _ _ _ _ 252 [.ref 0, .int (nI r), .int (nI all), .ref n, .double 0, .double 0, .int (nI k)] [.int (xt (mg A B 0 0) k)] _ _ _ _
      refine mt_aload_n dL_areMerged_252 rfl rfl ?_
      refine mt_iload dL_areMerged_253 rfl ?_
      refine mp_iaload dL_areMerged_255 ((c5d (n) (by omega)).trans eg) rfl (by omega) (by omega) (v := g k) rfl ?_
      refine mt_icmp_eq dL_areMerged_256 (tgt := 261) rfl (fun q9 => ?_) (fun q9 => absurd q9 (fun z => z (ig k hk9).symm))
      refine mp_iinc dL_areMerged_261 rfl (v := nI (k + 1)) mI_inc (ls' := [.ref 0, .int (nI r), .int (nI all), .ref n, .double 0, .double 0, .int (nI (k + 1))]) rfl (by decide) rfl ?_
      refine mt_goto dL_areMerged_264 (tgt := 239) rfl ?_
      refine mt_widen (cc' := 2000 + 2 * (k + 1)) (sc' := 13000 + 12 * (k + 1)) (by first | omega | (simp only [rX2_many, rX2_sort, rX2_copy, rX2_join, rX2_key, rX2_stamp, rX2_merge, rX2_same, rX2_isSorted, rX2_mark, rL_areMerged]; omega)) (by first | omega | (simp only [rX2_many, rX2_sort, rX2_copy, rX2_join, rX2_key, rX2_stamp, rX2_merge, rX2_same, rX2_isSorted, rX2_mark, rL_areMerged]; omega)) ?_
      exact ih (k + 1) h3 (by omega) c5c ((c5d (n) (by omega)).trans eg) (by omega)
set_option maxRecDepth 100000 in
set_option maxHeartbeats 2000000 in
theorem kL_areMerged_0 {l : Launch} (hl : l.stackTraces = false) {h : mH} {n : Nat} {S : cS} (C : cAt h S) (hn : 27 ≤ n) : mC l mL_areMerged rL_areMerged [.ref 0, .int (nI 0)] h n (fun v h' n' => v = some (.int (nI 1)) ∧ n ≤ n' ∧ ∃ S', cAt h' S') (mNX) := by
  obtain ⟨A0, hA0⟩ : ∃ z, S.1 0 = z := ⟨_, rfl⟩
  obtain ⟨B0, hB0⟩ : ∃ z, S.1 1 = z := ⟨_, rfl⟩
  have hA3 : A0.length ≤ 320 := by rw [← hA0]; exact (lenOk_of C).le (by decide)
  have hB3 : B0.length ≤ 320 := by rw [← hB0]; exact (lenOk_of C).le (by decide)
  obtain ⟨c1, hc1, ec1⟩ := lf_others (xs := A0) (ys := (msort A0).1) hA3
  obtain ⟨c2, hc2, ec2⟩ := lf_others (xs := B0) (ys := (msort B0).1) hB3
  refine mm_enter hl (by decide +kernel) rfl rfl rfl (Nat.le_of_ble_eq_true rfl) ?_
  show mT _ _ _ _ 0 [.ref 0, .int (nI 0), .double 0, .double 0, .double 0, .double 0, .double 0] [] _ _ 0 0
  refine mt_aload_n dL_areMerged_0 rfl rfl ?_
  refine mt_iload_n dL_areMerged_1 rfl ?_
  refine mt_callV (N := mX2_many) (Rc := rX2_many) (As := [.int (nI 0)]) (st := []) dL_areMerged_2 ((kX2_many hl C).good (v := .int (nI A0.length)) (S' := S) (by rw [g_many (by decide), hA0])) sX2_many mw_213 mKX2 rfl C.1 rfl (Nat.le_of_ble_eq_true rfl) ⟨⟨Nat.le_of_ble_eq_true rfl, Nat.le_of_ble_eq_true rfl⟩, (by simp only [rX2_many, rX2_sort, rX2_copy, rX2_join, rX2_key, rX2_stamp, rX2_merge, rX2_same, rX2_isSorted, rX2_mark, rL_areMerged]; omega), (by simp only [rX2_many, rX2_sort, rX2_copy, rX2_join, rX2_key, rX2_stamp, rX2_merge, rX2_same, rX2_isSorted, rX2_mark, rL_areMerged]; omega)⟩ (fun v1 h2 n3 c4 => ?_) (fun _ _ _ hx => hx.elim)
  obtain ⟨c4a, c4b, c4c, c4d⟩ := c4
  rw [c4a, c4b]
  show mT _ _ _ _ 5 [.ref 0, .int (nI 0), .double 0, .double 0, .double 0, .double 0, .double 0] [.int (nI A0.length)] _ _ _ _
  refine mt_aload_n dL_areMerged_5 rfl rfl ?_
  refine mt_iconst dL_areMerged_6 (v := nI 1) rfl ?_
  refine mt_iload_n dL_areMerged_7 rfl ?_
  refine mp_isub dL_areMerged_8 (v := nI 1) (by decide) ?_
  refine mt_callV (N := mX2_many) (Rc := rX2_many) (As := [.int (nI 1)]) (st := [.int (nI A0.length)]) dL_areMerged_9 ((kX2_many hl c4c).good (v := .int (nI B0.length)) (S' := S) (by rw [g_many (by decide), hB0])) sX2_many mw_213 mKX2 rfl c4c.1 rfl (Nat.le_of_ble_eq_true rfl) ⟨⟨Nat.le_of_ble_eq_true rfl, Nat.le_of_ble_eq_true rfl⟩, (by simp only [rX2_many, rX2_sort, rX2_copy, rX2_join, rX2_key, rX2_stamp, rX2_merge, rX2_same, rX2_isSorted, rX2_mark, rL_areMerged]; omega), (by simp only [rX2_many, rX2_sort, rX2_copy, rX2_join, rX2_key, rX2_stamp, rX2_merge, rX2_same, rX2_isSorted, rX2_mark, rL_areMerged]; omega)⟩ (fun v5 h6 n7 c8 => ?_) (fun _ _ _ hx => hx.elim)
  obtain ⟨c8a, c8b, c8c, c8d⟩ := c8
  rw [c8a, c8b]
  show mT _ _ _ _ 12 [.ref 0, .int (nI 0), .double 0, .double 0, .double 0, .double 0, .double 0] [.int (nI B0.length), .int (nI A0.length)] _ _ _ _
  refine mp_iadd dL_areMerged_12 (v := nI (A0.length + B0.length)) (nI_add _ _) ?_
  refine mp_istore_n dL_areMerged_13 (ls' := [.ref 0, .int (nI 0), .int (nI (A0.length + B0.length)), .double 0, .double 0, .double 0, .double 0]) rfl (by decide) rfl ?_
  refine mt_iload_n dL_areMerged_14 rfl ?_
  refine mt_sipush dL_areMerged_15 (v := nI 150) (by decide) ?_
  refine mt_icmp_gt dL_areMerged_18 (tgt := 37) rfl (fun q9 => ?_) (fun q9 => ?_)
  · have q9 := (nI_ltI (by omega) (by omega)).mp q9
    refine mt_iload_n dL_areMerged_37 rfl ?_
    refine mt_sipush dL_areMerged_38 (v := nI 150) (by decide) ?_
    refine mt_icmp_le dL_areMerged_41 (tgt := 48) rfl (fun q10 => ?_) (fun q10 => ?_)
    · have q10 := Int32.not_lt.mpr q10
      have q10 := (not_congr (nI_ltI (by omega) (by omega))).mp q10
      exfalso
      omega
    · have q10 := Int32.not_le.mp q10
      have q10 := (nI_ltI (by omega) (by omega)).mp q10
      refine mt_iconst dL_areMerged_44 (v := nI 1) rfl ?_
      refine mt_goto dL_areMerged_45 (tgt := 49) rfl ?_
      refine mt_ireturn dL_areMerged_49 rfl rfl (by simp only [rX2_many, rX2_sort, rX2_copy, rX2_join, rX2_key, rX2_stamp, rX2_merge, rX2_same, rX2_isSorted, rX2_mark, rL_areMerged]; omega) (by simp only [rX2_many, rX2_sort, rX2_copy, rX2_join, rX2_key, rX2_stamp, rX2_merge, rX2_same, rX2_isSorted, rX2_mark, rL_areMerged]; omega) ?_
      exact ⟨by first | rfl | (rw [if_pos]; rfl), by omega, _, c8c⟩
  · have q9 := (not_congr (nI_ltI (by omega) (by omega))).mp q9
    refine mt_aload_n dL_areMerged_21 rfl rfl ?_
    refine mt_iconst dL_areMerged_22 (v := nI 0) rfl ?_
    refine mt_callV (N := mX2_sort) (Rc := rX2_sort) (As := [.int (nI 0)]) (st := []) dL_areMerged_23 ((kX2_sort hl c8c).good (v := .int (nI c1)) (S' := cAct (cSet S 0 ((msort A0).1))) (by rw [g_sort (by decide), hA0, ec1])) sX2_sort mw_429 mKX2 rfl c8c.1 rfl (Nat.le_of_ble_eq_true rfl) ⟨⟨Nat.le_of_ble_eq_true rfl, Nat.le_of_ble_eq_true rfl⟩, (by simp only [rX2_many, rX2_sort, rX2_copy, rX2_join, rX2_key, rX2_stamp, rX2_merge, rX2_same, rX2_isSorted, rX2_mark, rL_areMerged]; omega), (by simp only [rX2_many, rX2_sort, rX2_copy, rX2_join, rX2_key, rX2_stamp, rX2_merge, rX2_same, rX2_isSorted, rX2_mark, rL_areMerged]; omega)⟩ (fun v11 h12 n13 c14 => ?_) (fun _ _ _ hx => hx.elim)
    obtain ⟨c14a, c14b, c14c, c14d⟩ := c14
    rw [c14a, c14b]
    obtain ⟨S_15, eS_15⟩ : ∃ z, z = cAct (cSet S 0 ((msort A0).1)) := ⟨_, rfl⟩
    rw [← eS_15] at c14c
    have xS_15_0 : S_15.1 0 = (msort A0).1 := by rw [eS_15]; exact cAct_at
    have xS_15_1 : S_15.1 1 = B0 := by rw [eS_15]; exact (cAct_ne (by decide)).trans hB0
    show mT _ _ _ _ 26 [.ref 0, .int (nI 0), .int (nI (A0.length + B0.length)), .double 0, .double 0, .double 0, .double 0] [.int (nI c1)] _ _ _ _
    refine mt_if_lt dL_areMerged_26 (tgt := 37) rfl (fun q16 => ?_) (fun q16 => ?_)
    · have q16 := (mI_lt0 (by omega)).mp q16
      exact q16.elim
    · have q16 := (not_congr (mI_lt0 (by omega))).mp q16
      refine mt_aload_n dL_areMerged_29 rfl rfl ?_
      refine mt_iconst dL_areMerged_30 (v := nI 1) rfl ?_
      refine mt_callV (N := mX2_sort) (Rc := rX2_sort) (As := [.int (nI 1)]) (st := []) dL_areMerged_31 ((kX2_sort hl c14c).good (v := .int (nI c2)) (S' := cAct (cSet S_15 1 ((msort B0).1))) (by rw [g_sort (by decide), xS_15_1, ec2])) sX2_sort mw_429 mKX2 rfl c14c.1 rfl (Nat.le_of_ble_eq_true rfl) ⟨⟨Nat.le_of_ble_eq_true rfl, Nat.le_of_ble_eq_true rfl⟩, (by simp only [rX2_many, rX2_sort, rX2_copy, rX2_join, rX2_key, rX2_stamp, rX2_merge, rX2_same, rX2_isSorted, rX2_mark, rL_areMerged]; omega), (by simp only [rX2_many, rX2_sort, rX2_copy, rX2_join, rX2_key, rX2_stamp, rX2_merge, rX2_same, rX2_isSorted, rX2_mark, rL_areMerged]; omega)⟩ (fun v17 h18 n19 c20 => ?_) (fun _ _ _ hx => hx.elim)
      obtain ⟨c20a, c20b, c20c, c20d⟩ := c20
      rw [c20a, c20b]
      obtain ⟨S_21, eS_21⟩ : ∃ z, z = cAct (cSet S_15 1 ((msort B0).1)) := ⟨_, rfl⟩
      rw [← eS_21] at c20c
      have xS_21_1 : S_21.1 1 = (msort B0).1 := by rw [eS_21]; exact cAct_at
      have xS_21_0 : S_21.1 0 = (msort A0).1 := by rw [eS_21]; exact (cAct_ne (by decide)).trans xS_15_0
      show mT _ _ _ _ 34 [.ref 0, .int (nI 0), .int (nI (A0.length + B0.length)), .double 0, .double 0, .double 0, .double 0] [.int (nI c2)] _ _ _ _
      refine mt_if_ge dL_areMerged_34 (tgt := 50) rfl (fun q22 => ?_) (fun q22 => ?_)
      · have q22 := Int32.not_lt.mpr q22
        have q22 := (not_congr (mI_lt0 (by omega))).mp q22
        obtain ⟨A, eA⟩ : ∃ z, z = (msort A0).1 := ⟨_, rfl⟩
        rw [← eA] at xS_21_0
        obtain ⟨B, eB⟩ : ∃ z, z = (msort B0).1 := ⟨_, rfl⟩
        rw [← eB] at xS_21_1
        have kA : kSorted A := by rw [eA]; exact lf_ksorted
        have kB : kSorted B := by rw [eB]; exact lf_ksorted
        have lA : A.length = A0.length := by rw [eA]; exact msort_len
        have lB : B.length = B0.length := by rw [eB]; exact msort_len
        obtain ⟨all, hall⟩ : ∃ z, z = A.length + B.length := ⟨_, rfl⟩
        have e0 : A0.length + B0.length = all := by omega
        rw [e0]
        have ha9 : all ≤ 150 := by omega
        refine mt_aload_n dL_areMerged_50 rfl rfl ?_
        refine mt_iconst dL_areMerged_51 (v := nI 1) rfl ?_
        refine mt_iload_n dL_areMerged_52 rfl ?_
        refine mp_isub dL_areMerged_53 (v := nI 1) (by decide) ?_
        refine mt_iconst dL_areMerged_54 (v := nI 2) rfl ?_
        refine mt_callV (N := mX2_copy) (Rc := rX2_copy) (As := [.int (nI 1), .int (nI 2)]) (st := []) dL_areMerged_55 ((kX2_copy hl c20c).good (v := .int (nI B.length)) (S' := cAct (cGiv (cSet S_21 2 (bringL B (decide (2 < 2)) (decide (1 < 2)) ([]) S_21.2.1).1) (bringL B (decide (2 < 2)) (decide (1 < 2)) ([]) S_21.2.1).2)) (by rw [g_copyY (by decide) (by decide) (by decide) (by rw [xS_21_1]; have := @rroom_ge 2; omega), xS_21_1])) sX2_copy mw_405 mKX2 rfl c20c.1 rfl (Nat.le_of_ble_eq_true rfl) ⟨⟨Nat.le_of_ble_eq_true rfl, Nat.le_of_ble_eq_true rfl⟩, (by simp only [rX2_many, rX2_sort, rX2_copy, rX2_join, rX2_key, rX2_stamp, rX2_merge, rX2_same, rX2_isSorted, rX2_mark, rL_areMerged]; omega), (by simp only [rX2_many, rX2_sort, rX2_copy, rX2_join, rX2_key, rX2_stamp, rX2_merge, rX2_same, rX2_isSorted, rX2_mark, rL_areMerged]; omega)⟩ (fun v23 h24 n25 c26 => ?_) (fun _ _ _ hx => hx.elim)
        obtain ⟨c26a, c26b, c26c, c26d⟩ := c26
        rw [c26a, c26b]
        obtain ⟨S_27, eS_27⟩ : ∃ z, z = cAct (cGiv (cSet S_21 2 (bringL B (decide (2 < 2)) (decide (1 < 2)) ([]) S_21.2.1).1) (bringL B (decide (2 < 2)) (decide (1 < 2)) ([]) S_21.2.1).2) := ⟨_, rfl⟩
        rw [← eS_27] at c26c
        have xS_27_2 : S_27.1 2 = (bringL B (decide (2 < 2)) (decide (1 < 2)) ([]) S_21.2.1).1 := by rw [eS_27]; exact cGiv_at
        have xS_27_1 : S_27.1 1 = B := by rw [eS_27]; exact (cGiv_ne (by decide)).trans xS_21_1
        have xS_27_0 : S_27.1 0 = A := by rw [eS_27]; exact (cGiv_ne (by decide)).trans xS_21_0
        show mT _ _ _ _ 58 [.ref 0, .int (nI 0), .int (nI all), .double 0, .double 0, .double 0, .double 0] [.int (nI B.length)] _ _ _ _
        refine mt_if_lt dL_areMerged_58 (tgt := 88) rfl (fun q28 => ?_) (fun q28 => ?_)
        · have q28 := (mI_lt0 (by omega)).mp q28
          exact q28.elim
        · have q28 := (not_congr (mI_lt0 (by omega))).mp q28
          obtain ⟨G2, eG2⟩ : ∃ z, z = (bringL B (decide (2 < 2)) (decide (1 < 2)) ([]) S_21.2.1).1 := ⟨_, rfl⟩
          rw [← eG2] at xS_27_2
          have k2 : ks G2 = ks B := by rw [eG2, lf_bringk]; rfl
          have l2 : G2.length = B.length := by rw [← @ks_len G2, k2, ks_len]
          refine mt_aload_n dL_areMerged_61 rfl rfl ?_
          refine mt_iload_n dL_areMerged_62 rfl ?_
          refine mt_iconst dL_areMerged_63 (v := nI 3) rfl ?_
          refine mt_callV (N := mX2_copy) (Rc := rX2_copy) (As := [.int (nI 0), .int (nI 3)]) (st := []) dL_areMerged_64 ((kX2_copy hl c26c).good (v := .int (nI A.length)) (S' := cAct (cGiv (cSet S_27 3 (bringL A (decide (3 < 2)) (decide (0 < 2)) ([]) S_27.2.1).1) (bringL A (decide (3 < 2)) (decide (0 < 2)) ([]) S_27.2.1).2)) (by rw [g_copyY (by decide) (by decide) (by decide) (by rw [xS_27_0]; have := @rroom_ge 3; omega), xS_27_0])) sX2_copy mw_405 mKX2 rfl c26c.1 rfl (Nat.le_of_ble_eq_true rfl) ⟨⟨Nat.le_of_ble_eq_true rfl, Nat.le_of_ble_eq_true rfl⟩, (by simp only [rX2_many, rX2_sort, rX2_copy, rX2_join, rX2_key, rX2_stamp, rX2_merge, rX2_same, rX2_isSorted, rX2_mark, rL_areMerged]; omega), (by simp only [rX2_many, rX2_sort, rX2_copy, rX2_join, rX2_key, rX2_stamp, rX2_merge, rX2_same, rX2_isSorted, rX2_mark, rL_areMerged]; omega)⟩ (fun v29 h30 n31 c32 => ?_) (fun _ _ _ hx => hx.elim)
          obtain ⟨c32a, c32b, c32c, c32d⟩ := c32
          rw [c32a, c32b]
          obtain ⟨S_33, eS_33⟩ : ∃ z, z = cAct (cGiv (cSet S_27 3 (bringL A (decide (3 < 2)) (decide (0 < 2)) ([]) S_27.2.1).1) (bringL A (decide (3 < 2)) (decide (0 < 2)) ([]) S_27.2.1).2) := ⟨_, rfl⟩
          rw [← eS_33] at c32c
          have xS_33_3 : S_33.1 3 = (bringL A (decide (3 < 2)) (decide (0 < 2)) ([]) S_27.2.1).1 := by rw [eS_33]; exact cGiv_at
          have xS_33_2 : S_33.1 2 = G2 := by rw [eS_33]; exact (cGiv_ne (by decide)).trans xS_27_2
          have xS_33_1 : S_33.1 1 = B := by rw [eS_33]; exact (cGiv_ne (by decide)).trans xS_27_1
          have xS_33_0 : S_33.1 0 = A := by rw [eS_33]; exact (cGiv_ne (by decide)).trans xS_27_0
          show mT _ _ _ _ 67 [.ref 0, .int (nI 0), .int (nI all), .double 0, .double 0, .double 0, .double 0] [.int (nI A.length)] _ _ _ _
          refine mt_if_lt dL_areMerged_67 (tgt := 88) rfl (fun q34 => ?_) (fun q34 => ?_)
          · have q34 := (mI_lt0 (by omega)).mp q34
            exact q34.elim
          · have q34 := (not_congr (mI_lt0 (by omega))).mp q34
            obtain ⟨G3, eG3⟩ : ∃ z, z = (bringL A (decide (3 < 2)) (decide (0 < 2)) ([]) S_27.2.1).1 := ⟨_, rfl⟩
            rw [← eG3] at xS_33_3
            have k3 : ks G3 = ks A := by rw [eG3, lf_bringk]; rfl
            have l3 : G3.length = A.length := by rw [← @ks_len G3, k3, ks_len]
            refine mt_aload_n dL_areMerged_70 rfl rfl ?_
            refine mt_iconst dL_areMerged_71 (v := nI 3) rfl ?_
            refine mt_iconst dL_areMerged_72 (v := nI 2) rfl ?_
            refine mt_callV (N := mX2_join) (Rc := rX2_join) (As := [.int (nI 3), .int (nI 2)]) (st := []) dL_areMerged_73 ((kX2_join hl c32c).good (v := .int (nI (G3.length + G2.length))) (S' := cAct (cGiv (cSet S_33 3 (bringL G2 (decide (3 < 2)) (decide (2 < 2)) G3 S_33.2.1).1) (bringL G2 (decide (3 < 2)) (decide (2 < 2)) G3 S_33.2.1).2)) (by rw [g_join (by decide) (by decide) (by rw [xS_33_3, xS_33_2]; have := @rroom_ge 3; omega), xS_33_3, xS_33_2])) sX2_join mw_417 mKX2 rfl c32c.1 rfl (Nat.le_of_ble_eq_true rfl) ⟨⟨Nat.le_of_ble_eq_true rfl, Nat.le_of_ble_eq_true rfl⟩, (by simp only [rX2_many, rX2_sort, rX2_copy, rX2_join, rX2_key, rX2_stamp, rX2_merge, rX2_same, rX2_isSorted, rX2_mark, rL_areMerged]; omega), (by simp only [rX2_many, rX2_sort, rX2_copy, rX2_join, rX2_key, rX2_stamp, rX2_merge, rX2_same, rX2_isSorted, rX2_mark, rL_areMerged]; omega)⟩ (fun v35 h36 n37 c38 => ?_) (fun _ _ _ hx => hx.elim)
            obtain ⟨c38a, c38b, c38c, c38d⟩ := c38
            rw [c38a, c38b]
            obtain ⟨S_39, eS_39⟩ : ∃ z, z = cAct (cGiv (cSet S_33 3 (bringL G2 (decide (3 < 2)) (decide (2 < 2)) G3 S_33.2.1).1) (bringL G2 (decide (3 < 2)) (decide (2 < 2)) G3 S_33.2.1).2) := ⟨_, rfl⟩
            rw [← eS_39] at c38c
            have xS_39_3 : S_39.1 3 = (bringL G2 (decide (3 < 2)) (decide (2 < 2)) G3 S_33.2.1).1 := by rw [eS_39]; exact cGiv_at
            have xS_39_2 : S_39.1 2 = G2 := by rw [eS_39]; exact (cGiv_ne (by decide)).trans xS_33_2
            have xS_39_1 : S_39.1 1 = B := by rw [eS_39]; exact (cGiv_ne (by decide)).trans xS_33_1
            have xS_39_0 : S_39.1 0 = A := by rw [eS_39]; exact (cGiv_ne (by decide)).trans xS_33_0
            show mT _ _ _ _ 76 [.ref 0, .int (nI 0), .int (nI all), .double 0, .double 0, .double 0, .double 0] [.int (nI (G3.length + G2.length))] _ _ _ _
            refine mt_iload_n dL_areMerged_76 rfl ?_
            obtain ⟨J, eJ⟩ : ∃ z, z = (bringL G2 (decide (3 < 2)) (decide (2 < 2)) G3 S_33.2.1).1 := ⟨_, rfl⟩
            rw [← eJ] at xS_39_3
            have kJ : ks J = ks A ++ ks B := by rw [eJ, lf_bringk, k3, k2]
            have hJ3 : J.length ≤ 320 := by rw [← xS_39_3]; exact (lenOk_of c38c).le (by decide)
            obtain ⟨c3, hc3, ec3⟩ := lf_others (xs := J) (ys := (msort J).1) hJ3
            refine mt_icmp_ne dL_areMerged_77 (tgt := 88) rfl (fun q9 => absurd q9 (fun z => z (congrArg nI (by omega)))) (fun q9 => ?_)
            refine mt_aload_n dL_areMerged_80 rfl rfl ?_
            refine mt_iconst dL_areMerged_81 (v := nI 3) rfl ?_
            refine mt_callV (N := mX2_sort) (Rc := rX2_sort) (As := [.int (nI 3)]) (st := []) dL_areMerged_82 ((kX2_sort hl c38c).good (v := .int (nI c3)) (S' := cAct (cSet S_39 3 ((msort J).1))) (by rw [g_sort (by decide), xS_39_3, ec3])) sX2_sort mw_429 mKX2 rfl c38c.1 rfl (Nat.le_of_ble_eq_true rfl) ⟨⟨Nat.le_of_ble_eq_true rfl, Nat.le_of_ble_eq_true rfl⟩, (by simp only [rX2_many, rX2_sort, rX2_copy, rX2_join, rX2_key, rX2_stamp, rX2_merge, rX2_same, rX2_isSorted, rX2_mark, rL_areMerged]; omega), (by simp only [rX2_many, rX2_sort, rX2_copy, rX2_join, rX2_key, rX2_stamp, rX2_merge, rX2_same, rX2_isSorted, rX2_mark, rL_areMerged]; omega)⟩ (fun v40 h41 n42 c43 => ?_) (fun _ _ _ hx => hx.elim)
            obtain ⟨c43a, c43b, c43c, c43d⟩ := c43
            rw [c43a, c43b]
            obtain ⟨S_44, eS_44⟩ : ∃ z, z = cAct (cSet S_39 3 ((msort J).1)) := ⟨_, rfl⟩
            rw [← eS_44] at c43c
            have xS_44_3 : S_44.1 3 = (msort J).1 := by rw [eS_44]; exact cAct_at
            have xS_44_2 : S_44.1 2 = G2 := by rw [eS_44]; exact (cAct_ne (by decide)).trans xS_39_2
            have xS_44_1 : S_44.1 1 = B := by rw [eS_44]; exact (cAct_ne (by decide)).trans xS_39_1
            have xS_44_0 : S_44.1 0 = A := by rw [eS_44]; exact (cAct_ne (by decide)).trans xS_39_0
            show mT _ _ _ _ 85 [.ref 0, .int (nI 0), .int (nI all), .double 0, .double 0, .double 0, .double 0] [.int (nI c3)] _ _ _ _
            refine mt_if_ge dL_areMerged_85 (tgt := 90) rfl (fun q45 => ?_) (fun q45 => ?_)
            · have q45 := Int32.not_lt.mpr q45
              have q45 := (not_congr (mI_lt0 (by omega))).mp q45
              refine mt_iload_n dL_areMerged_90 rfl ?_
              refine mp_newarray dL_areMerged_91 mw_70 rfl (by omega) (by first | omega | (simp only [rX2_many, rX2_sort, rX2_copy, rX2_join, rX2_key, rX2_stamp, rX2_merge, rX2_same, rX2_isSorted, rX2_mark, rL_areMerged]; omega)) (by first | omega | (simp only [rX2_many, rX2_sort, rX2_copy, rX2_join, rX2_key, rX2_stamp, rX2_merge, rX2_same, rX2_isSorted, rX2_mark, rL_areMerged]; omega)) (fun h46 e47 f48 => ?_)
              have Ch49 := cAt.fr2 c43c (fun j hj => f48 j (by omega))
              refine mp_astore_n dL_areMerged_93 (ls' := [.ref 0, .int (nI 0), .int (nI all), .ref n, .double 0, .double 0, .double 0]) rfl rfl (by decide) rfl ?_
              refine mt_widen (cc' := 500 + 8 * (0 + 0)) (sc' := 5000 + 48 * (0 + 0)) (by first | omega | (simp only [rX2_many, rX2_sort, rX2_copy, rX2_join, rX2_key, rX2_stamp, rX2_merge, rX2_same, rX2_isSorted, rX2_mark, rL_areMerged]; omega)) (by first | omega | (simp only [rX2_many, rX2_sort, rX2_copy, rX2_join, rX2_key, rX2_stamp, rX2_merge, rX2_same, rX2_isSorted, rX2_mark, rL_areMerged]; omega)) ?_
              refine mt_iconst dL_areMerged_94 (v := nI 0) rfl ?_
              refine mp_istore dL_areMerged_95 (ls' := [.ref 0, .int (nI 0), .int (nI all), .ref n, .int (nI 0), .double 0, .double 0]) rfl (by decide) rfl ?_
              refine mt_iconst dL_areMerged_97 (v := nI 0) rfl ?_
              refine mp_istore dL_areMerged_98 (ls' := [.ref 0, .int (nI 0), .int (nI all), .ref n, .int (nI 0), .int (nI 0), .double 0]) rfl (by decide) rfl ?_
              refine tL_areMerged_100 hl (by decide) (by decide) (by decide) (by omega) hall ha9 xS_44_0 xS_44_1 (fun h_50 g_51 z52 z53 z54 => ?_) _ 0 0 h46 (fun _ => (0 : Int32)) (Nat.lt_succ_self _) Ch49 e47 List.drop_zero (fun j hj => absurd hj (by omega)) (by omega) (by omega)
              refine mt_aload_n dL_areMerged_205 rfl rfl ?_
              refine mt_iload_n dL_areMerged_206 rfl ?_
              refine mt_iconst dL_areMerged_207 (v := nI 1) rfl ?_
              refine mt_iload_n dL_areMerged_208 rfl ?_
              refine mp_isub dL_areMerged_209 (v := nI 1) (by decide) ?_
              refine mt_callV (N := mX2_merge) (Rc := rX2_merge) (As := [.int (nI 0), .int (nI 1)]) (st := []) dL_areMerged_210 ((kX2_merge hl z52).good (v := .int (nI (A.length + B.length))) (S' := cAct (cGiv (cSet S_44 0 (mg A B 0 0)) (bringL B true true A S_44.2.1).2)) (by rw [g_merge (by decide) (by decide) (by rw [xS_44_0]; exact kA) (by rw [xS_44_1]; exact kB) (by rw [xS_44_0, xS_44_1]; have := @rroom_ge 0; omega), xS_44_0, xS_44_1])) sX2_merge mw_421 mKX2 rfl z52.1 rfl (Nat.le_of_ble_eq_true rfl) ⟨⟨Nat.le_of_ble_eq_true rfl, Nat.le_of_ble_eq_true rfl⟩, (by simp only [rX2_many, rX2_sort, rX2_copy, rX2_join, rX2_key, rX2_stamp, rX2_merge, rX2_same, rX2_isSorted, rX2_mark, rL_areMerged]; omega), (by simp only [rX2_many, rX2_sort, rX2_copy, rX2_join, rX2_key, rX2_stamp, rX2_merge, rX2_same, rX2_isSorted, rX2_mark, rL_areMerged]; omega)⟩ (fun v55 h56 n57 c58 => ?_) (fun _ _ _ hx => hx.elim)
              obtain ⟨c58a, c58b, c58c, c58d⟩ := c58
              rw [c58a, c58b]
              obtain ⟨S_59, eS_59⟩ : ∃ z, z = cAct (cGiv (cSet S_44 0 (mg A B 0 0)) (bringL B true true A S_44.2.1).2) := ⟨_, rfl⟩
              rw [← eS_59] at c58c
              have xS_59_0 : S_59.1 0 = mg A B 0 0 := by rw [eS_59]; exact cGiv_at
              have xS_59_3 : S_59.1 3 = (msort J).1 := by rw [eS_59]; exact (cGiv_ne (by decide)).trans xS_44_3
              have xS_59_2 : S_59.1 2 = G2 := by rw [eS_59]; exact (cGiv_ne (by decide)).trans xS_44_2
              have xS_59_1 : S_59.1 1 = B := by rw [eS_59]; exact (cGiv_ne (by decide)).trans xS_44_1
              show mT _ _ _ _ 213 [.ref 0, .int (nI 0), .int (nI all), .ref n, .double 0, .double 0, .double 0] [.int (nI (A.length + B.length))] _ _ _ _
              refine mt_iload_n dL_areMerged_213 rfl ?_
              refine mt_icmp_ne dL_areMerged_214 (tgt := 234) rfl (fun q9 => absurd q9 (fun z => z (congrArg nI hall.symm))) (fun q9 => ?_)
              refine mt_aload_n dL_areMerged_217 rfl rfl ?_
              refine mt_iload_n dL_areMerged_218 rfl ?_
              refine mt_iconst dL_areMerged_219 (v := nI 3) rfl ?_
              refine mt_callV (N := mX2_same) (Rc := rX2_same) (As := [.int (nI 0), .int (nI 3)]) (st := []) dL_areMerged_220 ((kX2_same hl c58c).good (v := .int (nI 1)) (S' := S_59) (by rw [g_sameT (lenOk_of c58c) (by decide) (by decide) (by rw [xS_59_0, xS_59_3]; exact lf_mgk kA kB kJ), mb_t])) sX2_same mw_508 mKX2 rfl c58c.1 rfl (Nat.le_of_ble_eq_true rfl) ⟨⟨Nat.le_of_ble_eq_true rfl, Nat.le_of_ble_eq_true rfl⟩, (by simp only [rX2_many, rX2_sort, rX2_copy, rX2_join, rX2_key, rX2_stamp, rX2_merge, rX2_same, rX2_isSorted, rX2_mark, rL_areMerged]; omega), (by simp only [rX2_many, rX2_sort, rX2_copy, rX2_join, rX2_key, rX2_stamp, rX2_merge, rX2_same, rX2_isSorted, rX2_mark, rL_areMerged]; omega)⟩ (fun v60 h61 n62 c63 => ?_) (fun _ _ _ hx => hx.elim)
              obtain ⟨c63a, c63b, c63c, c63d⟩ := c63
              rw [c63a, c63b]
              show mT _ _ _ _ 223 [.ref 0, .int (nI 0), .int (nI all), .ref n, .double 0, .double 0, .double 0] [.int (nI 1)] _ _ _ _
              refine mt_if_eq dL_areMerged_223 (tgt := 234) rfl (fun q64 => ?_) (fun q64 => ?_)
              · have q64 := (mI_eq0 (by omega)).mp q64
                exact absurd q64 (by decide)
              · have q64 := (not_congr (mI_eq0 (by omega))).mp q64
                refine mt_aload_n dL_areMerged_226 rfl rfl ?_
                refine mt_iload_n dL_areMerged_227 rfl ?_
                refine mt_callV (N := mX2_isSorted) (Rc := rX2_isSorted) (As := [.int (nI 0)]) (st := []) dL_areMerged_228 ((kX2_isSorted hl c63c).good (v := .int (nI 1)) (S' := S_59) (by rw [g_isSorted (by decide), xS_59_0, lf_rises (mg_sorted kA kB), mb_t])) sX2_isSorted mw_448 mKX2 rfl c63c.1 rfl (Nat.le_of_ble_eq_true rfl) ⟨⟨Nat.le_of_ble_eq_true rfl, Nat.le_of_ble_eq_true rfl⟩, (by simp only [rX2_many, rX2_sort, rX2_copy, rX2_join, rX2_key, rX2_stamp, rX2_merge, rX2_same, rX2_isSorted, rX2_mark, rL_areMerged]; omega), (by simp only [rX2_many, rX2_sort, rX2_copy, rX2_join, rX2_key, rX2_stamp, rX2_merge, rX2_same, rX2_isSorted, rX2_mark, rL_areMerged]; omega)⟩ (fun v65 h66 n67 c68 => ?_) (fun _ _ _ hx => hx.elim)
                obtain ⟨c68a, c68b, c68c, c68d⟩ := c68
                rw [c68a, c68b]
                show mT _ _ _ _ 231 [.ref 0, .int (nI 0), .int (nI all), .ref n, .double 0, .double 0, .double 0] [.int (nI 1)] _ _ _ _
                refine mt_if_ne dL_areMerged_231 (tgt := 236) rfl (fun q69 => ?_) (fun q69 => ?_)
                · have q69 := (not_congr (mI_eq0 (by omega))).mp q69
                  refine mt_widen (cc' := 2000 + 2 * 0) (sc' := 13000 + 12 * 0) (by first | omega | (simp only [rX2_many, rX2_sort, rX2_copy, rX2_join, rX2_key, rX2_stamp, rX2_merge, rX2_same, rX2_isSorted, rX2_mark, rL_areMerged]; omega)) (by first | omega | (simp only [rX2_many, rX2_sort, rX2_copy, rX2_join, rX2_key, rX2_stamp, rX2_merge, rX2_same, rX2_isSorted, rX2_mark, rL_areMerged]; omega)) ?_
                  refine mt_iconst dL_areMerged_236 (v := nI 0) rfl ?_
                  refine mp_istore dL_areMerged_237 (ls' := [.ref 0, .int (nI 0), .int (nI all), .ref n, .double 0, .double 0, .int (nI 0)]) rfl (by decide) rfl ?_
                  refine tL_areMerged_239 hl (by decide) (by omega) hall ha9 xS_59_0 z54 (fun h_70 z71 => ?_) _ 0 h66 (Nat.lt_succ_self _) c68c ((c68d (n) (by omega)).trans ((c63d (n) (by omega)).trans ((c58d (n) (by omega)).trans z53))) (by omega)
                  refine mt_aload_n dL_areMerged_267 rfl rfl ?_
                  refine mt_iload_n dL_areMerged_268 rfl ?_
                  refine mt_iconst dL_areMerged_269 (v := nI 1) rfl ?_
                  refine mt_callV (N := mX2_mark) (Rc := rX2_mark) (As := [.int (nI 0), .int (nI 1)]) (st := []) dL_areMerged_270 ((kX2_mark (isStamps := true) hl z71).good (v := .int (q_mark (mg A B 0 0) true)) (S' := S_59) (by rw [g_mark (by decide), xS_59_0])) sX2_mark mw_504 mKX2 rfl z71.1 rfl (Nat.le_of_ble_eq_true rfl) ⟨⟨Nat.le_of_ble_eq_true rfl, Nat.le_of_ble_eq_true rfl⟩, (by simp only [rX2_many, rX2_sort, rX2_copy, rX2_join, rX2_key, rX2_stamp, rX2_merge, rX2_same, rX2_isSorted, rX2_mark, rL_areMerged]; omega), (by simp only [rX2_many, rX2_sort, rX2_copy, rX2_join, rX2_key, rX2_stamp, rX2_merge, rX2_same, rX2_isSorted, rX2_mark, rL_areMerged]; omega)⟩ (fun v72 h73 n74 c75 => ?_) (fun _ _ _ hx => hx.elim)
                  obtain ⟨c75a, c75b, c75c, c75d⟩ := c75
                  rw [c75a, c75b]
                  show mT _ _ _ _ 273 [.ref 0, .int (nI 0), .int (nI all), .ref n, .double 0, .double 0, .double 0] [.int (q_mark (mg A B 0 0) true)] _ _ _ _
                  refine mp_istore dL_areMerged_273 (ls' := [.ref 0, .int (nI 0), .int (nI all), .ref n, .double 0, .double 0, .int (q_mark (mg A B 0 0) true)]) rfl (by decide) rfl ?_
                  refine mt_aload_n dL_areMerged_275 rfl rfl ?_
                  refine mt_iload_n dL_areMerged_276 rfl ?_
                  refine mt_callV (N := mX2_sort) (Rc := rX2_sort) (As := [.int (nI 0)]) (st := []) dL_areMerged_277 ((kX2_sort hl c75c).good (v := .int (nI 0)) (S' := cAct (cSet S_59 0 (mg A B 0 0))) (by rw [g_sort (by decide), xS_59_0, lf_idem (mg_sorted kA kB), other_self0])) sX2_sort mw_429 mKX2 rfl c75c.1 rfl (Nat.le_of_ble_eq_true rfl) ⟨⟨Nat.le_of_ble_eq_true rfl, Nat.le_of_ble_eq_true rfl⟩, (by simp only [rX2_many, rX2_sort, rX2_copy, rX2_join, rX2_key, rX2_stamp, rX2_merge, rX2_same, rX2_isSorted, rX2_mark, rL_areMerged]; omega), (by simp only [rX2_many, rX2_sort, rX2_copy, rX2_join, rX2_key, rX2_stamp, rX2_merge, rX2_same, rX2_isSorted, rX2_mark, rL_areMerged]; omega)⟩ (fun v76 h77 n78 c79 => ?_) (fun _ _ _ hx => hx.elim)
                  obtain ⟨c79a, c79b, c79c, c79d⟩ := c79
                  rw [c79a, c79b]
                  obtain ⟨S_80, eS_80⟩ : ∃ z, z = cAct (cSet S_59 0 (mg A B 0 0)) := ⟨_, rfl⟩
                  rw [← eS_80] at c79c
                  have xS_80_0 : S_80.1 0 = mg A B 0 0 := by rw [eS_80]; exact cAct_at
                  have xS_80_3 : S_80.1 3 = (msort J).1 := by rw [eS_80]; exact (cAct_ne (by decide)).trans xS_59_3
                  have xS_80_2 : S_80.1 2 = G2 := by rw [eS_80]; exact (cAct_ne (by decide)).trans xS_59_2
                  have xS_80_1 : S_80.1 1 = B := by rw [eS_80]; exact (cAct_ne (by decide)).trans xS_59_1
                  show mT _ _ _ _ 280 [.ref 0, .int (nI 0), .int (nI all), .ref n, .double 0, .double 0, .int (q_mark (mg A B 0 0) true)] [.int (nI 0)] _ _ _ _
                  refine mt_if_ne dL_areMerged_280 (tgt := 298) rfl (fun q81 => ?_) (fun q81 => ?_)
                  · have q81 := (not_congr (mI_eq0 (by omega))).mp q81
                    exact absurd q81 (by decide)
                  · have q81 := (mI_eq0 (by omega)).mp q81
                    refine mt_aload_n dL_areMerged_283 rfl rfl ?_
                    refine mt_iload_n dL_areMerged_284 rfl ?_
                    refine mt_iconst dL_areMerged_285 (v := nI 1) rfl ?_
                    refine mt_callV (N := mX2_mark) (Rc := rX2_mark) (As := [.int (nI 0), .int (nI 1)]) (st := []) dL_areMerged_286 ((kX2_mark (isStamps := true) hl c79c).good (v := .int (q_mark (mg A B 0 0) true)) (S' := S_80) (by rw [g_mark (by decide), xS_80_0])) sX2_mark mw_504 mKX2 rfl c79c.1 rfl (Nat.le_of_ble_eq_true rfl) ⟨⟨Nat.le_of_ble_eq_true rfl, Nat.le_of_ble_eq_true rfl⟩, (by simp only [rX2_many, rX2_sort, rX2_copy, rX2_join, rX2_key, rX2_stamp, rX2_merge, rX2_same, rX2_isSorted, rX2_mark, rL_areMerged]; omega), (by simp only [rX2_many, rX2_sort, rX2_copy, rX2_join, rX2_key, rX2_stamp, rX2_merge, rX2_same, rX2_isSorted, rX2_mark, rL_areMerged]; omega)⟩ (fun v82 h83 n84 c85 => ?_) (fun _ _ _ hx => hx.elim)
                    obtain ⟨c85a, c85b, c85c, c85d⟩ := c85
                    rw [c85a, c85b]
                    show mT _ _ _ _ 289 [.ref 0, .int (nI 0), .int (nI all), .ref n, .double 0, .double 0, .int (q_mark (mg A B 0 0) true)] [.int (q_mark (mg A B 0 0) true)] _ _ _ _
                    refine mt_iload dL_areMerged_289 rfl ?_
                    refine mt_icmp_ne dL_areMerged_291 (tgt := 298) rfl (fun q9 => absurd q9 (fun z => z rfl)) (fun q9 => ?_)
                    refine mt_iconst dL_areMerged_294 (v := nI 1) rfl ?_
                    refine mt_goto dL_areMerged_295 (tgt := 299) rfl ?_
                    refine mt_ireturn dL_areMerged_299 rfl rfl (by simp only [rX2_many, rX2_sort, rX2_copy, rX2_join, rX2_key, rX2_stamp, rX2_merge, rX2_same, rX2_isSorted, rX2_mark, rL_areMerged]; omega) (by simp only [rX2_many, rX2_sort, rX2_copy, rX2_join, rX2_key, rX2_stamp, rX2_merge, rX2_same, rX2_isSorted, rX2_mark, rL_areMerged]; omega) ?_
                    exact ⟨by first | rfl | (rw [if_pos]; rfl), by omega, _, c85c⟩
                · have q69 := (mI_eq0 (by omega)).mp q69
                  exact absurd q69 (by decide)
            · have q45 := Int32.not_le.mp q45
              have q45 := (mI_lt0 (by omega)).mp q45
              exact q45.elim
      · have q22 := Int32.not_le.mp q22
        have q22 := (mI_lt0 (by omega)).mp q22
        exact q22.elim
set_option maxRecDepth 100000 in
set_option maxHeartbeats 2000000 in
theorem kL_areMerged_1 {l : Launch} (hl : l.stackTraces = false) {h : mH} {n : Nat} {S : cS} (C : cAt h S) (hn : 27 ≤ n) : mC l mL_areMerged rL_areMerged [.ref 0, .int (nI 1)] h n (fun v h' n' => v = some (.int (nI 1)) ∧ n ≤ n' ∧ ∃ S', cAt h' S') (mNX) := by
  obtain ⟨A0, hA0⟩ : ∃ z, S.1 1 = z := ⟨_, rfl⟩
  obtain ⟨B0, hB0⟩ : ∃ z, S.1 0 = z := ⟨_, rfl⟩
  have hA3 : A0.length ≤ 320 := by rw [← hA0]; exact (lenOk_of C).le (by decide)
  have hB3 : B0.length ≤ 320 := by rw [← hB0]; exact (lenOk_of C).le (by decide)
  obtain ⟨c1, hc1, ec1⟩ := lf_others (xs := A0) (ys := (msort A0).1) hA3
  obtain ⟨c2, hc2, ec2⟩ := lf_others (xs := B0) (ys := (msort B0).1) hB3
  refine mm_enter hl (by decide +kernel) rfl rfl rfl (Nat.le_of_ble_eq_true rfl) ?_
  show mT _ _ _ _ 0 [.ref 0, .int (nI 1), .double 0, .double 0, .double 0, .double 0, .double 0] [] _ _ 0 0
  refine mt_aload_n dL_areMerged_0 rfl rfl ?_
  refine mt_iload_n dL_areMerged_1 rfl ?_
  refine mt_callV (N := mX2_many) (Rc := rX2_many) (As := [.int (nI 1)]) (st := []) dL_areMerged_2 ((kX2_many hl C).good (v := .int (nI A0.length)) (S' := S) (by rw [g_many (by decide), hA0])) sX2_many mw_213 mKX2 rfl C.1 rfl (Nat.le_of_ble_eq_true rfl) ⟨⟨Nat.le_of_ble_eq_true rfl, Nat.le_of_ble_eq_true rfl⟩, (by simp only [rX2_many, rX2_sort, rX2_copy, rX2_join, rX2_key, rX2_stamp, rX2_merge, rX2_same, rX2_isSorted, rX2_mark, rL_areMerged]; omega), (by simp only [rX2_many, rX2_sort, rX2_copy, rX2_join, rX2_key, rX2_stamp, rX2_merge, rX2_same, rX2_isSorted, rX2_mark, rL_areMerged]; omega)⟩ (fun v1 h2 n3 c4 => ?_) (fun _ _ _ hx => hx.elim)
  obtain ⟨c4a, c4b, c4c, c4d⟩ := c4
  rw [c4a, c4b]
  show mT _ _ _ _ 5 [.ref 0, .int (nI 1), .double 0, .double 0, .double 0, .double 0, .double 0] [.int (nI A0.length)] _ _ _ _
  refine mt_aload_n dL_areMerged_5 rfl rfl ?_
  refine mt_iconst dL_areMerged_6 (v := nI 1) rfl ?_
  refine mt_iload_n dL_areMerged_7 rfl ?_
  refine mp_isub dL_areMerged_8 (v := nI 0) (by decide) ?_
  refine mt_callV (N := mX2_many) (Rc := rX2_many) (As := [.int (nI 0)]) (st := [.int (nI A0.length)]) dL_areMerged_9 ((kX2_many hl c4c).good (v := .int (nI B0.length)) (S' := S) (by rw [g_many (by decide), hB0])) sX2_many mw_213 mKX2 rfl c4c.1 rfl (Nat.le_of_ble_eq_true rfl) ⟨⟨Nat.le_of_ble_eq_true rfl, Nat.le_of_ble_eq_true rfl⟩, (by simp only [rX2_many, rX2_sort, rX2_copy, rX2_join, rX2_key, rX2_stamp, rX2_merge, rX2_same, rX2_isSorted, rX2_mark, rL_areMerged]; omega), (by simp only [rX2_many, rX2_sort, rX2_copy, rX2_join, rX2_key, rX2_stamp, rX2_merge, rX2_same, rX2_isSorted, rX2_mark, rL_areMerged]; omega)⟩ (fun v5 h6 n7 c8 => ?_) (fun _ _ _ hx => hx.elim)
  obtain ⟨c8a, c8b, c8c, c8d⟩ := c8
  rw [c8a, c8b]
  show mT _ _ _ _ 12 [.ref 0, .int (nI 1), .double 0, .double 0, .double 0, .double 0, .double 0] [.int (nI B0.length), .int (nI A0.length)] _ _ _ _
  refine mp_iadd dL_areMerged_12 (v := nI (A0.length + B0.length)) (nI_add _ _) ?_
  refine mp_istore_n dL_areMerged_13 (ls' := [.ref 0, .int (nI 1), .int (nI (A0.length + B0.length)), .double 0, .double 0, .double 0, .double 0]) rfl (by decide) rfl ?_
  refine mt_iload_n dL_areMerged_14 rfl ?_
  refine mt_sipush dL_areMerged_15 (v := nI 150) (by decide) ?_
  refine mt_icmp_gt dL_areMerged_18 (tgt := 37) rfl (fun q9 => ?_) (fun q9 => ?_)
  · have q9 := (nI_ltI (by omega) (by omega)).mp q9
    refine mt_iload_n dL_areMerged_37 rfl ?_
    refine mt_sipush dL_areMerged_38 (v := nI 150) (by decide) ?_
    refine mt_icmp_le dL_areMerged_41 (tgt := 48) rfl (fun q10 => ?_) (fun q10 => ?_)
    · have q10 := Int32.not_lt.mpr q10
      have q10 := (not_congr (nI_ltI (by omega) (by omega))).mp q10
      exfalso
      omega
    · have q10 := Int32.not_le.mp q10
      have q10 := (nI_ltI (by omega) (by omega)).mp q10
      refine mt_iconst dL_areMerged_44 (v := nI 1) rfl ?_
      refine mt_goto dL_areMerged_45 (tgt := 49) rfl ?_
      refine mt_ireturn dL_areMerged_49 rfl rfl (by simp only [rX2_many, rX2_sort, rX2_copy, rX2_join, rX2_key, rX2_stamp, rX2_merge, rX2_same, rX2_isSorted, rX2_mark, rL_areMerged]; omega) (by simp only [rX2_many, rX2_sort, rX2_copy, rX2_join, rX2_key, rX2_stamp, rX2_merge, rX2_same, rX2_isSorted, rX2_mark, rL_areMerged]; omega) ?_
      exact ⟨by first | rfl | (rw [if_pos]; rfl), by omega, _, c8c⟩
  · have q9 := (not_congr (nI_ltI (by omega) (by omega))).mp q9
    refine mt_aload_n dL_areMerged_21 rfl rfl ?_
    refine mt_iconst dL_areMerged_22 (v := nI 0) rfl ?_
    refine mt_callV (N := mX2_sort) (Rc := rX2_sort) (As := [.int (nI 0)]) (st := []) dL_areMerged_23 ((kX2_sort hl c8c).good (v := .int (nI c2)) (S' := cAct (cSet S 0 ((msort B0).1))) (by rw [g_sort (by decide), hB0, ec2])) sX2_sort mw_429 mKX2 rfl c8c.1 rfl (Nat.le_of_ble_eq_true rfl) ⟨⟨Nat.le_of_ble_eq_true rfl, Nat.le_of_ble_eq_true rfl⟩, (by simp only [rX2_many, rX2_sort, rX2_copy, rX2_join, rX2_key, rX2_stamp, rX2_merge, rX2_same, rX2_isSorted, rX2_mark, rL_areMerged]; omega), (by simp only [rX2_many, rX2_sort, rX2_copy, rX2_join, rX2_key, rX2_stamp, rX2_merge, rX2_same, rX2_isSorted, rX2_mark, rL_areMerged]; omega)⟩ (fun v11 h12 n13 c14 => ?_) (fun _ _ _ hx => hx.elim)
    obtain ⟨c14a, c14b, c14c, c14d⟩ := c14
    rw [c14a, c14b]
    obtain ⟨S_15, eS_15⟩ : ∃ z, z = cAct (cSet S 0 ((msort B0).1)) := ⟨_, rfl⟩
    rw [← eS_15] at c14c
    have xS_15_0 : S_15.1 0 = (msort B0).1 := by rw [eS_15]; exact cAct_at
    have xS_15_1 : S_15.1 1 = A0 := by rw [eS_15]; exact (cAct_ne (by decide)).trans hA0
    show mT _ _ _ _ 26 [.ref 0, .int (nI 1), .int (nI (A0.length + B0.length)), .double 0, .double 0, .double 0, .double 0] [.int (nI c2)] _ _ _ _
    refine mt_if_lt dL_areMerged_26 (tgt := 37) rfl (fun q16 => ?_) (fun q16 => ?_)
    · have q16 := (mI_lt0 (by omega)).mp q16
      exact q16.elim
    · have q16 := (not_congr (mI_lt0 (by omega))).mp q16
      refine mt_aload_n dL_areMerged_29 rfl rfl ?_
      refine mt_iconst dL_areMerged_30 (v := nI 1) rfl ?_
      refine mt_callV (N := mX2_sort) (Rc := rX2_sort) (As := [.int (nI 1)]) (st := []) dL_areMerged_31 ((kX2_sort hl c14c).good (v := .int (nI c1)) (S' := cAct (cSet S_15 1 ((msort A0).1))) (by rw [g_sort (by decide), xS_15_1, ec1])) sX2_sort mw_429 mKX2 rfl c14c.1 rfl (Nat.le_of_ble_eq_true rfl) ⟨⟨Nat.le_of_ble_eq_true rfl, Nat.le_of_ble_eq_true rfl⟩, (by simp only [rX2_many, rX2_sort, rX2_copy, rX2_join, rX2_key, rX2_stamp, rX2_merge, rX2_same, rX2_isSorted, rX2_mark, rL_areMerged]; omega), (by simp only [rX2_many, rX2_sort, rX2_copy, rX2_join, rX2_key, rX2_stamp, rX2_merge, rX2_same, rX2_isSorted, rX2_mark, rL_areMerged]; omega)⟩ (fun v17 h18 n19 c20 => ?_) (fun _ _ _ hx => hx.elim)
      obtain ⟨c20a, c20b, c20c, c20d⟩ := c20
      rw [c20a, c20b]
      obtain ⟨S_21, eS_21⟩ : ∃ z, z = cAct (cSet S_15 1 ((msort A0).1)) := ⟨_, rfl⟩
      rw [← eS_21] at c20c
      have xS_21_1 : S_21.1 1 = (msort A0).1 := by rw [eS_21]; exact cAct_at
      have xS_21_0 : S_21.1 0 = (msort B0).1 := by rw [eS_21]; exact (cAct_ne (by decide)).trans xS_15_0
      show mT _ _ _ _ 34 [.ref 0, .int (nI 1), .int (nI (A0.length + B0.length)), .double 0, .double 0, .double 0, .double 0] [.int (nI c1)] _ _ _ _
      refine mt_if_ge dL_areMerged_34 (tgt := 50) rfl (fun q22 => ?_) (fun q22 => ?_)
      · have q22 := Int32.not_lt.mpr q22
        have q22 := (not_congr (mI_lt0 (by omega))).mp q22
        obtain ⟨A, eA⟩ : ∃ z, z = (msort A0).1 := ⟨_, rfl⟩
        rw [← eA] at xS_21_1
        obtain ⟨B, eB⟩ : ∃ z, z = (msort B0).1 := ⟨_, rfl⟩
        rw [← eB] at xS_21_0
        have kA : kSorted A := by rw [eA]; exact lf_ksorted
        have kB : kSorted B := by rw [eB]; exact lf_ksorted
        have lA : A.length = A0.length := by rw [eA]; exact msort_len
        have lB : B.length = B0.length := by rw [eB]; exact msort_len
        obtain ⟨all, hall⟩ : ∃ z, z = A.length + B.length := ⟨_, rfl⟩
        have e0 : A0.length + B0.length = all := by omega
        rw [e0]
        have ha9 : all ≤ 150 := by omega
        refine mt_aload_n dL_areMerged_50 rfl rfl ?_
        refine mt_iconst dL_areMerged_51 (v := nI 1) rfl ?_
        refine mt_iload_n dL_areMerged_52 rfl ?_
        refine mp_isub dL_areMerged_53 (v := nI 0) (by decide) ?_
        refine mt_iconst dL_areMerged_54 (v := nI 2) rfl ?_
        refine mt_callV (N := mX2_copy) (Rc := rX2_copy) (As := [.int (nI 0), .int (nI 2)]) (st := []) dL_areMerged_55 ((kX2_copy hl c20c).good (v := .int (nI B.length)) (S' := cAct (cGiv (cSet S_21 2 (bringL B (decide (2 < 2)) (decide (0 < 2)) ([]) S_21.2.1).1) (bringL B (decide (2 < 2)) (decide (0 < 2)) ([]) S_21.2.1).2)) (by rw [g_copyY (by decide) (by decide) (by decide) (by rw [xS_21_0]; have := @rroom_ge 2; omega), xS_21_0])) sX2_copy mw_405 mKX2 rfl c20c.1 rfl (Nat.le_of_ble_eq_true rfl) ⟨⟨Nat.le_of_ble_eq_true rfl, Nat.le_of_ble_eq_true rfl⟩, (by simp only [rX2_many, rX2_sort, rX2_copy, rX2_join, rX2_key, rX2_stamp, rX2_merge, rX2_same, rX2_isSorted, rX2_mark, rL_areMerged]; omega), (by simp only [rX2_many, rX2_sort, rX2_copy, rX2_join, rX2_key, rX2_stamp, rX2_merge, rX2_same, rX2_isSorted, rX2_mark, rL_areMerged]; omega)⟩ (fun v23 h24 n25 c26 => ?_) (fun _ _ _ hx => hx.elim)
        obtain ⟨c26a, c26b, c26c, c26d⟩ := c26
        rw [c26a, c26b]
        obtain ⟨S_27, eS_27⟩ : ∃ z, z = cAct (cGiv (cSet S_21 2 (bringL B (decide (2 < 2)) (decide (0 < 2)) ([]) S_21.2.1).1) (bringL B (decide (2 < 2)) (decide (0 < 2)) ([]) S_21.2.1).2) := ⟨_, rfl⟩
        rw [← eS_27] at c26c
        have xS_27_2 : S_27.1 2 = (bringL B (decide (2 < 2)) (decide (0 < 2)) ([]) S_21.2.1).1 := by rw [eS_27]; exact cGiv_at
        have xS_27_1 : S_27.1 1 = A := by rw [eS_27]; exact (cGiv_ne (by decide)).trans xS_21_1
        have xS_27_0 : S_27.1 0 = B := by rw [eS_27]; exact (cGiv_ne (by decide)).trans xS_21_0
        show mT _ _ _ _ 58 [.ref 0, .int (nI 1), .int (nI all), .double 0, .double 0, .double 0, .double 0] [.int (nI B.length)] _ _ _ _
        refine mt_if_lt dL_areMerged_58 (tgt := 88) rfl (fun q28 => ?_) (fun q28 => ?_)
        · have q28 := (mI_lt0 (by omega)).mp q28
          exact q28.elim
        · have q28 := (not_congr (mI_lt0 (by omega))).mp q28
          obtain ⟨G2, eG2⟩ : ∃ z, z = (bringL B (decide (2 < 2)) (decide (0 < 2)) ([]) S_21.2.1).1 := ⟨_, rfl⟩
          rw [← eG2] at xS_27_2
          have k2 : ks G2 = ks B := by rw [eG2, lf_bringk]; rfl
          have l2 : G2.length = B.length := by rw [← @ks_len G2, k2, ks_len]
          refine mt_aload_n dL_areMerged_61 rfl rfl ?_
          refine mt_iload_n dL_areMerged_62 rfl ?_
          refine mt_iconst dL_areMerged_63 (v := nI 3) rfl ?_
          refine mt_callV (N := mX2_copy) (Rc := rX2_copy) (As := [.int (nI 1), .int (nI 3)]) (st := []) dL_areMerged_64 ((kX2_copy hl c26c).good (v := .int (nI A.length)) (S' := cAct (cGiv (cSet S_27 3 (bringL A (decide (3 < 2)) (decide (1 < 2)) ([]) S_27.2.1).1) (bringL A (decide (3 < 2)) (decide (1 < 2)) ([]) S_27.2.1).2)) (by rw [g_copyY (by decide) (by decide) (by decide) (by rw [xS_27_1]; have := @rroom_ge 3; omega), xS_27_1])) sX2_copy mw_405 mKX2 rfl c26c.1 rfl (Nat.le_of_ble_eq_true rfl) ⟨⟨Nat.le_of_ble_eq_true rfl, Nat.le_of_ble_eq_true rfl⟩, (by simp only [rX2_many, rX2_sort, rX2_copy, rX2_join, rX2_key, rX2_stamp, rX2_merge, rX2_same, rX2_isSorted, rX2_mark, rL_areMerged]; omega), (by simp only [rX2_many, rX2_sort, rX2_copy, rX2_join, rX2_key, rX2_stamp, rX2_merge, rX2_same, rX2_isSorted, rX2_mark, rL_areMerged]; omega)⟩ (fun v29 h30 n31 c32 => ?_) (fun _ _ _ hx => hx.elim)
          obtain ⟨c32a, c32b, c32c, c32d⟩ := c32
          rw [c32a, c32b]
          obtain ⟨S_33, eS_33⟩ : ∃ z, z = cAct (cGiv (cSet S_27 3 (bringL A (decide (3 < 2)) (decide (1 < 2)) ([]) S_27.2.1).1) (bringL A (decide (3 < 2)) (decide (1 < 2)) ([]) S_27.2.1).2) := ⟨_, rfl⟩
          rw [← eS_33] at c32c
          have xS_33_3 : S_33.1 3 = (bringL A (decide (3 < 2)) (decide (1 < 2)) ([]) S_27.2.1).1 := by rw [eS_33]; exact cGiv_at
          have xS_33_2 : S_33.1 2 = G2 := by rw [eS_33]; exact (cGiv_ne (by decide)).trans xS_27_2
          have xS_33_1 : S_33.1 1 = A := by rw [eS_33]; exact (cGiv_ne (by decide)).trans xS_27_1
          have xS_33_0 : S_33.1 0 = B := by rw [eS_33]; exact (cGiv_ne (by decide)).trans xS_27_0
          show mT _ _ _ _ 67 [.ref 0, .int (nI 1), .int (nI all), .double 0, .double 0, .double 0, .double 0] [.int (nI A.length)] _ _ _ _
          refine mt_if_lt dL_areMerged_67 (tgt := 88) rfl (fun q34 => ?_) (fun q34 => ?_)
          · have q34 := (mI_lt0 (by omega)).mp q34
            exact q34.elim
          · have q34 := (not_congr (mI_lt0 (by omega))).mp q34
            obtain ⟨G3, eG3⟩ : ∃ z, z = (bringL A (decide (3 < 2)) (decide (1 < 2)) ([]) S_27.2.1).1 := ⟨_, rfl⟩
            rw [← eG3] at xS_33_3
            have k3 : ks G3 = ks A := by rw [eG3, lf_bringk]; rfl
            have l3 : G3.length = A.length := by rw [← @ks_len G3, k3, ks_len]
            refine mt_aload_n dL_areMerged_70 rfl rfl ?_
            refine mt_iconst dL_areMerged_71 (v := nI 3) rfl ?_
            refine mt_iconst dL_areMerged_72 (v := nI 2) rfl ?_
            refine mt_callV (N := mX2_join) (Rc := rX2_join) (As := [.int (nI 3), .int (nI 2)]) (st := []) dL_areMerged_73 ((kX2_join hl c32c).good (v := .int (nI (G3.length + G2.length))) (S' := cAct (cGiv (cSet S_33 3 (bringL G2 (decide (3 < 2)) (decide (2 < 2)) G3 S_33.2.1).1) (bringL G2 (decide (3 < 2)) (decide (2 < 2)) G3 S_33.2.1).2)) (by rw [g_join (by decide) (by decide) (by rw [xS_33_3, xS_33_2]; have := @rroom_ge 3; omega), xS_33_3, xS_33_2])) sX2_join mw_417 mKX2 rfl c32c.1 rfl (Nat.le_of_ble_eq_true rfl) ⟨⟨Nat.le_of_ble_eq_true rfl, Nat.le_of_ble_eq_true rfl⟩, (by simp only [rX2_many, rX2_sort, rX2_copy, rX2_join, rX2_key, rX2_stamp, rX2_merge, rX2_same, rX2_isSorted, rX2_mark, rL_areMerged]; omega), (by simp only [rX2_many, rX2_sort, rX2_copy, rX2_join, rX2_key, rX2_stamp, rX2_merge, rX2_same, rX2_isSorted, rX2_mark, rL_areMerged]; omega)⟩ (fun v35 h36 n37 c38 => ?_) (fun _ _ _ hx => hx.elim)
            obtain ⟨c38a, c38b, c38c, c38d⟩ := c38
            rw [c38a, c38b]
            obtain ⟨S_39, eS_39⟩ : ∃ z, z = cAct (cGiv (cSet S_33 3 (bringL G2 (decide (3 < 2)) (decide (2 < 2)) G3 S_33.2.1).1) (bringL G2 (decide (3 < 2)) (decide (2 < 2)) G3 S_33.2.1).2) := ⟨_, rfl⟩
            rw [← eS_39] at c38c
            have xS_39_3 : S_39.1 3 = (bringL G2 (decide (3 < 2)) (decide (2 < 2)) G3 S_33.2.1).1 := by rw [eS_39]; exact cGiv_at
            have xS_39_2 : S_39.1 2 = G2 := by rw [eS_39]; exact (cGiv_ne (by decide)).trans xS_33_2
            have xS_39_1 : S_39.1 1 = A := by rw [eS_39]; exact (cGiv_ne (by decide)).trans xS_33_1
            have xS_39_0 : S_39.1 0 = B := by rw [eS_39]; exact (cGiv_ne (by decide)).trans xS_33_0
            show mT _ _ _ _ 76 [.ref 0, .int (nI 1), .int (nI all), .double 0, .double 0, .double 0, .double 0] [.int (nI (G3.length + G2.length))] _ _ _ _
            refine mt_iload_n dL_areMerged_76 rfl ?_
            obtain ⟨J, eJ⟩ : ∃ z, z = (bringL G2 (decide (3 < 2)) (decide (2 < 2)) G3 S_33.2.1).1 := ⟨_, rfl⟩
            rw [← eJ] at xS_39_3
            have kJ : ks J = ks A ++ ks B := by rw [eJ, lf_bringk, k3, k2]
            have hJ3 : J.length ≤ 320 := by rw [← xS_39_3]; exact (lenOk_of c38c).le (by decide)
            obtain ⟨c3, hc3, ec3⟩ := lf_others (xs := J) (ys := (msort J).1) hJ3
            refine mt_icmp_ne dL_areMerged_77 (tgt := 88) rfl (fun q9 => absurd q9 (fun z => z (congrArg nI (by omega)))) (fun q9 => ?_)
            refine mt_aload_n dL_areMerged_80 rfl rfl ?_
            refine mt_iconst dL_areMerged_81 (v := nI 3) rfl ?_
            refine mt_callV (N := mX2_sort) (Rc := rX2_sort) (As := [.int (nI 3)]) (st := []) dL_areMerged_82 ((kX2_sort hl c38c).good (v := .int (nI c3)) (S' := cAct (cSet S_39 3 ((msort J).1))) (by rw [g_sort (by decide), xS_39_3, ec3])) sX2_sort mw_429 mKX2 rfl c38c.1 rfl (Nat.le_of_ble_eq_true rfl) ⟨⟨Nat.le_of_ble_eq_true rfl, Nat.le_of_ble_eq_true rfl⟩, (by simp only [rX2_many, rX2_sort, rX2_copy, rX2_join, rX2_key, rX2_stamp, rX2_merge, rX2_same, rX2_isSorted, rX2_mark, rL_areMerged]; omega), (by simp only [rX2_many, rX2_sort, rX2_copy, rX2_join, rX2_key, rX2_stamp, rX2_merge, rX2_same, rX2_isSorted, rX2_mark, rL_areMerged]; omega)⟩ (fun v40 h41 n42 c43 => ?_) (fun _ _ _ hx => hx.elim)
            obtain ⟨c43a, c43b, c43c, c43d⟩ := c43
            rw [c43a, c43b]
            obtain ⟨S_44, eS_44⟩ : ∃ z, z = cAct (cSet S_39 3 ((msort J).1)) := ⟨_, rfl⟩
            rw [← eS_44] at c43c
            have xS_44_3 : S_44.1 3 = (msort J).1 := by rw [eS_44]; exact cAct_at
            have xS_44_2 : S_44.1 2 = G2 := by rw [eS_44]; exact (cAct_ne (by decide)).trans xS_39_2
            have xS_44_1 : S_44.1 1 = A := by rw [eS_44]; exact (cAct_ne (by decide)).trans xS_39_1
            have xS_44_0 : S_44.1 0 = B := by rw [eS_44]; exact (cAct_ne (by decide)).trans xS_39_0
            show mT _ _ _ _ 85 [.ref 0, .int (nI 1), .int (nI all), .double 0, .double 0, .double 0, .double 0] [.int (nI c3)] _ _ _ _
            refine mt_if_ge dL_areMerged_85 (tgt := 90) rfl (fun q45 => ?_) (fun q45 => ?_)
            · have q45 := Int32.not_lt.mpr q45
              have q45 := (not_congr (mI_lt0 (by omega))).mp q45
              refine mt_iload_n dL_areMerged_90 rfl ?_
              refine mp_newarray dL_areMerged_91 mw_70 rfl (by omega) (by first | omega | (simp only [rX2_many, rX2_sort, rX2_copy, rX2_join, rX2_key, rX2_stamp, rX2_merge, rX2_same, rX2_isSorted, rX2_mark, rL_areMerged]; omega)) (by first | omega | (simp only [rX2_many, rX2_sort, rX2_copy, rX2_join, rX2_key, rX2_stamp, rX2_merge, rX2_same, rX2_isSorted, rX2_mark, rL_areMerged]; omega)) (fun h46 e47 f48 => ?_)
              have Ch49 := cAt.fr2 c43c (fun j hj => f48 j (by omega))
              refine mp_astore_n dL_areMerged_93 (ls' := [.ref 0, .int (nI 1), .int (nI all), .ref n, .double 0, .double 0, .double 0]) rfl rfl (by decide) rfl ?_
              refine mt_widen (cc' := 500 + 8 * (0 + 0)) (sc' := 5000 + 48 * (0 + 0)) (by first | omega | (simp only [rX2_many, rX2_sort, rX2_copy, rX2_join, rX2_key, rX2_stamp, rX2_merge, rX2_same, rX2_isSorted, rX2_mark, rL_areMerged]; omega)) (by first | omega | (simp only [rX2_many, rX2_sort, rX2_copy, rX2_join, rX2_key, rX2_stamp, rX2_merge, rX2_same, rX2_isSorted, rX2_mark, rL_areMerged]; omega)) ?_
              refine mt_iconst dL_areMerged_94 (v := nI 0) rfl ?_
              refine mp_istore dL_areMerged_95 (ls' := [.ref 0, .int (nI 1), .int (nI all), .ref n, .int (nI 0), .double 0, .double 0]) rfl (by decide) rfl ?_
              refine mt_iconst dL_areMerged_97 (v := nI 0) rfl ?_
              refine mp_istore dL_areMerged_98 (ls' := [.ref 0, .int (nI 1), .int (nI all), .ref n, .int (nI 0), .int (nI 0), .double 0]) rfl (by decide) rfl ?_
              refine tL_areMerged_100 hl (by decide) (by decide) (by decide) (by omega) hall ha9 xS_44_1 xS_44_0 (fun h_50 g_51 z52 z53 z54 => ?_) _ 0 0 h46 (fun _ => (0 : Int32)) (Nat.lt_succ_self _) Ch49 e47 List.drop_zero (fun j hj => absurd hj (by omega)) (by omega) (by omega)
              refine mt_aload_n dL_areMerged_205 rfl rfl ?_
              refine mt_iload_n dL_areMerged_206 rfl ?_
              refine mt_iconst dL_areMerged_207 (v := nI 1) rfl ?_
              refine mt_iload_n dL_areMerged_208 rfl ?_
              refine mp_isub dL_areMerged_209 (v := nI 0) (by decide) ?_
              refine mt_callV (N := mX2_merge) (Rc := rX2_merge) (As := [.int (nI 1), .int (nI 0)]) (st := []) dL_areMerged_210 ((kX2_merge hl z52).good (v := .int (nI (A.length + B.length))) (S' := cAct (cGiv (cSet S_44 1 (mg A B 0 0)) (bringL B true true A S_44.2.1).2)) (by rw [g_merge (by decide) (by decide) (by rw [xS_44_1]; exact kA) (by rw [xS_44_0]; exact kB) (by rw [xS_44_1, xS_44_0]; have := @rroom_ge 1; omega), xS_44_1, xS_44_0])) sX2_merge mw_421 mKX2 rfl z52.1 rfl (Nat.le_of_ble_eq_true rfl) ⟨⟨Nat.le_of_ble_eq_true rfl, Nat.le_of_ble_eq_true rfl⟩, (by simp only [rX2_many, rX2_sort, rX2_copy, rX2_join, rX2_key, rX2_stamp, rX2_merge, rX2_same, rX2_isSorted, rX2_mark, rL_areMerged]; omega), (by simp only [rX2_many, rX2_sort, rX2_copy, rX2_join, rX2_key, rX2_stamp, rX2_merge, rX2_same, rX2_isSorted, rX2_mark, rL_areMerged]; omega)⟩ (fun v55 h56 n57 c58 => ?_) (fun _ _ _ hx => hx.elim)
              obtain ⟨c58a, c58b, c58c, c58d⟩ := c58
              rw [c58a, c58b]
              obtain ⟨S_59, eS_59⟩ : ∃ z, z = cAct (cGiv (cSet S_44 1 (mg A B 0 0)) (bringL B true true A S_44.2.1).2) := ⟨_, rfl⟩
              rw [← eS_59] at c58c
              have xS_59_1 : S_59.1 1 = mg A B 0 0 := by rw [eS_59]; exact cGiv_at
              have xS_59_3 : S_59.1 3 = (msort J).1 := by rw [eS_59]; exact (cGiv_ne (by decide)).trans xS_44_3
              have xS_59_2 : S_59.1 2 = G2 := by rw [eS_59]; exact (cGiv_ne (by decide)).trans xS_44_2
              have xS_59_0 : S_59.1 0 = B := by rw [eS_59]; exact (cGiv_ne (by decide)).trans xS_44_0
              show mT _ _ _ _ 213 [.ref 0, .int (nI 1), .int (nI all), .ref n, .double 0, .double 0, .double 0] [.int (nI (A.length + B.length))] _ _ _ _
              refine mt_iload_n dL_areMerged_213 rfl ?_
              refine mt_icmp_ne dL_areMerged_214 (tgt := 234) rfl (fun q9 => absurd q9 (fun z => z (congrArg nI hall.symm))) (fun q9 => ?_)
              refine mt_aload_n dL_areMerged_217 rfl rfl ?_
              refine mt_iload_n dL_areMerged_218 rfl ?_
              refine mt_iconst dL_areMerged_219 (v := nI 3) rfl ?_
              refine mt_callV (N := mX2_same) (Rc := rX2_same) (As := [.int (nI 1), .int (nI 3)]) (st := []) dL_areMerged_220 ((kX2_same hl c58c).good (v := .int (nI 1)) (S' := S_59) (by rw [g_sameT (lenOk_of c58c) (by decide) (by decide) (by rw [xS_59_1, xS_59_3]; exact lf_mgk kA kB kJ), mb_t])) sX2_same mw_508 mKX2 rfl c58c.1 rfl (Nat.le_of_ble_eq_true rfl) ⟨⟨Nat.le_of_ble_eq_true rfl, Nat.le_of_ble_eq_true rfl⟩, (by simp only [rX2_many, rX2_sort, rX2_copy, rX2_join, rX2_key, rX2_stamp, rX2_merge, rX2_same, rX2_isSorted, rX2_mark, rL_areMerged]; omega), (by simp only [rX2_many, rX2_sort, rX2_copy, rX2_join, rX2_key, rX2_stamp, rX2_merge, rX2_same, rX2_isSorted, rX2_mark, rL_areMerged]; omega)⟩ (fun v60 h61 n62 c63 => ?_) (fun _ _ _ hx => hx.elim)
              obtain ⟨c63a, c63b, c63c, c63d⟩ := c63
              rw [c63a, c63b]
              show mT _ _ _ _ 223 [.ref 0, .int (nI 1), .int (nI all), .ref n, .double 0, .double 0, .double 0] [.int (nI 1)] _ _ _ _
              refine mt_if_eq dL_areMerged_223 (tgt := 234) rfl (fun q64 => ?_) (fun q64 => ?_)
              · have q64 := (mI_eq0 (by omega)).mp q64
                exact absurd q64 (by decide)
              · have q64 := (not_congr (mI_eq0 (by omega))).mp q64
                refine mt_aload_n dL_areMerged_226 rfl rfl ?_
                refine mt_iload_n dL_areMerged_227 rfl ?_
                refine mt_callV (N := mX2_isSorted) (Rc := rX2_isSorted) (As := [.int (nI 1)]) (st := []) dL_areMerged_228 ((kX2_isSorted hl c63c).good (v := .int (nI 1)) (S' := S_59) (by rw [g_isSorted (by decide), xS_59_1, lf_rises (mg_sorted kA kB), mb_t])) sX2_isSorted mw_448 mKX2 rfl c63c.1 rfl (Nat.le_of_ble_eq_true rfl) ⟨⟨Nat.le_of_ble_eq_true rfl, Nat.le_of_ble_eq_true rfl⟩, (by simp only [rX2_many, rX2_sort, rX2_copy, rX2_join, rX2_key, rX2_stamp, rX2_merge, rX2_same, rX2_isSorted, rX2_mark, rL_areMerged]; omega), (by simp only [rX2_many, rX2_sort, rX2_copy, rX2_join, rX2_key, rX2_stamp, rX2_merge, rX2_same, rX2_isSorted, rX2_mark, rL_areMerged]; omega)⟩ (fun v65 h66 n67 c68 => ?_) (fun _ _ _ hx => hx.elim)
                obtain ⟨c68a, c68b, c68c, c68d⟩ := c68
                rw [c68a, c68b]
                show mT _ _ _ _ 231 [.ref 0, .int (nI 1), .int (nI all), .ref n, .double 0, .double 0, .double 0] [.int (nI 1)] _ _ _ _
                refine mt_if_ne dL_areMerged_231 (tgt := 236) rfl (fun q69 => ?_) (fun q69 => ?_)
                · have q69 := (not_congr (mI_eq0 (by omega))).mp q69
                  refine mt_widen (cc' := 2000 + 2 * 0) (sc' := 13000 + 12 * 0) (by first | omega | (simp only [rX2_many, rX2_sort, rX2_copy, rX2_join, rX2_key, rX2_stamp, rX2_merge, rX2_same, rX2_isSorted, rX2_mark, rL_areMerged]; omega)) (by first | omega | (simp only [rX2_many, rX2_sort, rX2_copy, rX2_join, rX2_key, rX2_stamp, rX2_merge, rX2_same, rX2_isSorted, rX2_mark, rL_areMerged]; omega)) ?_
                  refine mt_iconst dL_areMerged_236 (v := nI 0) rfl ?_
                  refine mp_istore dL_areMerged_237 (ls' := [.ref 0, .int (nI 1), .int (nI all), .ref n, .double 0, .double 0, .int (nI 0)]) rfl (by decide) rfl ?_
                  refine tL_areMerged_239 hl (by decide) (by omega) hall ha9 xS_59_1 z54 (fun h_70 z71 => ?_) _ 0 h66 (Nat.lt_succ_self _) c68c ((c68d (n) (by omega)).trans ((c63d (n) (by omega)).trans ((c58d (n) (by omega)).trans z53))) (by omega)
                  refine mt_aload_n dL_areMerged_267 rfl rfl ?_
                  refine mt_iload_n dL_areMerged_268 rfl ?_
                  refine mt_iconst dL_areMerged_269 (v := nI 1) rfl ?_
                  refine mt_callV (N := mX2_mark) (Rc := rX2_mark) (As := [.int (nI 1), .int (nI 1)]) (st := []) dL_areMerged_270 ((kX2_mark (isStamps := true) hl z71).good (v := .int (q_mark (mg A B 0 0) true)) (S' := S_59) (by rw [g_mark (by decide), xS_59_1])) sX2_mark mw_504 mKX2 rfl z71.1 rfl (Nat.le_of_ble_eq_true rfl) ⟨⟨Nat.le_of_ble_eq_true rfl, Nat.le_of_ble_eq_true rfl⟩, (by simp only [rX2_many, rX2_sort, rX2_copy, rX2_join, rX2_key, rX2_stamp, rX2_merge, rX2_same, rX2_isSorted, rX2_mark, rL_areMerged]; omega), (by simp only [rX2_many, rX2_sort, rX2_copy, rX2_join, rX2_key, rX2_stamp, rX2_merge, rX2_same, rX2_isSorted, rX2_mark, rL_areMerged]; omega)⟩ (fun v72 h73 n74 c75 => ?_) (fun _ _ _ hx => hx.elim)
                  obtain ⟨c75a, c75b, c75c, c75d⟩ := c75
                  rw [c75a, c75b]
                  show mT _ _ _ _ 273 [.ref 0, .int (nI 1), .int (nI all), .ref n, .double 0, .double 0, .double 0] [.int (q_mark (mg A B 0 0) true)] _ _ _ _
                  refine mp_istore dL_areMerged_273 (ls' := [.ref 0, .int (nI 1), .int (nI all), .ref n, .double 0, .double 0, .int (q_mark (mg A B 0 0) true)]) rfl (by decide) rfl ?_
                  refine mt_aload_n dL_areMerged_275 rfl rfl ?_
                  refine mt_iload_n dL_areMerged_276 rfl ?_
                  refine mt_callV (N := mX2_sort) (Rc := rX2_sort) (As := [.int (nI 1)]) (st := []) dL_areMerged_277 ((kX2_sort hl c75c).good (v := .int (nI 0)) (S' := cAct (cSet S_59 1 (mg A B 0 0))) (by rw [g_sort (by decide), xS_59_1, lf_idem (mg_sorted kA kB), other_self0])) sX2_sort mw_429 mKX2 rfl c75c.1 rfl (Nat.le_of_ble_eq_true rfl) ⟨⟨Nat.le_of_ble_eq_true rfl, Nat.le_of_ble_eq_true rfl⟩, (by simp only [rX2_many, rX2_sort, rX2_copy, rX2_join, rX2_key, rX2_stamp, rX2_merge, rX2_same, rX2_isSorted, rX2_mark, rL_areMerged]; omega), (by simp only [rX2_many, rX2_sort, rX2_copy, rX2_join, rX2_key, rX2_stamp, rX2_merge, rX2_same, rX2_isSorted, rX2_mark, rL_areMerged]; omega)⟩ (fun v76 h77 n78 c79 => ?_) (fun _ _ _ hx => hx.elim)
                  obtain ⟨c79a, c79b, c79c, c79d⟩ := c79
                  rw [c79a, c79b]
                  obtain ⟨S_80, eS_80⟩ : ∃ z, z = cAct (cSet S_59 1 (mg A B 0 0)) := ⟨_, rfl⟩
                  rw [← eS_80] at c79c
                  have xS_80_1 : S_80.1 1 = mg A B 0 0 := by rw [eS_80]; exact cAct_at
                  have xS_80_3 : S_80.1 3 = (msort J).1 := by rw [eS_80]; exact (cAct_ne (by decide)).trans xS_59_3
                  have xS_80_2 : S_80.1 2 = G2 := by rw [eS_80]; exact (cAct_ne (by decide)).trans xS_59_2
                  have xS_80_0 : S_80.1 0 = B := by rw [eS_80]; exact (cAct_ne (by decide)).trans xS_59_0
                  show mT _ _ _ _ 280 [.ref 0, .int (nI 1), .int (nI all), .ref n, .double 0, .double 0, .int (q_mark (mg A B 0 0) true)] [.int (nI 0)] _ _ _ _
                  refine mt_if_ne dL_areMerged_280 (tgt := 298) rfl (fun q81 => ?_) (fun q81 => ?_)
                  · have q81 := (not_congr (mI_eq0 (by omega))).mp q81
                    exact absurd q81 (by decide)
                  · have q81 := (mI_eq0 (by omega)).mp q81
                    refine mt_aload_n dL_areMerged_283 rfl rfl ?_
                    refine mt_iload_n dL_areMerged_284 rfl ?_
                    refine mt_iconst dL_areMerged_285 (v := nI 1) rfl ?_
                    refine mt_callV (N := mX2_mark) (Rc := rX2_mark) (As := [.int (nI 1), .int (nI 1)]) (st := []) dL_areMerged_286 ((kX2_mark (isStamps := true) hl c79c).good (v := .int (q_mark (mg A B 0 0) true)) (S' := S_80) (by rw [g_mark (by decide), xS_80_1])) sX2_mark mw_504 mKX2 rfl c79c.1 rfl (Nat.le_of_ble_eq_true rfl) ⟨⟨Nat.le_of_ble_eq_true rfl, Nat.le_of_ble_eq_true rfl⟩, (by simp only [rX2_many, rX2_sort, rX2_copy, rX2_join, rX2_key, rX2_stamp, rX2_merge, rX2_same, rX2_isSorted, rX2_mark, rL_areMerged]; omega), (by simp only [rX2_many, rX2_sort, rX2_copy, rX2_join, rX2_key, rX2_stamp, rX2_merge, rX2_same, rX2_isSorted, rX2_mark, rL_areMerged]; omega)⟩ (fun v82 h83 n84 c85 => ?_) (fun _ _ _ hx => hx.elim)
                    obtain ⟨c85a, c85b, c85c, c85d⟩ := c85
                    rw [c85a, c85b]
                    show mT _ _ _ _ 289 [.ref 0, .int (nI 1), .int (nI all), .ref n, .double 0, .double 0, .int (q_mark (mg A B 0 0) true)] [.int (q_mark (mg A B 0 0) true)] _ _ _ _
                    refine mt_iload dL_areMerged_289 rfl ?_
                    refine mt_icmp_ne dL_areMerged_291 (tgt := 298) rfl (fun q9 => absurd q9 (fun z => z rfl)) (fun q9 => ?_)
                    refine mt_iconst dL_areMerged_294 (v := nI 1) rfl ?_
                    refine mt_goto dL_areMerged_295 (tgt := 299) rfl ?_
                    refine mt_ireturn dL_areMerged_299 rfl rfl (by simp only [rX2_many, rX2_sort, rX2_copy, rX2_join, rX2_key, rX2_stamp, rX2_merge, rX2_same, rX2_isSorted, rX2_mark, rL_areMerged]; omega) (by simp only [rX2_many, rX2_sort, rX2_copy, rX2_join, rX2_key, rX2_stamp, rX2_merge, rX2_same, rX2_isSorted, rX2_mark, rL_areMerged]; omega) ?_
                    exact ⟨by first | rfl | (rw [if_pos]; rfl), by omega, _, c85c⟩
                · have q69 := (mI_eq0 (by omega)).mp q69
                  exact absurd q69 (by decide)
            · have q45 := Int32.not_le.mp q45
              have q45 := (mI_lt0 (by omega)).mp q45
              exact q45.elim
      · have q22 := Int32.not_le.mp q22
        have q22 := (mI_lt0 (by omega)).mp q22
        exact q22.elim
theorem kL_areMerged {l : Launch} (hl : l.stackTraces = false) {h : mH} {n j : Nat} {S : cS} (C : cAt h S) (hn : 27 ≤ n) (hj : j < 2) : mC l mL_areMerged rL_areMerged [.ref 0, .int (nI j)] h n (fun v h' n' => v = some (.int (nI 1)) ∧ n ≤ n' ∧ ∃ S', cAt h' S') mNX := by
  obtain rfl | rfl : j = 0 ∨ j = 1 := by omega
  · exact kL_areMerged_0 hl C hn
  · exact kL_areMerged_1 hl C hn
