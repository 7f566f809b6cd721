/-! ===== the law: cell, pick, pairs ===== -/
abbrev rL_cell : Room := { frames := 0, cells := 0, slots := 0, locals := 0 }
set_option maxRecDepth 100000 in
theorem kL_cell {l : Launch} (hl : l.stackTraces = false) {h : mH} {n k : Nat} (hk : k < 1000) : mC l mL_cell rL_cell [.retAddr 0, .int (nI k)] h n (fun v h' n' => ∃ x, v = some (.int x) ∧ h' = h ∧ n' = n) mNX := by
  refine mm_enterS hl (by decide +kernel) rfl rfl rfl (Nat.le_of_ble_eq_true rfl) (fun L xs => ?_)
  show mT _ _ _ _ 0 [.retAddr 0, .int (nI k)] [] _ _ 0 0
  refine mt_iload_n dL_cell_0 rfl ?_
  refine mt_aload_n dL_cell_1 rfl rfl ?_
  refine mx_slen dL_cell_2 (fun hL9 => ?_)
  refine mt_icmp_ge dL_cell_3 (tgt := 12) rfl (fun q1 => ?_) (fun q1 => ?_)
  · have q1 := Int32.not_lt.mpr q1
    have q1 := (not_congr (nI_ltI (by omega) (by omega))).mp q1
    refine mt_ldc (v := nI 790386105) dL_cell_12 mw_202 ?_
    refine mt_iload_n dL_cell_14 rfl ?_
    refine mt_iconst dL_cell_15 (v := nI 3) rfl ?_
    refine mp_iadd dL_cell_16 (v := nI (k + 3)) (nI_add _ _) ?_
    refine mp_imul dL_cell_17 (v := nI (790386105 * (k + 3))) (mI_mul _ _) ?_
    refine mT_ks ?_
    refine mt_ireturn dL_cell_18 rfl rfl (Nat.le_of_ble_eq_true rfl) (Nat.le_of_ble_eq_true rfl) ?_
    exact ⟨_, rfl, rfl, rfl⟩
  · have q1 := Int32.not_le.mp q1
    have q1 := (nI_ltI (by omega) (by omega)).mp q1
    refine mt_aload_n dL_cell_6 rfl rfl ?_
    refine mt_iload_n dL_cell_7 rfl ?_
    refine mx_sld dL_cell_8 (by omega) hL9 ?_
    refine mt_goto dL_cell_9 (tgt := 18) rfl ?_
    refine mT_ks ?_
    refine mt_ireturn dL_cell_18 rfl rfl (Nat.le_of_ble_eq_true rfl) (Nat.le_of_ble_eq_true rfl) ?_
    exact ⟨_, rfl, rfl, rfl⟩
abbrev rL_pick : Room := { frames := 0, cells := 0, slots := 0, locals := 0 }
set_option maxRecDepth 100000 in
set_option maxHeartbeats 2000000 in
theorem kL_pick {l : Launch} (hl : l.stackTraces = false) {h : mH} {n N : Nat} {x k : Int32} (hN0 : 0 < N) (hN : N < 100000) : mC l mL_pick rL_pick [.int x, .int k, .int (nI N)] h n (fun v h' n' => ∃ j, j < N ∧ v = some (.int (nI j)) ∧ h' = h ∧ n' = n) (mNX) := by
  refine mm_enter hl (by decide +kernel) rfl rfl rfl (Nat.le_of_ble_eq_true rfl) ?_
  show mT _ _ _ _ 0 [.int x, .int k, .int (nI N)] [] _ _ 0 0
  refine mt_iload_n dL_pick_0 rfl ?_
  refine mt_iload_n dL_pick_1 rfl ?_
  refine mt_ldc (v := nI 1640531527) dL_pick_2 mw_206 ?_
  refine mp_imul dL_pick_4 (v := k * (nI 1640531527)) rfl ?_
  refine mt_ixor dL_pick_5 ?_
  refine mt_ldc (v := nI 625341585) dL_pick_6 mw_207 ?_
  refine mp_imul dL_pick_8 (v := (x ^^^ (k * (nI 1640531527))) * (nI 625341585)) rfl ?_
  refine mt_bipush dL_pick_9 (v := nI 9) (by decide) ?_
  refine mt_iushr9 dL_pick_11 (fun j1 hj1 => ?_)
  refine mt_iload_n dL_pick_12 rfl ?_
  refine mp_irem dL_pick_13 (mI_ne0 (by omega) (by omega)) (v := nI (j1 % N)) (pk_rem (by omega) (by omega) (by omega)) ?_
  refine mt_ireturn dL_pick_14 rfl rfl (Nat.le_of_ble_eq_true rfl) (Nat.le_of_ble_eq_true rfl) ?_
  exact ⟨j1 % N, Nat.mod_lt _ hN0, rfl, rfl, rfl⟩
abbrev rL_arePairs : Room := { frames := 9, cells := 1000, slots := 10000, locals := 155 }
set_option maxRecDepth 100000 in
set_option maxHeartbeats 2000000 in
theorem tL_arePairs_137 {l : Launch} {K : mK} {n r a b c u : Nat} {X : List mIt} (hl : l.stackTraces = false) (hr : r < 4) (hL : X.length ≤ 320) (hw0 : (msort X).2 = nI a) (hw1 : q_wrongPairs X = nI a) (hrt : q_rightPairs X = nI b) (hti : q_tiedPairsOfSorted (msort X).1 = nI c) (hru : q_runsInAll X = nI u) (kk0 : ∀ (k : Nat) (h : mH) (S : cS), (cAt h S) → (S.1 r = X) → mT l mL_arePairs rL_arePairs K 247 [.ref 0, .int (nI r), .int (nI X.length), .int (nI a), .int (nI k), .double 0, .double 0] [] h n 900 9000) : ∀ (N0 : Nat) (k : Nat) (h : mH) (S : cS), (4 - k) < N0 → (cAt h S) → (S.1 r = X) → (k ≤ 3) → mT l mL_arePairs rL_arePairs K 137 [.ref 0, .int (nI r), .int (nI X.length), .int (nI a), .int (nI k), .double 0, .double 0] [] h n (400 + 100 * k) (4000 + 1000 * k) := by
  intro N0
  induction N0 with
  | zero => intro k h S hm; exact absurd hm (Nat.not_lt_zero _)
  | succ N0 ih =>
    intro k h S hm C hX hk3
    refine mt_iload dL_arePairs_137 rfl ?_
    refine mt_iconst dL_arePairs_139 (v := nI 1) rfl ?_
    refine mp_iadd dL_arePairs_140 (v := nI (k + 1)) (nI_add _ _) ?_
    refine mt_iload_n dL_arePairs_141 rfl ?_
    refine mt_icmp_ge dL_arePairs_142 (tgt := 247) rfl (fun q1 => ?_) (fun q1 => ?_)
    · have q1 := Int32.not_lt.mpr q1
      have q1 := (not_congr (nI_ltI (by omega) (by omega))).mp q1
      refine mt_widen (cc' := 900) (sc' := 9000) (by first | omega | (simp only [rX2_many, rX2_wrong, rX2_right, rX2_ties, rX2_isSorted, rX2_isFalling, rX2_runs, rX2_exchange, rX2_key, rL_arePairs]; omega)) (by first | omega | (simp only [rX2_many, rX2_wrong, rX2_right, rX2_ties, rX2_isSorted, rX2_isFalling, rX2_runs, rX2_exchange, rX2_key, rL_arePairs]; omega)) ?_
      exact kk0 k h S C hX
    · have q1 := Int32.not_le.mp q1
      have q1 := (nI_ltI (by omega) (by omega)).mp q1
      refine mt_iload dL_arePairs_145 rfl ?_
      refine mt_iconst dL_arePairs_147 (v := nI 3) rfl ?_
      refine mt_icmp_ge dL_arePairs_148 (tgt := 247) rfl (fun q2 => ?_) (fun q2 => ?_)
      · have q2 := Int32.not_lt.mpr q2
        have q2 := (not_congr (nI_ltI (by omega) (by omega))).mp q2
        refine mt_widen (cc' := 900) (sc' := 9000) (by first | omega | (simp only [rX2_many, rX2_wrong, rX2_right, rX2_ties, rX2_isSorted, rX2_isFalling, rX2_runs, rX2_exchange, rX2_key, rL_arePairs]; omega)) (by first | omega | (simp only [rX2_many, rX2_wrong, rX2_right, rX2_ties, rX2_isSorted, rX2_isFalling, rX2_runs, rX2_exchange, rX2_key, rL_arePairs]; omega)) ?_
        exact kk0 k h S C hX
      · have q2 := Int32.not_le.mp q2
        have q2 := (nI_ltI (by omega) (by omega)).mp q2
        refine mt_aload_n dL_arePairs_151 rfl rfl ?_
        refine mt_iload_n dL_arePairs_152 rfl ?_
        refine mt_iload dL_arePairs_153 rfl ?_
        have hk9 : k + 1 < X.length := by omega
        have hYl : (swp X k (k + 1)).length = X.length := swp_len
        refine mt_callV (N := mX2_exchange) (Rc := rX2_exchange) (As := [.int (nI r), .int (nI k)]) (st := []) dL_arePairs_155 ((kX2_exchange hl C).good (v := .int (q_wrongerByExchange X k)) (S' := cAct (cSet S r (swp X k (k + 1)))) (by rw [g_exchange (lenOk_of C) hr (by rw [hX]; omega), hX])) sX2_exchange mw_370 mKX2 rfl C.1 rfl (Nat.le_of_ble_eq_true rfl) ⟨⟨Nat.le_of_ble_eq_true rfl, Nat.le_of_ble_eq_true rfl⟩, (by simp only [rX2_many, rX2_wrong, rX2_right, rX2_ties, rX2_isSorted, rX2_isFalling, rX2_runs, rX2_exchange, rX2_key, rL_arePairs]; omega), (by simp only [rX2_many, rX2_wrong, rX2_right, rX2_ties, rX2_isSorted, rX2_isFalling, rX2_runs, rX2_exchange, rX2_key, rL_arePairs]; omega)⟩ (fun v3 h4 n5 c6 => ?_) (fun _ _ _ hx => hx.elim)
        obtain ⟨c6a, c6b, c6c, c6d⟩ := c6
        rw [c6a, c6b]
        obtain ⟨S_7, eS_7⟩ : ∃ z, z = cAct (cSet S r (swp X k (k + 1))) := ⟨_, rfl⟩
        rw [← eS_7] at c6c
        have xS_7_r : S_7.1 r = swp X k (k + 1) := by rw [eS_7]; exact cAct_at
        show mT _ _ _ _ 158 [.ref 0, .int (nI r), .int (nI X.length), .int (nI a), .int (nI k), .double 0, .double 0] [.int (q_wrongerByExchange X k)] _ _ _ _
        refine mp_istore dL_arePairs_158 (ls' := [.ref 0, .int (nI r), .int (nI X.length), .int (nI a), .int (nI k), .int (q_wrongerByExchange X k), .double 0]) rfl (by decide) rfl ?_
        refine mt_aload_n dL_arePairs_160 rfl rfl ?_
        refine mt_iload_n dL_arePairs_161 rfl ?_
        refine mt_iload dL_arePairs_162 rfl ?_
        refine mt_callV (N := mX2_key) (Rc := rX2_key) (As := [.int (nI r), .int (nI k)]) (st := []) dL_arePairs_164 ((kX2_key hl c6c).good (v := .int (xk (swp X k (k + 1)) k)) (S' := S_7) (by rw [g_key (lenOk_of c6c) hr (by rw [xS_7_r]; omega), xS_7_r])) sX2_key mw_468 mKX2 rfl c6c.1 rfl (Nat.le_of_ble_eq_true rfl) ⟨⟨Nat.le_of_ble_eq_true rfl, Nat.le_of_ble_eq_true rfl⟩, (by simp only [rX2_many, rX2_wrong, rX2_right, rX2_ties, rX2_isSorted, rX2_isFalling, rX2_runs, rX2_exchange, rX2_key, rL_arePairs]; omega), (by simp only [rX2_many, rX2_wrong, rX2_right, rX2_ties, rX2_isSorted, rX2_isFalling, rX2_runs, rX2_exchange, rX2_key, rL_arePairs]; omega)⟩ (fun v8 h9 n10 c11 => ?_) (fun _ _ _ hx => hx.elim)
        obtain ⟨c11a, c11b, c11c, c11d⟩ := c11
        rw [c11a, c11b]
        show mT _ _ _ _ 167 [.ref 0, .int (nI r), .int (nI X.length), .int (nI a), .int (nI k), .int (q_wrongerByExchange X k), .double 0] [.int (xk (swp X k (k + 1)) k)] _ _ _ _
        refine mt_aload_n dL_arePairs_167 rfl rfl ?_
        refine mt_iload_n dL_arePairs_168 rfl ?_
        refine mt_iload dL_arePairs_169 rfl ?_
        refine mt_iconst dL_arePairs_171 (v := nI 1) rfl ?_
        refine mp_iadd dL_arePairs_172 (v := nI (k + 1)) (nI_add _ _) ?_
        refine mt_callV (N := mX2_key) (Rc := rX2_key) (As := [.int (nI r), .int (nI (k + 1))]) (st := [.int (xk (swp X k (k + 1)) k)]) dL_arePairs_173 ((kX2_key hl c11c).good (v := .int (xk (swp X k (k + 1)) (k + 1))) (S' := S_7) (by rw [g_key (lenOk_of c11c) hr (by rw [xS_7_r]; omega), xS_7_r])) sX2_key mw_468 mKX2 rfl c11c.1 rfl (Nat.le_of_ble_eq_true rfl) ⟨⟨Nat.le_of_ble_eq_true rfl, Nat.le_of_ble_eq_true rfl⟩, (by simp only [rX2_many, rX2_wrong, rX2_right, rX2_ties, rX2_isSorted, rX2_isFalling, rX2_runs, rX2_exchange, rX2_key, rL_arePairs]; omega), (by simp only [rX2_many, rX2_wrong, rX2_right, rX2_ties, rX2_isSorted, rX2_isFalling, rX2_runs, rX2_exchange, rX2_key, rL_arePairs]; omega)⟩ (fun v12 h13 n14 c15 => ?_) (fun _ _ _ hx => hx.elim)
        obtain ⟨c15a, c15b, c15c, c15d⟩ := c15
        rw [c15a, c15b]
        show mT _ _ _ _ 176 [.ref 0, .int (nI r), .int (nI X.length), .int (nI a), .int (nI k), .int (q_wrongerByExchange X k), .double 0] [.int (xk (swp X k (k + 1)) (k + 1)), .int (xk (swp X k (k + 1)) k)] _ _ _ _
        refine mt_joinH S_7 (pc2 := 201) (ls2 := [.ref 0, .int (nI r), .int (nI X.length), .int (nI a), .int (nI k), .int (q_wrongerByExchange X k), .double 0]) (st2 := []) (n2 := n) (cc2 := 450 + 100 * k) (sc2 := 4500 + 1000 * k) (fun hj16 Cj16 => ?_) (fun kk16 => ?_)
        · refine mt_iload dL_arePairs_201 rfl ?_
          refine mt_iconst dL_arePairs_203 (v := -1) rfl ?_
          refine mt_icmp_lt dL_arePairs_204 (tgt := 239) rfl (fun q9 => absurd q9 (by rcases lf_wx X k with z | z | z <;> rw [z] <;> decide)) (fun q9 => ?_)
          refine mt_iload dL_arePairs_207 rfl ?_
          refine mt_iconst dL_arePairs_209 (v := nI 1) rfl ?_
          refine mt_icmp_gt dL_arePairs_210 (tgt := 239) rfl (fun q9 => absurd q9 (by rcases lf_wx X k with z | z | z <;> rw [z] <;> decide)) (fun q9 => ?_)
          refine mt_aload_n dL_arePairs_213 rfl rfl ?_
          refine mt_iload_n dL_arePairs_214 rfl ?_
          refine mt_iconst dL_arePairs_215 (v := nI 0) rfl ?_
          refine mt_callV (N := mX2_wrong) (Rc := rX2_wrong) (As := [.int (nI r), .int (nI 0)]) (st := []) dL_arePairs_216 ((kX2_wrong hl Cj16).good (v := .int (nI a + q_wrongerByExchange X k)) (S' := S_7) (by rw [g_wrong0 hr, xS_7_r, lf_swp_pr hk9, hw0])) sX2_wrong mw_436 mKX2 rfl Cj16.1 rfl (Nat.le_of_ble_eq_true rfl) ⟨⟨Nat.le_of_ble_eq_true rfl, Nat.le_of_ble_eq_true rfl⟩, (by simp only [rX2_many, rX2_wrong, rX2_right, rX2_ties, rX2_isSorted, rX2_isFalling, rX2_runs, rX2_exchange, rX2_key, rL_arePairs]; omega), (by simp only [rX2_many, rX2_wrong, rX2_right, rX2_ties, rX2_isSorted, rX2_isFalling, rX2_runs, rX2_exchange, rX2_key, rL_arePairs]; omega)⟩ (fun v17 h18 n19 c20 => ?_) (fun _ _ _ hx => hx.elim)
          obtain ⟨c20a, c20b, c20c, c20d⟩ := c20
          rw [c20a, c20b]
          show mT _ _ _ _ 219 [.ref 0, .int (nI r), .int (nI X.length), .int (nI a), .int (nI k), .int (q_wrongerByExchange X k), .double 0] [.int (nI a + q_wrongerByExchange X k)] _ _ _ _
          refine mt_iload_n dL_arePairs_219 rfl ?_
          refine mt_iload dL_arePairs_220 rfl ?_
          refine mp_iadd dL_arePairs_222 (v := (nI a) + (q_wrongerByExchange X k)) rfl ?_
          refine mt_icmp_ne dL_arePairs_223 (tgt := 239) rfl (fun q9 => absurd q9 (fun z => z rfl)) (fun q9 => ?_)
          refine mt_aload_n dL_arePairs_226 rfl rfl ?_
          refine mt_iload_n dL_arePairs_227 rfl ?_
          refine mt_iload dL_arePairs_228 rfl ?_
          refine mt_callV (N := mX2_exchange) (Rc := rX2_exchange) (As := [.int (nI r), .int (nI k)]) (st := []) dL_arePairs_230 ((kX2_exchange hl c20c).good (v := .int (-(q_wrongerByExchange X k))) (S' := cAct (cSet S_7 r (swp (swp X k (k + 1)) k (k + 1)))) (by rw [g_exchange (lenOk_of c20c) hr (by rw [xS_7_r]; omega), xS_7_r, lf_swp_wx hk9])) sX2_exchange mw_370 mKX2 rfl c20c.1 rfl (Nat.le_of_ble_eq_true rfl) ⟨⟨Nat.le_of_ble_eq_true rfl, Nat.le_of_ble_eq_true rfl⟩, (by simp only [rX2_many, rX2_wrong, rX2_right, rX2_ties, rX2_isSorted, rX2_isFalling, rX2_runs, rX2_exchange, rX2_key, rL_arePairs]; omega), (by simp only [rX2_many, rX2_wrong, rX2_right, rX2_ties, rX2_isSorted, rX2_isFalling, rX2_runs, rX2_exchange, rX2_key, rL_arePairs]; omega)⟩ (fun v21 h22 n23 c24 => ?_) (fun _ _ _ hx => hx.elim)
          obtain ⟨c24a, c24b, c24c, c24d⟩ := c24
          rw [c24a, c24b]
          obtain ⟨S_25, eS_25⟩ : ∃ z, z = cAct (cSet S_7 r (swp (swp X k (k + 1)) k (k + 1))) := ⟨_, rfl⟩
          rw [← eS_25] at c24c
          have xS_25_r : S_25.1 r = swp (swp X k (k + 1)) k (k + 1) := by rw [eS_25]; exact cAct_at
          show mT _ _ _ _ 233 [.ref 0, .int (nI r), .int (nI X.length), .int (nI a), .int (nI k), .int (q_wrongerByExchange X k), .double 0] [.int (-(q_wrongerByExchange X k))] _ _ _ _
          refine mt_iload dL_arePairs_233 rfl ?_
          refine mt_ineg dL_arePairs_235 ?_
          have hXb := xS_25_r
          rw [lf_swp_swp hk9] at hXb
          refine mt_icmp_eq dL_arePairs_236 (tgt := 241) rfl (fun q9 => ?_) (fun q9 => absurd q9 (fun z => z rfl))
          refine mp_iinc dL_arePairs_241 rfl (v := nI (k + 1)) mI_inc (ls' := [.ref 0, .int (nI r), .int (nI X.length), .int (nI a), .int (nI (k + 1)), .int (q_wrongerByExchange X k), .double 0]) rfl (by decide) rfl ?_
          refine mt_goto dL_arePairs_244 (tgt := 137) rfl ?_
          refine mt_drop 5 (ls' := [.ref 0, .int (nI r), .int (nI X.length), .int (nI a), .int (nI (k + 1)), .double 0, .double 0]) rfl ?_
          refine mt_widen (cc' := 400 + 100 * (k + 1)) (sc' := 4000 + 1000 * (k + 1)) (by first | omega | (simp only [rX2_many, rX2_wrong, rX2_right, rX2_ties, rX2_isSorted, rX2_isFalling, rX2_runs, rX2_exchange, rX2_key, rL_arePairs]; omega)) (by first | omega | (simp only [rX2_many, rX2_wrong, rX2_right, rX2_ties, rX2_isSorted, rX2_isFalling, rX2_runs, rX2_exchange, rX2_key, rL_arePairs]; omega)) ?_
          exact ih (k + 1) h22 S_25 (by omega) c24c hXb (by omega)
        · refine mt_icmp_ne dL_arePairs_176 (tgt := 183) rfl (fun q26 => ?_) (fun q26 => ?_)
          · refine mt_iconst dL_arePairs_183 (v := nI 0) rfl ?_
            refine mp_istore dL_arePairs_184 (ls' := [.ref 0, .int (nI r), .int (nI X.length), .int (nI a), .int (nI k), .int (q_wrongerByExchange X k), .int (nI 0)]) rfl (by decide) rfl ?_
            refine mt_iload dL_arePairs_186 rfl ?_
            refine mt_iload dL_arePairs_188 rfl ?_
            refine mt_if_ne dL_arePairs_190 (tgt := 197) rfl (fun q27 => ?_) (fun q27 => ?_)
            · refine mt_iconst dL_arePairs_197 (v := nI 0) rfl ?_
              refine mt_icmp_ne dL_arePairs_198 (tgt := 239) rfl (fun q9 => absurd q9 (fun z => z rfl)) (fun q9 => ?_)
              refine mt_drop 6 (ls' := [.ref 0, .int (nI r), .int (nI X.length), .int (nI a), .int (nI k), .int (q_wrongerByExchange X k), .double 0]) rfl ?_
              exact mt_widen (by first | omega | (simp only [rX2_many, rX2_wrong, rX2_right, rX2_ties, rX2_isSorted, rX2_isFalling, rX2_runs, rX2_exchange, rX2_key, rL_arePairs]; omega)) (by first | omega | (simp only [rX2_many, rX2_wrong, rX2_right, rX2_ties, rX2_isSorted, rX2_isFalling, rX2_runs, rX2_exchange, rX2_key, rL_arePairs]; omega)) (kk16 _ c15c)
            · refine mt_iconst dL_arePairs_193 (v := nI 1) rfl ?_
              refine mt_goto dL_arePairs_194 (tgt := 198) rfl ?_
              exact absurd ((lf_swp_like hk9).mpr q27) (q26)
          · refine mt_iconst dL_arePairs_179 (v := nI 1) rfl ?_
            refine mt_goto dL_arePairs_180 (tgt := 184) rfl ?_
            refine mp_istore dL_arePairs_184 (ls' := [.ref 0, .int (nI r), .int (nI X.length), .int (nI a), .int (nI k), .int (q_wrongerByExchange X k), .int (nI 1)]) rfl (by decide) rfl ?_
            refine mt_iload dL_arePairs_186 rfl ?_
            refine mt_iload dL_arePairs_188 rfl ?_
            refine mt_if_ne dL_arePairs_190 (tgt := 197) rfl (fun q28 => ?_) (fun q28 => ?_)
            · refine mt_iconst dL_arePairs_197 (v := nI 0) rfl ?_
              exact absurd ((lf_swp_like hk9).mp q26) (q28)
            · refine mt_iconst dL_arePairs_193 (v := nI 1) rfl ?_
              refine mt_goto dL_arePairs_194 (tgt := 198) rfl ?_
              refine mt_icmp_ne dL_arePairs_198 (tgt := 239) rfl (fun q9 => absurd q9 (fun z => z rfl)) (fun q9 => ?_)
              refine mt_drop 6 (ls' := [.ref 0, .int (nI r), .int (nI X.length), .int (nI a), .int (nI k), .int (q_wrongerByExchange X k), .double 0]) rfl ?_
              exact mt_widen (by first | omega | (simp only [rX2_many, rX2_wrong, rX2_right, rX2_ties, rX2_isSorted, rX2_isFalling, rX2_runs, rX2_exchange, rX2_key, rL_arePairs]; omega)) (by first | omega | (simp only [rX2_many, rX2_wrong, rX2_right, rX2_ties, rX2_isSorted, rX2_isFalling, rX2_runs, rX2_exchange, rX2_key, rL_arePairs]; omega)) (kk16 _ c15c)
set_option maxRecDepth 100000 in
set_option maxHeartbeats 2000000 in
theorem kL_arePairs {l : Launch} (hl : l.stackTraces = false) {h : mH} {n r : Nat} {S : cS} (C : cAt h S) (hr : r < 4) : mC l mL_arePairs rL_arePairs [.ref 0, .int (nI r)] h n (fun v h' n' => v = some (.int (nI 1)) ∧ n ≤ n' ∧ ∃ S', cAt h' S') (mNX) := by
  obtain ⟨X, hX⟩ : ∃ z, S.1 r = z := ⟨_, rfl⟩
  have hL : X.length ≤ 320 := by rw [← hX]; exact (lenOk_of C).le hr
  obtain ⟨a, b, c, T, hT, hT9, hpr, hw0, hw1, hrt, hti, htot, hrise, hfall⟩ := lf_row X hL
  obtain ⟨u, hru, hu9, hru1, hru2⟩ := lf_runs X hL
  refine mm_enter hl (by decide +kernel) rfl rfl rfl (Nat.le_of_ble_eq_true rfl) ?_
  show mT _ _ _ _ 0 [.ref 0, .int (nI r), .double 0, .double 0, .double 0, .double 0, .double 0] [] _ _ 0 0
  refine mt_aload_n dL_arePairs_0 rfl rfl ?_
  refine mt_iload_n dL_arePairs_1 rfl ?_
  refine mt_callV (N := mX2_many) (Rc := rX2_many) (As := [.int (nI r)]) (st := []) dL_arePairs_2 ((kX2_many hl C).good (v := .int (nI X.length)) (S' := S) (by rw [g_many hr, hX])) sX2_many mw_213 mKX2 rfl C.1 rfl (Nat.le_of_ble_eq_true rfl) ⟨⟨Nat.le_of_ble_eq_true rfl, Nat.le_of_ble_eq_true rfl⟩, (by simp only [rX2_many, rX2_wrong, rX2_right, rX2_ties, rX2_isSorted, rX2_isFalling, rX2_runs, rX2_exchange, rX2_key, rL_arePairs]; omega), (by simp only [rX2_many, rX2_wrong, rX2_right, rX2_ties, rX2_isSorted, rX2_isFalling, rX2_runs, rX2_exchange, rX2_key, rL_arePairs]; omega)⟩ (fun v1 h2 n3 c4 => ?_) (fun _ _ _ hx => hx.elim)
  obtain ⟨c4a, c4b, c4c, c4d⟩ := c4
  rw [c4a, c4b]
  show mT _ _ _ _ 5 [.ref 0, .int (nI r), .double 0, .double 0, .double 0, .double 0, .double 0] [.int (nI X.length)] _ _ _ _
  refine mp_istore_n dL_arePairs_5 (ls' := [.ref 0, .int (nI r), .int (nI X.length), .double 0, .double 0, .double 0, .double 0]) rfl (by decide) rfl ?_
  refine mt_aload_n dL_arePairs_6 rfl rfl ?_
  refine mt_iload_n dL_arePairs_7 rfl ?_
  refine mt_iconst dL_arePairs_8 (v := nI 0) rfl ?_
  refine mt_callV (N := mX2_wrong) (Rc := rX2_wrong) (As := [.int (nI r), .int (nI 0)]) (st := []) dL_arePairs_9 ((kX2_wrong hl c4c).good (v := .int (nI a)) (S' := S) (by rw [g_wrong0 hr, hX, hw0])) sX2_wrong mw_436 mKX2 rfl c4c.1 rfl (Nat.le_of_ble_eq_true rfl) ⟨⟨Nat.le_of_ble_eq_true rfl, Nat.le_of_ble_eq_true rfl⟩, (by simp only [rX2_many, rX2_wrong, rX2_right, rX2_ties, rX2_isSorted, rX2_isFalling, rX2_runs, rX2_exchange, rX2_key, rL_arePairs]; omega), (by simp only [rX2_many, rX2_wrong, rX2_right, rX2_ties, rX2_isSorted, rX2_isFalling, rX2_runs, rX2_exchange, rX2_key, rL_arePairs]; omega)⟩ (fun v5 h6 n7 c8 => ?_) (fun _ _ _ hx => hx.elim)
  obtain ⟨c8a, c8b, c8c, c8d⟩ := c8
  rw [c8a, c8b]
  show mT _ _ _ _ 12 [.ref 0, .int (nI r), .int (nI X.length), .double 0, .double 0, .double 0, .double 0] [.int (nI a)] _ _ _ _
  refine mp_istore_n dL_arePairs_12 (ls' := [.ref 0, .int (nI r), .int (nI X.length), .int (nI a), .double 0, .double 0, .double 0]) rfl (by decide) rfl ?_
  refine mt_aload_n dL_arePairs_13 rfl rfl ?_
  refine mt_iload_n dL_arePairs_14 rfl ?_
  refine mt_iconst dL_arePairs_15 (v := nI 1) rfl ?_
  refine mt_callV (N := mX2_wrong) (Rc := rX2_wrong) (As := [.int (nI r), .int (nI 1)]) (st := []) dL_arePairs_16 ((kX2_wrong hl c8c).good (v := .int (nI a)) (S' := S) (by rw [g_wrong1 hr, hX, hw1])) sX2_wrong mw_436 mKX2 rfl c8c.1 rfl (Nat.le_of_ble_eq_true rfl) ⟨⟨Nat.le_of_ble_eq_true rfl, Nat.le_of_ble_eq_true rfl⟩, (by simp only [rX2_many, rX2_wrong, rX2_right, rX2_ties, rX2_isSorted, rX2_isFalling, rX2_runs, rX2_exchange, rX2_key, rL_arePairs]; omega), (by simp only [rX2_many, rX2_wrong, rX2_right, rX2_ties, rX2_isSorted, rX2_isFalling, rX2_runs, rX2_exchange, rX2_key, rL_arePairs]; omega)⟩ (fun v9 h10 n11 c12 => ?_) (fun _ _ _ hx => hx.elim)
  obtain ⟨c12a, c12b, c12c, c12d⟩ := c12
  rw [c12a, c12b]
  show mT _ _ _ _ 19 [.ref 0, .int (nI r), .int (nI X.length), .int (nI a), .double 0, .double 0, .double 0] [.int (nI a)] _ _ _ _
  refine mt_iload_n dL_arePairs_19 rfl ?_
  refine mt_icmp_ne dL_arePairs_20 (tgt := 87) rfl (fun q9 => absurd q9 (fun z => z rfl)) (fun q9 => ?_)
  refine mt_iload_n dL_arePairs_23 rfl ?_
  refine mt_aload_n dL_arePairs_24 rfl rfl ?_
  refine mt_iload_n dL_arePairs_25 rfl ?_
  refine mt_callV (N := mX2_right) (Rc := rX2_right) (As := [.int (nI r)]) (st := [.int (nI a)]) dL_arePairs_26 ((kX2_right hl c12c).good (v := .int (nI b)) (S' := S) (by rw [g_right hr, hX, hrt])) sX2_right mw_440 mKX2 rfl c12c.1 rfl (Nat.le_of_ble_eq_true rfl) ⟨⟨Nat.le_of_ble_eq_true rfl, Nat.le_of_ble_eq_true rfl⟩, (by simp only [rX2_many, rX2_wrong, rX2_right, rX2_ties, rX2_isSorted, rX2_isFalling, rX2_runs, rX2_exchange, rX2_key, rL_arePairs]; omega), (by simp only [rX2_many, rX2_wrong, rX2_right, rX2_ties, rX2_isSorted, rX2_isFalling, rX2_runs, rX2_exchange, rX2_key, rL_arePairs]; omega)⟩ (fun v13 h14 n15 c16 => ?_) (fun _ _ _ hx => hx.elim)
  obtain ⟨c16a, c16b, c16c, c16d⟩ := c16
  rw [c16a, c16b]
  show mT _ _ _ _ 29 [.ref 0, .int (nI r), .int (nI X.length), .int (nI a), .double 0, .double 0, .double 0] [.int (nI b), .int (nI a)] _ _ _ _
  refine mp_iadd dL_arePairs_29 (v := nI (a + b)) (nI_add _ _) ?_
  refine mt_aload_n dL_arePairs_30 rfl rfl ?_
  refine mt_iload_n dL_arePairs_31 rfl ?_
  refine mt_callV (N := mX2_ties) (Rc := rX2_ties) (As := [.int (nI r)]) (st := [.int (nI (a + b))]) dL_arePairs_32 ((kX2_ties hl c16c).good (v := .int (nI c)) (S' := S) (by rw [g_ties hr, hX, hti])) sX2_ties mw_444 mKX2 rfl c16c.1 rfl (Nat.le_of_ble_eq_true rfl) ⟨⟨Nat.le_of_ble_eq_true rfl, Nat.le_of_ble_eq_true rfl⟩, (by simp only [rX2_many, rX2_wrong, rX2_right, rX2_ties, rX2_isSorted, rX2_isFalling, rX2_runs, rX2_exchange, rX2_key, rL_arePairs]; omega), (by simp only [rX2_many, rX2_wrong, rX2_right, rX2_ties, rX2_isSorted, rX2_isFalling, rX2_runs, rX2_exchange, rX2_key, rL_arePairs]; omega)⟩ (fun v17 h18 n19 c20 => ?_) (fun _ _ _ hx => hx.elim)
  obtain ⟨c20a, c20b, c20c, c20d⟩ := c20
  rw [c20a, c20b]
  show mT _ _ _ _ 35 [.ref 0, .int (nI r), .int (nI X.length), .int (nI a), .double 0, .double 0, .double 0] [.int (nI c), .int (nI (a + b))] _ _ _ _
  refine mp_iadd dL_arePairs_35 (v := nI ((a + b) + c)) (nI_add _ _) ?_
  refine mt_iload_n dL_arePairs_36 rfl ?_
  refine mt_iload_n dL_arePairs_37 rfl ?_
  refine mt_iconst dL_arePairs_38 (v := nI 1) rfl ?_
  refine mp_isub dL_arePairs_39 (v := (nI X.length) - (nI 1)) rfl ?_
  refine mp_imul dL_arePairs_40 (v := (nI X.length) * ((nI X.length) - (nI 1))) rfl ?_
  refine mt_iconst dL_arePairs_41 (v := nI 2) rfl ?_
  refine mp_idiv dL_arePairs_42 ((mI_ne0 (by first | decide | omega) (by first | decide | omega))) (v := ((nI X.length) * ((nI X.length) - (nI 1))) / (nI 2)) rfl ?_
  rw [htot]
  rw [hT]
  refine mt_icmp_ne dL_arePairs_43 (tgt := 87) rfl (fun q9 => absurd q9 (fun z => z rfl)) (fun q9 => ?_)
  refine mt_aload_n dL_arePairs_46 rfl rfl ?_
  refine mt_iload_n dL_arePairs_47 rfl ?_
  refine mt_callV (N := mX2_isSorted) (Rc := rX2_isSorted) (As := [.int (nI r)]) (st := []) dL_arePairs_48 ((kX2_isSorted hl c20c).good (v := .int (mb (q_isRising X))) (S' := S) (by rw [g_isSorted hr, hX])) sX2_isSorted mw_448 mKX2 rfl c20c.1 rfl (Nat.le_of_ble_eq_true rfl) ⟨⟨Nat.le_of_ble_eq_true rfl, Nat.le_of_ble_eq_true rfl⟩, (by simp only [rX2_many, rX2_wrong, rX2_right, rX2_ties, rX2_isSorted, rX2_isFalling, rX2_runs, rX2_exchange, rX2_key, rL_arePairs]; omega), (by simp only [rX2_many, rX2_wrong, rX2_right, rX2_ties, rX2_isSorted, rX2_isFalling, rX2_runs, rX2_exchange, rX2_key, rL_arePairs]; omega)⟩ (fun v21 h22 n23 c24 => ?_) (fun _ _ _ hx => hx.elim)
  obtain ⟨c24a, c24b, c24c, c24d⟩ := c24
  rw [c24a, c24b]
  show mT _ _ _ _ 51 [.ref 0, .int (nI r), .int (nI X.length), .int (nI a), .double 0, .double 0, .double 0] [.int (mb (q_isRising X))] _ _ _ _
  refine mt_joinH S (pc2 := 63) (ls2 := [.ref 0, .int (nI r), .int (nI X.length), .int (nI a), .double 0, .double 0, .double 0]) (st2 := []) (n2 := n) (cc2 := 250) (sc2 := 2000) (fun hj25 Cj25 => ?_) (fun kk25 => ?_)
  · refine mt_joinH S (pc2 := 89) (ls2 := [.ref 0, .int (nI r), .int (nI X.length), .int (nI a), .double 0, .double 0, .double 0]) (st2 := []) (n2 := n) (cc2 := 300) (sc2 := 2500) (fun hj26 Cj26 => ?_) (fun kk26 => ?_)
    · refine mt_joinH S (pc2 := 115) (ls2 := [.ref 0, .int (nI r), .int (nI X.length), .int (nI a), .double 0, .double 0, .double 0]) (st2 := []) (n2 := n) (cc2 := 350) (sc2 := 3000) (fun hj27 Cj27 => ?_) (fun kk27 => ?_)
      · refine mt_joinH S (pc2 := 134) (ls2 := [.ref 0, .int (nI r), .int (nI X.length), .int (nI a), .double 0, .double 0, .double 0]) (st2 := []) (n2 := n) (cc2 := 400) (sc2 := 3500) (fun hj28 Cj28 => ?_) (fun kk28 => ?_)
        · refine mt_widen (cc' := 400 + 100 * 0) (sc' := 4000 + 1000 * 0) (by first | omega | (simp only [rX2_many, rX2_wrong, rX2_right, rX2_ties, rX2_isSorted, rX2_isFalling, rX2_runs, rX2_exchange, rX2_key, rL_arePairs]; omega)) (by first | omega | (simp only [rX2_many, rX2_wrong, rX2_right, rX2_ties, rX2_isSorted, rX2_isFalling, rX2_runs, rX2_exchange, rX2_key, rL_arePairs]; omega)) ?_
          refine mt_iconst dL_arePairs_134 (v := nI 0) rfl ?_
          refine mp_istore dL_arePairs_135 (ls' := [.ref 0, .int (nI r), .int (nI X.length), .int (nI a), .int (nI 0), .double 0, .double 0]) rfl (by decide) rfl ?_
          refine tL_arePairs_137 hl hr hL hw0 hw1 hrt hti hru (fun k_29 h_30 S_31 z32 z33 => ?_) _ 0 hj28 S (Nat.lt_succ_self _) Cj28 hX (by omega)
          refine mt_aload_n dL_arePairs_247 rfl rfl ?_
          refine mt_iload_n dL_arePairs_248 rfl ?_
          refine mt_iconst dL_arePairs_249 (v := nI 1) rfl ?_
          refine mt_callV (N := mX2_wrong) (Rc := rX2_wrong) (As := [.int (nI r), .int (nI 1)]) (st := []) dL_arePairs_250 ((kX2_wrong hl z32).good (v := .int (nI a)) (S' := S_31) (by rw [g_wrong1 hr, z33, hw1])) sX2_wrong mw_436 mKX2 rfl z32.1 rfl (Nat.le_of_ble_eq_true rfl) ⟨⟨Nat.le_of_ble_eq_true rfl, Nat.le_of_ble_eq_true rfl⟩, (by simp only [rX2_many, rX2_wrong, rX2_right, rX2_ties, rX2_isSorted, rX2_isFalling, rX2_runs, rX2_exchange, rX2_key, rL_arePairs]; omega), (by simp only [rX2_many, rX2_wrong, rX2_right, rX2_ties, rX2_isSorted, rX2_isFalling, rX2_runs, rX2_exchange, rX2_key, rL_arePairs]; omega)⟩ (fun v34 h35 n36 c37 => ?_) (fun _ _ _ hx => hx.elim)
          obtain ⟨c37a, c37b, c37c, c37d⟩ := c37
          rw [c37a, c37b]
          show mT _ _ _ _ 253 [.ref 0, .int (nI r), .int (nI X.length), .int (nI a), .int (nI k_29), .double 0, .double 0] [.int (nI a)] _ _ _ _
          refine mt_iload_n dL_arePairs_253 rfl ?_
          refine mt_icmp_ne dL_arePairs_254 (tgt := 261) rfl (fun q9 => absurd q9 (fun z => z rfl)) (fun q9 => ?_)
          refine mt_iconst dL_arePairs_257 (v := nI 1) rfl ?_
          refine mt_goto dL_arePairs_258 (tgt := 262) rfl ?_
          refine mt_ireturn dL_arePairs_262 rfl rfl (by simp only [rX2_many, rX2_wrong, rX2_right, rX2_ties, rX2_isSorted, rX2_isFalling, rX2_runs, rX2_exchange, rX2_key, rL_arePairs]; omega) (by simp only [rX2_many, rX2_wrong, rX2_right, rX2_ties, rX2_isSorted, rX2_isFalling, rX2_runs, rX2_exchange, rX2_key, rL_arePairs]; omega) ?_
          exact ⟨rfl, Nat.le_refl _, _, c37c⟩
        · refine mt_aload_n dL_arePairs_115 rfl rfl ?_
          refine mt_iload_n dL_arePairs_116 rfl ?_
          refine mt_callV (N := mX2_isFalling) (Rc := rX2_isFalling) (As := [.int (nI r)]) (st := []) dL_arePairs_117 ((kX2_isFalling hl Cj27).good (v := .int (mb (q_fallsThroughout X))) (S' := S) (by rw [g_isFalling hr, hX])) sX2_isFalling mw_452 mKX2 rfl Cj27.1 rfl (Nat.le_of_ble_eq_true rfl) ⟨⟨Nat.le_of_ble_eq_true rfl, Nat.le_of_ble_eq_true rfl⟩, (by simp only [rX2_many, rX2_wrong, rX2_right, rX2_ties, rX2_isSorted, rX2_isFalling, rX2_runs, rX2_exchange, rX2_key, rL_arePairs]; omega), (by simp only [rX2_many, rX2_wrong, rX2_right, rX2_ties, rX2_isSorted, rX2_isFalling, rX2_runs, rX2_exchange, rX2_key, rL_arePairs]; omega)⟩ (fun v38 h39 n40 c41 => ?_) (fun _ _ _ hx => hx.elim)
          obtain ⟨c41a, c41b, c41c, c41d⟩ := c41
          rw [c41a, c41b]
          show mT _ _ _ _ 120 [.ref 0, .int (nI r), .int (nI X.length), .int (nI a), .double 0, .double 0, .double 0] [.int (mb (q_fallsThroughout X))] _ _ _ _
          refine mt_if_eq dL_arePairs_120 (tgt := 134) rfl (fun q42 => ?_) (fun q42 => ?_)
          · have q42 : (q_fallsThroughout X) = false := mb_0.mp q42
            exact mt_widen (by first | omega | (simp only [rX2_many, rX2_wrong, rX2_right, rX2_ties, rX2_isSorted, rX2_isFalling, rX2_runs, rX2_exchange, rX2_key, rL_arePairs]; omega)) (by first | omega | (simp only [rX2_many, rX2_wrong, rX2_right, rX2_ties, rX2_isSorted, rX2_isFalling, rX2_runs, rX2_exchange, rX2_key, rL_arePairs]; omega)) (kk28 _ c41c)
          · have q42 : (q_fallsThroughout X) = true := mb_1.mp q42
            refine mt_aload_n dL_arePairs_123 rfl rfl ?_
            refine mt_iload_n dL_arePairs_124 rfl ?_
            refine mt_callV (N := mX2_runs) (Rc := rX2_runs) (As := [.int (nI r)]) (st := []) dL_arePairs_125 ((kX2_runs hl c41c).good (v := .int (nI u)) (S' := S) (by rw [g_runs hr, hX, hru])) sX2_runs mw_460 mKX2 rfl c41c.1 rfl (Nat.le_of_ble_eq_true rfl) ⟨⟨Nat.le_of_ble_eq_true rfl, Nat.le_of_ble_eq_true rfl⟩, (by simp only [rX2_many, rX2_wrong, rX2_right, rX2_ties, rX2_isSorted, rX2_isFalling, rX2_runs, rX2_exchange, rX2_key, rL_arePairs]; omega), (by simp only [rX2_many, rX2_wrong, rX2_right, rX2_ties, rX2_isSorted, rX2_isFalling, rX2_runs, rX2_exchange, rX2_key, rL_arePairs]; omega)⟩ (fun v43 h44 n45 c46 => ?_) (fun _ _ _ hx => hx.elim)
            obtain ⟨c46a, c46b, c46c, c46d⟩ := c46
            rw [c46a, c46b]
            show mT _ _ _ _ 128 [.ref 0, .int (nI r), .int (nI X.length), .int (nI a), .double 0, .double 0, .double 0] [.int (nI u)] _ _ _ _
            refine mt_iload_n dL_arePairs_128 rfl ?_
            refine mt_icmp_eq dL_arePairs_129 (tgt := 134) rfl (fun q9 => ?_) (fun q9 => absurd q9 (fun z => z (by rw [hru2 q42])))
            exact mt_widen (by first | omega | (simp only [rX2_many, rX2_wrong, rX2_right, rX2_ties, rX2_isSorted, rX2_isFalling, rX2_runs, rX2_exchange, rX2_key, rL_arePairs]; omega)) (by first | omega | (simp only [rX2_many, rX2_wrong, rX2_right, rX2_ties, rX2_isSorted, rX2_isFalling, rX2_runs, rX2_exchange, rX2_key, rL_arePairs]; omega)) (kk28 _ c46c)
      · refine mt_iload_n dL_arePairs_89 rfl ?_
        refine mt_if_le dL_arePairs_90 (tgt := 115) rfl (fun q47 => ?_) (fun q47 => ?_)
        · have q47 := Int32.not_lt.mpr q47
          have q47 := (not_congr (mI_gt0 (by omega))).mp q47
          exact mt_widen (by first | omega | (simp only [rX2_many, rX2_wrong, rX2_right, rX2_ties, rX2_isSorted, rX2_isFalling, rX2_runs, rX2_exchange, rX2_key, rL_arePairs]; omega)) (by first | omega | (simp only [rX2_many, rX2_wrong, rX2_right, rX2_ties, rX2_isSorted, rX2_isFalling, rX2_runs, rX2_exchange, rX2_key, rL_arePairs]; omega)) (kk27 _ Cj26)
        · have q47 := Int32.not_le.mp q47
          have q47 := (mI_gt0 (by omega)).mp q47
          refine mt_aload_n dL_arePairs_93 rfl rfl ?_
          refine mt_iload_n dL_arePairs_94 rfl ?_
          refine mt_callV (N := mX2_runs) (Rc := rX2_runs) (As := [.int (nI r)]) (st := []) dL_arePairs_95 ((kX2_runs hl Cj26).good (v := .int (nI u)) (S' := S) (by rw [g_runs hr, hX, hru])) sX2_runs mw_460 mKX2 rfl Cj26.1 rfl (Nat.le_of_ble_eq_true rfl) ⟨⟨Nat.le_of_ble_eq_true rfl, Nat.le_of_ble_eq_true rfl⟩, (by simp only [rX2_many, rX2_wrong, rX2_right, rX2_ties, rX2_isSorted, rX2_isFalling, rX2_runs, rX2_exchange, rX2_key, rL_arePairs]; omega), (by simp only [rX2_many, rX2_wrong, rX2_right, rX2_ties, rX2_isSorted, rX2_isFalling, rX2_runs, rX2_exchange, rX2_key, rL_arePairs]; omega)⟩ (fun v48 h49 n50 c51 => ?_) (fun _ _ _ hx => hx.elim)
          obtain ⟨c51a, c51b, c51c, c51d⟩ := c51
          rw [c51a, c51b]
          show mT _ _ _ _ 98 [.ref 0, .int (nI r), .int (nI X.length), .int (nI a), .double 0, .double 0, .double 0] [.int (nI u)] _ _ _ _
          refine mt_iconst dL_arePairs_98 (v := nI 1) rfl ?_
          refine mt_icmp_ne dL_arePairs_99 (tgt := 106) rfl (fun q52 => ?_) (fun q52 => ?_)
          · have q52 := (not_congr (nI_eq (by omega) (by omega))).mp q52
            refine mt_iconst dL_arePairs_106 (v := nI 0) rfl ?_
            refine mt_aload_n dL_arePairs_107 rfl rfl ?_
            refine mt_iload_n dL_arePairs_108 rfl ?_
            refine mt_callV (N := mX2_isSorted) (Rc := rX2_isSorted) (As := [.int (nI r)]) (st := [.int (nI 0)]) dL_arePairs_109 ((kX2_isSorted hl c51c).good (v := .int (mb (q_isRising X))) (S' := S) (by rw [g_isSorted hr, hX])) sX2_isSorted mw_448 mKX2 rfl c51c.1 rfl (Nat.le_of_ble_eq_true rfl) ⟨⟨Nat.le_of_ble_eq_true rfl, Nat.le_of_ble_eq_true rfl⟩, (by simp only [rX2_many, rX2_wrong, rX2_right, rX2_ties, rX2_isSorted, rX2_isFalling, rX2_runs, rX2_exchange, rX2_key, rL_arePairs]; omega), (by simp only [rX2_many, rX2_wrong, rX2_right, rX2_ties, rX2_isSorted, rX2_isFalling, rX2_runs, rX2_exchange, rX2_key, rL_arePairs]; omega)⟩ (fun v53 h54 n55 c56 => ?_) (fun _ _ _ hx => hx.elim)
            obtain ⟨c56a, c56b, c56c, c56d⟩ := c56
            rw [c56a, c56b]
            show mT _ _ _ _ 112 [.ref 0, .int (nI r), .int (nI X.length), .int (nI a), .double 0, .double 0, .double 0] [.int (mb (q_isRising X)), .int (nI 0)] _ _ _ _
            refine mt_icmp_ne dL_arePairs_112 (tgt := 132) rfl (fun q9 => absurd q9 (fun z => z (mb_no (hru1 (by omega)).symm q52).symm)) (fun q9 => ?_)
            exact mt_widen (by first | omega | (simp only [rX2_many, rX2_wrong, rX2_right, rX2_ties, rX2_isSorted, rX2_isFalling, rX2_runs, rX2_exchange, rX2_key, rL_arePairs]; omega)) (by first | omega | (simp only [rX2_many, rX2_wrong, rX2_right, rX2_ties, rX2_isSorted, rX2_isFalling, rX2_runs, rX2_exchange, rX2_key, rL_arePairs]; omega)) (kk27 _ c56c)
          · have q52 := (nI_eq (by omega) (by omega)).mp q52
            refine mt_iconst dL_arePairs_102 (v := nI 1) rfl ?_
            refine mt_goto dL_arePairs_103 (tgt := 107) rfl ?_
            refine mt_aload_n dL_arePairs_107 rfl rfl ?_
            refine mt_iload_n dL_arePairs_108 rfl ?_
            refine mt_callV (N := mX2_isSorted) (Rc := rX2_isSorted) (As := [.int (nI r)]) (st := [.int (nI 1)]) dL_arePairs_109 ((kX2_isSorted hl c51c).good (v := .int (mb (q_isRising X))) (S' := S) (by rw [g_isSorted hr, hX])) sX2_isSorted mw_448 mKX2 rfl c51c.1 rfl (Nat.le_of_ble_eq_true rfl) ⟨⟨Nat.le_of_ble_eq_true rfl, Nat.le_of_ble_eq_true rfl⟩, (by simp only [rX2_many, rX2_wrong, rX2_right, rX2_ties, rX2_isSorted, rX2_isFalling, rX2_runs, rX2_exchange, rX2_key, rL_arePairs]; omega), (by simp only [rX2_many, rX2_wrong, rX2_right, rX2_ties, rX2_isSorted, rX2_isFalling, rX2_runs, rX2_exchange, rX2_key, rL_arePairs]; omega)⟩ (fun v57 h58 n59 c60 => ?_) (fun _ _ _ hx => hx.elim)
            obtain ⟨c60a, c60b, c60c, c60d⟩ := c60
            rw [c60a, c60b]
            show mT _ _ _ _ 112 [.ref 0, .int (nI r), .int (nI X.length), .int (nI a), .double 0, .double 0, .double 0] [.int (mb (q_isRising X)), .int (nI 1)] _ _ _ _
            refine mt_icmp_ne dL_arePairs_112 (tgt := 132) rfl (fun q9 => absurd q9 (fun z => z (mb_yes (hru1 (by omega)).symm q52).symm)) (fun q9 => ?_)
            exact mt_widen (by first | omega | (simp only [rX2_many, rX2_wrong, rX2_right, rX2_ties, rX2_isSorted, rX2_isFalling, rX2_runs, rX2_exchange, rX2_key, rL_arePairs]; omega)) (by first | omega | (simp only [rX2_many, rX2_wrong, rX2_right, rX2_ties, rX2_isSorted, rX2_isFalling, rX2_runs, rX2_exchange, rX2_key, rL_arePairs]; omega)) (kk27 _ c60c)
    · refine mt_aload_n dL_arePairs_63 rfl rfl ?_
      refine mt_iload_n dL_arePairs_64 rfl ?_
      refine mt_callV (N := mX2_isFalling) (Rc := rX2_isFalling) (As := [.int (nI r)]) (st := []) dL_arePairs_65 ((kX2_isFalling hl Cj25).good (v := .int (mb (q_fallsThroughout X))) (S' := S) (by rw [g_isFalling hr, hX])) sX2_isFalling mw_452 mKX2 rfl Cj25.1 rfl (Nat.le_of_ble_eq_true rfl) ⟨⟨Nat.le_of_ble_eq_true rfl, Nat.le_of_ble_eq_true rfl⟩, (by simp only [rX2_many, rX2_wrong, rX2_right, rX2_ties, rX2_isSorted, rX2_isFalling, rX2_runs, rX2_exchange, rX2_key, rL_arePairs]; omega), (by simp only [rX2_many, rX2_wrong, rX2_right, rX2_ties, rX2_isSorted, rX2_isFalling, rX2_runs, rX2_exchange, rX2_key, rL_arePairs]; omega)⟩ (fun v61 h62 n63 c64 => ?_) (fun _ _ _ hx => hx.elim)
      obtain ⟨c64a, c64b, c64c, c64d⟩ := c64
      rw [c64a, c64b]
      show mT _ _ _ _ 68 [.ref 0, .int (nI r), .int (nI X.length), .int (nI a), .double 0, .double 0, .double 0] [.int (mb (q_fallsThroughout X))] _ _ _ _
      refine mt_iload_n dL_arePairs_68 rfl ?_
      refine mt_iload_n dL_arePairs_69 rfl ?_
      refine mt_iload_n dL_arePairs_70 rfl ?_
      refine mt_iconst dL_arePairs_71 (v := nI 1) rfl ?_
      refine mp_isub dL_arePairs_72 (v := (nI X.length) - (nI 1)) rfl ?_
      refine mp_imul dL_arePairs_73 (v := (nI X.length) * ((nI X.length) - (nI 1))) rfl ?_
      refine mt_iconst dL_arePairs_74 (v := nI 2) rfl ?_
      refine mp_idiv dL_arePairs_75 ((mI_ne0 (by first | decide | omega) (by first | decide | omega))) (v := ((nI X.length) * ((nI X.length) - (nI 1))) / (nI 2)) rfl ?_
      rw [htot]
      refine mt_icmp_ne dL_arePairs_76 (tgt := 83) rfl (fun q65 => ?_) (fun q65 => ?_)
      · have q65 := (not_congr (nI_eq (by omega) (by omega))).mp q65
        refine mt_iconst dL_arePairs_83 (v := nI 0) rfl ?_
        refine mt_icmp_eq dL_arePairs_84 (tgt := 89) rfl (fun q9 => ?_) (fun q9 => absurd q9 (fun z => z (mb_no hfall q65)))
        exact mt_widen (by first | omega | (simp only [rX2_many, rX2_wrong, rX2_right, rX2_ties, rX2_isSorted, rX2_isFalling, rX2_runs, rX2_exchange, rX2_key, rL_arePairs]; omega)) (by first | omega | (simp only [rX2_many, rX2_wrong, rX2_right, rX2_ties, rX2_isSorted, rX2_isFalling, rX2_runs, rX2_exchange, rX2_key, rL_arePairs]; omega)) (kk26 _ c64c)
      · have q65 := (nI_eq (by omega) (by omega)).mp q65
        refine mt_iconst dL_arePairs_79 (v := nI 1) rfl ?_
        refine mt_goto dL_arePairs_80 (tgt := 84) rfl ?_
        refine mt_icmp_eq dL_arePairs_84 (tgt := 89) rfl (fun q9 => ?_) (fun q9 => absurd q9 (fun z => z (mb_yes hfall q65)))
        exact mt_widen (by first | omega | (simp only [rX2_many, rX2_wrong, rX2_right, rX2_ties, rX2_isSorted, rX2_isFalling, rX2_runs, rX2_exchange, rX2_key, rL_arePairs]; omega)) (by first | omega | (simp only [rX2_many, rX2_wrong, rX2_right, rX2_ties, rX2_isSorted, rX2_isFalling, rX2_runs, rX2_exchange, rX2_key, rL_arePairs]; omega)) (kk26 _ c64c)
  · refine mt_iload_n dL_arePairs_51 rfl ?_
    refine mt_if_ne dL_arePairs_52 (tgt := 59) rfl (fun q66 => ?_) (fun q66 => ?_)
    · have q66 := (not_congr (mI_eq0 (by omega))).mp q66
      refine mt_iconst dL_arePairs_59 (v := nI 0) rfl ?_
      refine mt_icmp_ne dL_arePairs_60 (tgt := 87) rfl (fun q9 => absurd q9 (fun z => z (mb_no hrise q66))) (fun q9 => ?_)
      exact mt_widen (by first | omega | (simp only [rX2_many, rX2_wrong, rX2_right, rX2_ties, rX2_isSorted, rX2_isFalling, rX2_runs, rX2_exchange, rX2_key, rL_arePairs]; omega)) (by first | omega | (simp only [rX2_many, rX2_wrong, rX2_right, rX2_ties, rX2_isSorted, rX2_isFalling, rX2_runs, rX2_exchange, rX2_key, rL_arePairs]; omega)) (kk25 _ c24c)
    · have q66 := (mI_eq0 (by omega)).mp q66
      refine mt_iconst dL_arePairs_55 (v := nI 1) rfl ?_
      refine mt_goto dL_arePairs_56 (tgt := 60) rfl ?_
      refine mt_icmp_ne dL_arePairs_60 (tgt := 87) rfl (fun q9 => absurd q9 (fun z => z (mb_yes hrise q66))) (fun q9 => ?_)
      exact mt_widen (by first | omega | (simp only [rX2_many, rX2_wrong, rX2_right, rX2_ties, rX2_isSorted, rX2_isFalling, rX2_runs, rX2_exchange, rX2_key, rL_arePairs]; omega)) (by first | omega | (simp only [rX2_many, rX2_wrong, rX2_right, rX2_ties, rX2_isSorted, rX2_isFalling, rX2_runs, rX2_exchange, rX2_key, rL_arePairs]; omega)) (kk25 _ c24c)
