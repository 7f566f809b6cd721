/-! ===== the class Loom ===== -/
/-- two sorted spans woven, by the lesser key, the first one's ahead; how many pairs stood wrong -/
def wle (p q : mIt) : Bool := !decide (q.1 < p.1)
def winv : List mIt → List mIt → Int32
  | [], _ => 0
  | _ :: _, [] => 0
  | a :: as, b :: bs => if b.1 < a.1 then nI (as.length + 1) + winv (a :: as) bs else winv as (b :: bs)
theorem winv_nil {as : List mIt} : winv as [] = 0 := by cases as <;> simp [winv]
theorem winv_l {a b : mIt} {as bs : List mIt} (h : ¬ b.1 < a.1) : winv (a :: as) (b :: bs) = winv as (b :: bs) := by rw [winv, if_neg h]
theorem winv_r {a b : mIt} {as bs : List mIt} (h : b.1 < a.1) : winv (a :: as) (b :: bs) = nI (as.length + 1) + winv (a :: as) bs := by rw [winv, if_pos h]
theorem wm_nil {as : List mIt} : List.merge as [] wle = as := by cases as <;> simp [List.merge]
theorem wm_l {a b : mIt} {as bs : List mIt} (h : ¬ b.1 < a.1) : List.merge (a :: as) (b :: bs) wle = a :: List.merge as (b :: bs) wle := by
  rw [List.cons_merge_cons]; simp [wle, h]
theorem wm_r {a b : mIt} {as bs : List mIt} (h : b.1 < a.1) : List.merge (a :: as) (b :: bs) wle = b :: List.merge (a :: as) bs wle := by
  rw [List.cons_merge_cons]; simp [wle, h]
theorem ws_l {xs ys res : List mIt} {l m r e : Nat} (hl : l < m) (hm : m ≤ ys.length) (hr : r < e) (he : e ≤ ys.length) (h : ¬ xk ys r < xk ys l) (hx : xs ++ List.merge (span ys l m) (span ys r e) wle = res) : (xs ++ [(xk ys l, xt ys l)]) ++ List.merge (span ys (l + 1) m) (span ys r e) wle = res := by
  rw [span_cons hl hm, span_cons hr he, wm_l (a := (xk ys l, xt ys l)) (b := (xk ys r, xt ys r)) h] at hx
  rw [List.append_assoc, span_cons hr he]
  exact hx
theorem ws_r {xs ys res : List mIt} {l m r e : Nat} (hl : l < m) (hm : m ≤ ys.length) (hr : r < e) (he : e ≤ ys.length) (h : xk ys r < xk ys l) (hx : xs ++ List.merge (span ys l m) (span ys r e) wle = res) : (xs ++ [(xk ys r, xt ys r)]) ++ List.merge (span ys l m) (span ys (r + 1) e) wle = res := by
  rw [span_cons hl hm, span_cons hr he, wm_r (a := (xk ys l, xt ys l)) (b := (xk ys r, xt ys r)) h] at hx
  rw [List.append_assoc, span_cons hl hm]
  exact hx
theorem wi_l {ys : List mIt} {w res : Int32} {l m r e : Nat} (hl : l < m) (hm : m ≤ ys.length) (hr : r < e) (he : e ≤ ys.length) (h : ¬ xk ys r < xk ys l) (hx : w + winv (span ys l m) (span ys r e) = res) : w + winv (span ys (l + 1) m) (span ys r e) = res := by
  rw [span_cons hl hm, span_cons hr he, winv_l (a := (xk ys l, xt ys l)) (b := (xk ys r, xt ys r)) h] at hx
  rw [span_cons hr he]
  exact hx
theorem wi_r {ys : List mIt} {w res : Int32} {l m r e : Nat} (hl : l < m) (hm : m ≤ ys.length) (hr : r < e) (he : e ≤ ys.length) (h : xk ys r < xk ys l) (hx : w + winv (span ys l m) (span ys r e) = res) : (w + nI (m - l)) + winv (span ys l m) (span ys (r + 1) e) = res := by
  rw [span_cons hl hm, span_cons hr he, winv_r (a := (xk ys l, xt ys l)) (b := (xk ys r, xt ys r)) h, span_len hm] at hx
  rw [span_cons hl hm, ← hx, show m - (l + 1) + 1 = m - l by omega, Int32.add_assoc]
theorem ws_end {xs ys res : List mIt} {l m r e : Nat} (h : ¬ l < m ∨ ¬ r < e) (hm : m ≤ ys.length) (he : e ≤ ys.length) (hx : xs ++ List.merge (span ys l m) (span ys r e) wle = res) : xs ++ span ys l m ++ span ys r e = res := by
  have nil : ∀ {i j : Nat}, ¬ i < j → span ys i j = [] := fun h => by have := @span_end [] ys _ _ h; simpa using this
  rcases h with h | h
  · rw [nil h] at hx ⊢
    rw [List.nil_merge] at hx
    simpa using hx
  · rw [nil h] at hx ⊢
    rw [wm_nil] at hx
    simpa using hx
theorem wi_end {ys : List mIt} {w res : Int32} {l m r e : Nat} (h : ¬ l < m ∨ ¬ r < e) (hx : w + winv (span ys l m) (span ys r e) = res) : w = res := by
  have nil : ∀ {i j : Nat}, ¬ i < j → span ys i j = [] := fun h => by have := @span_end [] ys _ _ h; simpa using this
  rcases h with h | h
  · rw [nil h, winv, Int32.add_zero] at hx; exact hx
  · rw [nil h, winv_nil, Int32.add_zero] at hx; exact hx
/-- an int is answered; the row at a holds ys, all else is as it was -/
def mRr (r : Int32) (a room : Nat) (fl : Int32) (ys : List mIt) (h : mH) (n : Nat) : Option Value → mH → Nat → Prop := fun v h' n' => v = some (.int r) ∧ n' = n ∧ rowAt h' a room fl ys ∧ ∀ j, (j < a ∨ a + 3 ≤ j) → h' j = h j
abbrev rX0_mergeSpans : Room := { frames := 2, cells := 0, slots := 0, locals := 46 }
set_option maxRecDepth 100000 in
set_option maxHeartbeats 2000000 in
theorem tX0_mergeSpans_9 {l : Launch} {K : mK} {n a b room room2 s m e : Nat} {fl fl2 cr : Int32} {ys r : List mIt} {h0 : mH} (hl : l.stackTraces = false) (hab : b + 3 ≤ a ∨ a + 3 ≤ b) (hmy : m ≤ ys.length) (he : e ≤ ys.length) (kk0 : ∀ (lf : Nat) (rt : Nat) (c : Int32) (h : mH) (xs : List mIt), (rowAt h a room fl xs) → (rowAt h b room2 fl2 ys) → (∀ j, (j < a ∨ a + 3 ≤ j) → h j = h0 j) → (xs ++ span ys lf m ++ span ys rt e = r) → (c = cr) → (xs.length + (m - lf) + (e - rt) ≤ room) → (lf ≤ m) → (rt ≤ e) → mT l mX0_mergeSpans rX0_mergeSpans K 97 [.ref b, .int (nI s), .int (nI m), .int (nI e), .ref a, .int c, .int (nI lf), .int (nI rt)] [] h n 0 0) : ∀ (N0 : Nat) (lf : Nat) (rt : Nat) (c : Int32) (h : mH) (xs : List mIt), ((m - lf) + (e - rt)) < N0 → (rowAt h a room fl xs) → (rowAt h b room2 fl2 ys) → (∀ j, (j < a ∨ a + 3 ≤ j) → h j = h0 j) → (xs ++ List.merge (span ys lf m) (span ys rt e) wle = r) → (c + winv (span ys lf m) (span ys rt e) = cr) → (xs.length + (m - lf) + (e - rt) ≤ room) → (lf ≤ m) → (rt ≤ e) → mT l mX0_mergeSpans rX0_mergeSpans K 9 [.ref b, .int (nI s), .int (nI m), .int (nI e), .ref a, .int c, .int (nI lf), .int (nI rt)] [] h n 0 0 := by
  intro N0
  induction N0 with
  | zero => intro lf rt c h xs hm; exact absurd hm (Nat.not_lt_zero _)
  | succ N0 ih =>
    intro lf rt c h xs hm H H2 hfr hxs hc hro hlm hre
    obtain ⟨f_1, g_1, ea_1, ek_1, es_1, ql_1, qr_1, qk_1, qt_1⟩ := id H
    obtain ⟨f_2, g_2, ea_2, ek_2, es_2, ql_2, qr_2, qk_2, qt_2⟩ := id H2
    refine mt_iload dX0_mergeSpans_9 rfl ?_
    refine mt_iload_n dX0_mergeSpans_11 rfl ?_
    refine mt_icmp_ge dX0_mergeSpans_12 (tgt := 97) rfl (fun q3 => ?_) (fun q3 => ?_)
    · have q3 := Int32.not_lt.mpr q3
      have q3 := (not_congr (nI_ltI (by omega) (by omega))).mp q3
      exact kk0 lf rt c h xs H H2 hfr (ws_end (by omega) hmy he hxs) (wi_end (ys := ys) (l := lf) (m := m) (r := rt) (e := e) (by omega) hc) hro hlm hre
    · have q3 := Int32.not_le.mp q3
      have q3 := (nI_ltI (by omega) (by omega)).mp q3
      refine mt_iload dX0_mergeSpans_15 rfl ?_
      refine mt_iload_n dX0_mergeSpans_17 rfl ?_
      refine mt_icmp_ge dX0_mergeSpans_18 (tgt := 97) rfl (fun q4 => ?_) (fun q4 => ?_)
      · have q4 := Int32.not_lt.mpr q4
        have q4 := (not_congr (nI_ltI (by omega) (by omega))).mp q4
        exact kk0 lf rt c h xs H H2 hfr (ws_end (by omega) hmy he hxs) (wi_end (ys := ys) (l := lf) (m := m) (r := rt) (e := e) (by omega) hc) hro hlm hre
      · have q4 := Int32.not_le.mp q4
        have q4 := (nI_ltI (by omega) (by omega)).mp q4
        refine mt_aload_n dX0_mergeSpans_21 rfl rfl ?_
        refine mt_getfield mKX1 (i := 0) (by decide) mw_69 dX0_mergeSpans_22 ea_2 rfl ?_
        refine mt_iload dX0_mergeSpans_25 rfl ?_
        refine mp_iaload dX0_mergeSpans_27 ek_2 rfl (by omega) (by omega) (v := xk ys lf) (qk_2 _ (by omega)) ?_
        refine mt_aload_n dX0_mergeSpans_28 rfl rfl ?_
        refine mt_getfield mKX1 (i := 0) (by decide) mw_69 dX0_mergeSpans_29 ea_2 rfl ?_
        refine mt_iload dX0_mergeSpans_32 rfl ?_
        refine mp_iaload dX0_mergeSpans_34 ek_2 rfl (by omega) (by omega) (v := xk ys rt) (qk_2 _ (by omega)) ?_
        refine mt_icmp_gt dX0_mergeSpans_35 (tgt := 63) rfl (fun q5 => ?_) (fun q5 => ?_)
        · refine mt_iload dX0_mergeSpans_63 rfl ?_
          refine mt_iload_n dX0_mergeSpans_65 rfl ?_
          refine mt_iload dX0_mergeSpans_66 rfl ?_
          refine mp_isub dX0_mergeSpans_68 (v := nI (m - lf)) (pk_sub (by omega)) ?_
          refine mp_iadd dX0_mergeSpans_69 (v := c + (nI (m - lf))) rfl ?_
          refine mp_istore dX0_mergeSpans_70 (ls' := [.ref b, .int (nI s), .int (nI m), .int (nI e), .ref a, .int (c + (nI (m - lf))), .int (nI lf), .int (nI rt)]) rfl (by decide) rfl ?_
          refine mt_aload dX0_mergeSpans_72 rfl rfl ?_
          refine mt_aload_n dX0_mergeSpans_74 rfl rfl ?_
          refine mt_getfield mKX1 (i := 0) (by decide) mw_69 dX0_mergeSpans_75 ea_2 rfl ?_
          refine mt_iload dX0_mergeSpans_78 rfl ?_
          refine mp_iaload dX0_mergeSpans_80 ek_2 rfl (by omega) (by omega) (v := xk ys rt) (qk_2 _ (by omega)) ?_
          refine mt_aload_n dX0_mergeSpans_81 rfl rfl ?_
          refine mt_getfield mKX1 (i := 1) (by decide) mw_72 dX0_mergeSpans_82 ea_2 rfl ?_
          refine mt_iload dX0_mergeSpans_85 rfl ?_
          refine mp_iaload dX0_mergeSpans_87 es_2 rfl (by omega) (by omega) (v := xt ys rt) (qt_2 _ (by omega)) ?_
          refine mt_callV (N := mX1_append) (Rc := rX1_append) (As := [.int (xk ys rt), .int (xt ys rt)]) (st := []) dX0_mergeSpans_88 (kX1_append hl H (by first | omega | assumption | (simp only [List.length_append, List.length_cons, List.length_nil, span_len, Nat.sub_zero] at *; omega))) sX1_append mw_169 mKX1 rfl ea_1 rfl (Nat.le_of_ble_eq_true rfl) ⟨⟨Nat.le_of_ble_eq_true rfl, Nat.le_of_ble_eq_true rfl⟩, Nat.le_of_ble_eq_true rfl, Nat.le_of_ble_eq_true rfl⟩ (fun v6 h7 n8 c9 => ?_) (fun _ _ _ hx => hx.elim)
          obtain ⟨c9a, c9b, c9c, c9d⟩ := c9
          rw [c9a, c9b]
          show mT _ _ _ _ 91 [.ref b, .int (nI s), .int (nI m), .int (nI e), .ref a, .int (c + (nI (m - lf))), .int (nI lf), .int (nI rt)] [] _ _ _ _
          refine mp_iinc dX0_mergeSpans_91 rfl (v := nI (rt + 1)) mI_inc (ls' := [.ref b, .int (nI s), .int (nI m), .int (nI e), .ref a, .int (c + (nI (m - lf))), .int (nI lf), .int (nI (rt + 1))]) rfl (by decide) rfl ?_
          refine mt_goto dX0_mergeSpans_94 (tgt := 9) rfl ?_
          have H10 : rowAt h7 b room2 fl2 ys := (H2).fr (fun j j1 j2 => c9d j (by omega))
          exact ih lf (rt + 1) (c + (nI (m - lf))) h7 (xs ++ [(xk ys rt, xt ys rt)]) (by omega) c9c H10 (fun j hj => (c9d j (by omega)).trans (hfr j hj)) (ws_r (by omega) hmy (by omega) he q5 hxs) (wi_r (by omega) hmy (by omega) he q5 hc) (by rw [List.length_append]; simp only [List.length_cons, List.length_nil]; omega) (by omega) (by omega)
        · refine mt_aload dX0_mergeSpans_38 rfl rfl ?_
          refine mt_aload_n dX0_mergeSpans_40 rfl rfl ?_
          refine mt_getfield mKX1 (i := 0) (by decide) mw_69 dX0_mergeSpans_41 ea_2 rfl ?_
          refine mt_iload dX0_mergeSpans_44 rfl ?_
          refine mp_iaload dX0_mergeSpans_46 ek_2 rfl (by omega) (by omega) (v := xk ys lf) (qk_2 _ (by omega)) ?_
          refine mt_aload_n dX0_mergeSpans_47 rfl rfl ?_
          refine mt_getfield mKX1 (i := 1) (by decide) mw_72 dX0_mergeSpans_48 ea_2 rfl ?_
          refine mt_iload dX0_mergeSpans_51 rfl ?_
          refine mp_iaload dX0_mergeSpans_53 es_2 rfl (by omega) (by omega) (v := xt ys lf) (qt_2 _ (by omega)) ?_
          refine mt_callV (N := mX1_append) (Rc := rX1_append) (As := [.int (xk ys lf), .int (xt ys lf)]) (st := []) dX0_mergeSpans_54 (kX1_append hl H (by first | omega | assumption | (simp only [List.length_append, List.length_cons, List.length_nil, span_len, Nat.sub_zero] at *; omega))) sX1_append mw_169 mKX1 rfl ea_1 rfl (Nat.le_of_ble_eq_true rfl) ⟨⟨Nat.le_of_ble_eq_true rfl, Nat.le_of_ble_eq_true rfl⟩, Nat.le_of_ble_eq_true rfl, Nat.le_of_ble_eq_true rfl⟩ (fun v11 h12 n13 c14 => ?_) (fun _ _ _ hx => hx.elim)
          obtain ⟨c14a, c14b, c14c, c14d⟩ := c14
          rw [c14a, c14b]
          show mT _ _ _ _ 57 [.ref b, .int (nI s), .int (nI m), .int (nI e), .ref a, .int c, .int (nI lf), .int (nI rt)] [] _ _ _ _
          refine mp_iinc dX0_mergeSpans_57 rfl (v := nI (lf + 1)) mI_inc (ls' := [.ref b, .int (nI s), .int (nI m), .int (nI e), .ref a, .int c, .int (nI (lf + 1)), .int (nI rt)]) rfl (by decide) rfl ?_
          refine mt_goto dX0_mergeSpans_60 (tgt := 9) rfl ?_
          have H15 : rowAt h12 b room2 fl2 ys := (H2).fr (fun j j1 j2 => c14d j (by omega))
          exact ih (lf + 1) rt c h12 (xs ++ [(xk ys lf, xt ys lf)]) (by omega) c14c H15 (fun j hj => (c14d j (by omega)).trans (hfr j hj)) (ws_l (by omega) hmy (by omega) he q5 hxs) (wi_l (by omega) hmy (by omega) he q5 hc) (by rw [List.length_append]; simp only [List.length_cons, List.length_nil]; omega) (by omega) (by omega)
set_option maxRecDepth 100000 in
set_option maxHeartbeats 2000000 in
theorem kX0_mergeSpans {l : Launch} (hl : l.stackTraces = false) {h : mH} {n a b room room2 s m e : Nat} {fl fl2 : Int32} {xs ys : List mIt} (H : rowAt h a room fl xs) (H2 : rowAt h b room2 fl2 ys) (hab : b + 3 ≤ a ∨ a + 3 ≤ b) (hs : s ≤ m) (hme : m ≤ e) (he : e ≤ ys.length) (hro : xs.length + (e - s) ≤ room) : mC l mX0_mergeSpans rX0_mergeSpans [.ref b, .int (nI s), .int (nI m), .int (nI e), .ref a] h n (mRr (winv (span ys s m) (span ys m e)) a room fl (xs ++ List.merge (span ys s m) (span ys m e) wle) h n) (mNX) := by
  obtain ⟨f_1, g_1, ea_1, ek_1, es_1, ql_1, qr_1, qk_1, qt_1⟩ := id H
  obtain ⟨f_2, g_2, ea_2, ek_2, es_2, ql_2, qr_2, qk_2, qt_2⟩ := id H2
  have hmy : m ≤ ys.length := by omega
  have hro : xs.length + (m - s) + (e - m) ≤ room := by omega
  refine mm_enter hl (by decide +kernel) rfl rfl rfl (Nat.le_of_ble_eq_true rfl) ?_
  show mT _ _ _ _ 0 [.ref b, .int (nI s), .int (nI m), .int (nI e), .ref a, .double 0, .double 0, .double 0] [] _ _ 0 0
  refine mt_iconst dX0_mergeSpans_0 (v := nI 0) rfl ?_
  refine mp_istore dX0_mergeSpans_1 (ls' := [.ref b, .int (nI s), .int (nI m), .int (nI e), .ref a, .int (nI 0), .double 0, .double 0]) rfl (by decide) rfl ?_
  refine mt_iload_n dX0_mergeSpans_3 rfl ?_
  refine mp_istore dX0_mergeSpans_4 (ls' := [.ref b, .int (nI s), .int (nI m), .int (nI e), .ref a, .int (nI 0), .int (nI s), .double 0]) rfl (by decide) rfl ?_
  refine mt_iload_n dX0_mergeSpans_6 rfl ?_
  refine mp_istore dX0_mergeSpans_7 (ls' := [.ref b, .int (nI s), .int (nI m), .int (nI e), .ref a, .int (nI 0), .int (nI s), .int (nI m)]) rfl (by decide) rfl ?_
  refine tX0_mergeSpans_9 hl hab hmy he (fun lf_3 rt_4 c_5 h_6 xs_7 z8 z9 z10 z11 z12 z13 z14 z15 => ?_) ((m - s) + (e - m) + 1) s m (nI 0) h xs (Nat.lt_succ_self _) H H2 (fun _ _ => rfl) rfl rfl hro (by omega) (by omega)
  have sl9 := span_len (ys := ys) (i := lf_3) hmy
  refine mt_aload dX0_mergeSpans_97 rfl rfl ?_
  refine mt_aload_n dX0_mergeSpans_99 rfl rfl ?_
  refine mt_iload dX0_mergeSpans_100 rfl ?_
  refine mt_iload_n dX0_mergeSpans_102 rfl ?_
  obtain ⟨f_20, g_20, ea_20, ek_20, es_20, ql_20, qr_20, qk_20, qt_20⟩ := id z8
  refine mt_callV (N := mX1_appendSpan) (Rc := rX1_appendSpan) (As := [.ref b, .int (nI lf_3), .int (nI m)]) (st := []) dX0_mergeSpans_103 (kX1_appendSpan hl z8 z9 (by omega) (by omega) (by first | omega | assumption | (simp only [List.length_append, List.length_cons, List.length_nil, span_len, Nat.sub_zero] at *; omega)) (by omega)) sX1_appendSpan mw_173 mKX1 rfl ea_20 rfl (Nat.le_of_ble_eq_true rfl) ⟨⟨Nat.le_of_ble_eq_true rfl, Nat.le_of_ble_eq_true rfl⟩, Nat.le_of_ble_eq_true rfl, Nat.le_of_ble_eq_true rfl⟩ (fun v16 h17 n18 c19 => ?_) (fun _ _ _ hx => hx.elim)
  have sl20 := span_len (ys := ys) (i := lf_3) (e := m) (by omega)
  obtain ⟨c19a, c19b, c19c, c19d⟩ := c19
  rw [c19a, c19b]
  show mT _ _ _ _ 106 [.ref b, .int (nI s), .int (nI m), .int (nI e), .ref a, .int c_5, .int (nI lf_3), .int (nI rt_4)] [] _ _ _ _
  refine mt_aload dX0_mergeSpans_106 rfl rfl ?_
  refine mt_aload_n dX0_mergeSpans_108 rfl rfl ?_
  refine mt_iload dX0_mergeSpans_109 rfl ?_
  refine mt_iload_n dX0_mergeSpans_111 rfl ?_
  have H21 : rowAt h17 b room2 fl2 ys := (z9).fr (fun j j1 j2 => c19d j (by omega))
  obtain ⟨f_26, g_26, ea_26, ek_26, es_26, ql_26, qr_26, qk_26, qt_26⟩ := id c19c
  refine mt_callV (N := mX1_appendSpan) (Rc := rX1_appendSpan) (As := [.ref b, .int (nI rt_4), .int (nI e)]) (st := []) dX0_mergeSpans_112 (kX1_appendSpan hl c19c H21 (by omega) (by omega) (by first | omega | assumption | (simp only [List.length_append, List.length_cons, List.length_nil, span_len, Nat.sub_zero] at *; omega)) (by omega)) sX1_appendSpan mw_173 mKX1 rfl ea_26 rfl (Nat.le_of_ble_eq_true rfl) ⟨⟨Nat.le_of_ble_eq_true rfl, Nat.le_of_ble_eq_true rfl⟩, Nat.le_of_ble_eq_true rfl, Nat.le_of_ble_eq_true rfl⟩ (fun v22 h23 n24 c25 => ?_) (fun _ _ _ hx => hx.elim)
  have sl31 := span_len (ys := ys) (i := rt_4) (e := e) (by omega)
  obtain ⟨c25a, c25b, c25c, c25d⟩ := c25
  rw [c25a, c25b]
  show mT _ _ _ _ 115 [.ref b, .int (nI s), .int (nI m), .int (nI e), .ref a, .int c_5, .int (nI lf_3), .int (nI rt_4)] [] _ _ _ _
  refine mt_iload dX0_mergeSpans_115 rfl ?_
  refine mt_ireturn dX0_mergeSpans_117 rfl rfl (Nat.le_of_ble_eq_true rfl) (Nat.le_of_ble_eq_true rfl) ?_
  exact ⟨congrArg (fun x => some (Value.int x)) (z12.trans (Int32.zero_add _)), rfl, z11 ▸ c25c, fun j hj => ((c25d j (by omega)).trans (c19d j (by omega))).trans (z10 j hj)⟩
/-- one round: neighbours of a width, woven -/
def mpass (xs : List mIt) (wd : Nat) : Nat → Nat → List mIt × Int32 → List mIt × Int32
  | 0, _, p => p
  | d + 1, s, p => if s < xs.length then mpass xs wd d (s + 2 * wd) (p.1 ++ List.merge (span xs s (min (s + wd) xs.length)) (span xs (min (s + wd) xs.length) (min (s + 2 * wd) xs.length)) wle, p.2 + winv (span xs s (min (s + wd) xs.length)) (span xs (min (s + wd) xs.length) (min (s + 2 * wd) xs.length))) else p
theorem mpass_go {xs : List mIt} {wd s : Nat} {p r : List mIt × Int32} (h : s < xs.length) (hw : 0 < wd) (hr : ∃ d, xs.length ≤ s + d ∧ mpass xs wd d s p = r) : ∃ d, xs.length ≤ (s + 2 * wd) + d ∧ mpass xs wd d (s + 2 * wd) (p.1 ++ List.merge (span xs s (min (s + wd) xs.length)) (span xs (min (s + wd) xs.length) (min (s + 2 * wd) xs.length)) wle, p.2 + winv (span xs s (min (s + wd) xs.length)) (span xs (min (s + wd) xs.length) (min (s + 2 * wd) xs.length))) = r := by
  obtain ⟨d, h1, h2⟩ := hr
  match d, h1, h2 with
  | 0, h1, h2 => omega
  | d + 1, h1, h2 =>
    rw [mpass, if_pos h] at h2
    exact ⟨d, by omega, h2⟩
theorem mpass_end {xs : List mIt} {wd s : Nat} {p r : List mIt × Int32} (h : ¬ s < xs.length) (hr : ∃ d, xs.length ≤ s + d ∧ mpass xs wd d s p = r) : p = r := by
  obtain ⟨d, h1, h2⟩ := hr
  match d, h1, h2 with
  | 0, h1, h2 => exact h2
  | d + 1, h1, h2 =>
    rw [mpass, if_neg h] at h2
    exact h2
abbrev rX0_mergeNeighbours : Room := { frames := 3, cells := 0, slots := 0, locals := 73 }
theorem mpass_len {xs : List mIt} {wd : Nat} (hw : 0 < wd) : ∀ {d s : Nat} {p : List mIt × Int32}, xs.length ≤ s + d → p.1.length = min s xs.length → (mpass xs wd d s p).1.length = xs.length
  | 0, s, p, h, hp => by show p.1.length = _; omega
  | d + 1, s, p, h, hp => by
    rw [mpass]
    split
    · refine mpass_len hw (by omega) ?_
      simp only [List.length_append, List.length_merge]
      rw [span_len (Nat.min_le_right _ _), span_len (Nat.min_le_right _ _)]
      omega
    · omega
/-- one round over a whole row -/
def mround (xs : List mIt) (wd : Nat) : List mIt × Int32 := mpass xs wd xs.length 0 ([], nI 0)
theorem mround_len {xs : List mIt} {wd : Nat} (hw : 0 < wd) : (mround xs wd).1.length = xs.length := mpass_len hw (by omega) (by simp)
def msrt : Nat → Nat → List mIt × Int32 → List mIt × Int32
  | 0, _, p => p
  | d + 1, wd, p => if wd < p.1.length then msrt d (wd * 2) ((mround p.1 wd).1, p.2 + (mround p.1 wd).2) else p
theorem msrt_go {wd : Nat} {p r : List mIt × Int32} (h : wd < p.1.length) (hw : 0 < wd) (hr : ∃ d, p.1.length ≤ wd + d ∧ msrt d wd p = r) : ∃ d, (mround p.1 wd).1.length ≤ (wd * 2) + d ∧ msrt d (wd * 2) ((mround p.1 wd).1, p.2 + (mround p.1 wd).2) = r := by
  obtain ⟨d, h1, h2⟩ := hr
  rw [mround_len hw]
  match d, h1, h2 with
  | 0, h1, h2 => omega
  | d + 1, h1, h2 =>
    rw [msrt, if_pos h] at h2
    exact ⟨d, by omega, h2⟩
theorem msrt_end {wd : Nat} {p r : List mIt × Int32} (h : ¬ wd < p.1.length) (hr : ∃ d, p.1.length ≤ wd + d ∧ msrt d wd p = r) : p = r := by
  obtain ⟨d, h1, h2⟩ := hr
  match d, h1, h2 with
  | 0, h1, h2 => exact h2
  | d + 1, h1, h2 =>
    rw [msrt, if_neg h] at h2
    exact h2
theorem msrt_len : ∀ {d wd : Nat} {p : List mIt × Int32}, 0 < wd → (msrt d wd p).1.length = p.1.length
  | 0, _, _, _ => rfl
  | d + 1, wd, p, hw => by
    rw [msrt]
    split
    · rw [msrt_len (by omega)]; exact mround_len hw
    · rfl
/-- what sortUp makes of a row, and what it tells -/
def msort (ys : List mIt) : List mIt × Int32 := msrt ys.length 1 (ys, nI 0)
theorem msort_len {ys : List mIt} : (msort ys).1.length = ys.length := msrt_len (by omega)
set_option maxRecDepth 100000 in
set_option maxHeartbeats 2000000 in
theorem tX0_mergeNeighbours_12 {l : Launch} {K : mK} {n lo a p q0 q1 q2 room wd : Nat} {fl fls : Int32} {xs : List mIt} {r : List mIt × Int32} {h0 : mH} (hl : l.stackTraces = false) (hap : a + 3 ≤ p ∨ p + 3 ≤ a) (hlp : lo < p ∨ p + 3 ≤ lo) (hw : 0 < wd) (hw2 : wd ≤ 320) (kk0 : ∀ (s : Nat) (c : Int32) (h : mH) (zs : List mIt), (rowAt h p 320 fls zs) → (∀ j, (j < p ∨ p + 3 ≤ j) → h j = h0 j) → ((zs, c) = r) → mT l mX0_mergeNeighbours rX0_mergeNeighbours K 77 [.ref lo, .ref a, .int (nI wd), .int c, .int (nI s), .double 0, .double 0] [] h n 0 0) : ∀ (N0 : Nat) (s : Nat) (c : Int32) (h : mH) (zs : List mIt), (xs.length - s) < N0 → (h lo = .inr (.inr (2, [.ref q0, .ref q1, .ref q2, .ref p]))) → (rowAt h a room fl xs) → (rowAt h p 320 fls zs) → (∀ j, (j < p ∨ p + 3 ≤ j) → h j = h0 j) → (∃ d, xs.length ≤ s + d ∧ mpass xs wd d s (zs, c) = r) → (zs.length = min s xs.length) → (s ≤ xs.length + 640) → mT l mX0_mergeNeighbours rX0_mergeNeighbours K 12 [.ref lo, .ref a, .int (nI wd), .int c, .int (nI s), .double 0, .double 0] [] h n 0 0 := by
  intro N0
  induction N0 with
  | zero => intro s c h zs hm; exact absurd hm (Nat.not_lt_zero _)
  | succ N0 ih =>
    intro s c h zs hm HL H Hp hfr hr hz hs
    obtain ⟨f_1, g_1, ea_1, ek_1, es_1, ql_1, qr_1, qk_1, qt_1⟩ := id H
    refine mt_iload dX0_mergeNeighbours_12 rfl ?_
    refine mt_aload_n dX0_mergeNeighbours_14 rfl rfl ?_
    refine mt_getfield mKX1 (i := 3) (by decide) mw_75 dX0_mergeNeighbours_15 ea_1 rfl ?_
    refine mt_icmp_ge dX0_mergeNeighbours_18 (tgt := 77) rfl (fun q2 => ?_) (fun q2 => ?_)
    · have q2 := Int32.not_lt.mpr q2
      have q2 := (not_congr (nI_ltI (by omega) (by omega))).mp q2
      exact kk0 s c h zs Hp hfr (mpass_end (by omega) hr)
    · have q2 := Int32.not_le.mp q2
      have q2 := (nI_ltI (by omega) (by omega)).mp q2
      refine mt_iload dX0_mergeNeighbours_21 rfl ?_
      refine mt_iload_n dX0_mergeNeighbours_23 rfl ?_
      refine mp_iadd dX0_mergeNeighbours_24 (v := nI (s + wd)) (nI_add _ _) ?_
      refine mt_aload_n dX0_mergeNeighbours_25 rfl rfl ?_
      refine mt_getfield mKX1 (i := 3) (by decide) mw_75 dX0_mergeNeighbours_26 ea_1 rfl ?_
      refine mt_mmin dX0_mergeNeighbours_29 mw_165 mw_152 mw_41 (mw_min) (Nat.le_of_ble_eq_true rfl) ⟨Nat.le_of_ble_eq_true rfl, Nat.le_of_ble_eq_true rfl⟩ (Nat.le_of_ble_eq_true rfl) (Nat.le_of_ble_eq_true rfl) (v := nI (min (s + wd) xs.length)) (mI_min (by omega) (by omega)) ?_
      refine mp_istore dX0_mergeNeighbours_32 (ls' := [.ref lo, .ref a, .int (nI wd), .int c, .int (nI s), .int (nI (min (s + wd) xs.length)), .double 0]) rfl (by decide) rfl ?_
      refine mt_iload dX0_mergeNeighbours_34 rfl ?_
      refine mt_iconst dX0_mergeNeighbours_36 (v := nI 2) rfl ?_
      refine mt_iload_n dX0_mergeNeighbours_37 rfl ?_
      refine mp_imul dX0_mergeNeighbours_38 (v := nI (2 * wd)) (mI_mul _ _) ?_
      refine mp_iadd dX0_mergeNeighbours_39 (v := nI (s + (2 * wd))) (nI_add _ _) ?_
      refine mt_aload_n dX0_mergeNeighbours_40 rfl rfl ?_
      refine mt_getfield mKX1 (i := 3) (by decide) mw_75 dX0_mergeNeighbours_41 ea_1 rfl ?_
      refine mt_mmin dX0_mergeNeighbours_44 mw_165 mw_152 mw_41 (mw_min) (Nat.le_of_ble_eq_true rfl) ⟨Nat.le_of_ble_eq_true rfl, Nat.le_of_ble_eq_true rfl⟩ (Nat.le_of_ble_eq_true rfl) (Nat.le_of_ble_eq_true rfl) (v := nI (min (s + (2 * wd)) xs.length)) (mI_min (by omega) (by omega)) ?_
      refine mp_istore dX0_mergeNeighbours_47 (ls' := [.ref lo, .ref a, .int (nI wd), .int c, .int (nI s), .int (nI (min (s + wd) xs.length)), .int (nI (min (s + (2 * wd)) xs.length))]) rfl (by decide) rfl ?_
      refine mt_iload_n dX0_mergeNeighbours_49 rfl ?_
      refine mt_aload_n dX0_mergeNeighbours_50 rfl rfl ?_
      refine mt_iload dX0_mergeNeighbours_51 rfl ?_
      refine mt_iload dX0_mergeNeighbours_53 rfl ?_
      refine mt_iload dX0_mergeNeighbours_55 rfl ?_
      refine mt_aload_n dX0_mergeNeighbours_57 rfl rfl ?_
      refine mt_getfield mKX0 (i := 3) (by decide) mw_102 dX0_mergeNeighbours_58 HL rfl ?_
      refine mt_callS (N := mX0_mergeSpans) (Rc := rX0_mergeSpans) (As := [.ref a, .int (nI s), .int (nI (min (s + wd) xs.length)), .int (nI (min (s + (2 * wd)) xs.length)), .ref p]) (st := [.int c]) dX0_mergeNeighbours_61 (kX0_mergeSpans hl Hp H (by omega) (by omega) (by omega) (by omega) (by first | omega | assumption | (simp only [List.length_append, List.length_cons, List.length_nil, span_len, Nat.sub_zero] at *; omega))) sX0_mergeSpans mw_166 rfl (Nat.le_of_ble_eq_true rfl) ⟨⟨Nat.le_of_ble_eq_true rfl, Nat.le_of_ble_eq_true rfl⟩, Nat.le_of_ble_eq_true rfl, Nat.le_of_ble_eq_true rfl⟩ (fun v3 h4 n5 c6 => ?_) (fun _ _ _ hx => hx.elim)
      obtain ⟨c6a, c6b, c6c, c6d⟩ := c6
      rw [c6a, c6b]
      show mT _ _ _ _ 64 [.ref lo, .ref a, .int (nI wd), .int c, .int (nI s), .int (nI (min (s + wd) xs.length)), .int (nI (min (s + (2 * wd)) xs.length))] [.int (winv (span xs s (min (s + wd) xs.length)) (span xs (min (s + wd) xs.length) (min (s + (2 * wd)) xs.length))), .int c] _ _ _ _
      refine mp_iadd dX0_mergeNeighbours_64 (v := c + (winv (span xs s (min (s + wd) xs.length)) (span xs (min (s + wd) xs.length) (min (s + (2 * wd)) xs.length)))) rfl ?_
      refine mp_istore_n dX0_mergeNeighbours_65 (ls' := [.ref lo, .ref a, .int (nI wd), .int (c + (winv (span xs s (min (s + wd) xs.length)) (span xs (min (s + wd) xs.length) (min (s + (2 * wd)) xs.length)))), .int (nI s), .int (nI (min (s + wd) xs.length)), .int (nI (min (s + (2 * wd)) xs.length))]) rfl (by decide) rfl ?_
      refine mt_iload dX0_mergeNeighbours_66 rfl ?_
      refine mt_iconst dX0_mergeNeighbours_68 (v := nI 2) rfl ?_
      refine mt_iload_n dX0_mergeNeighbours_69 rfl ?_
      refine mp_imul dX0_mergeNeighbours_70 (v := nI (2 * wd)) (mI_mul _ _) ?_
      refine mp_iadd dX0_mergeNeighbours_71 (v := nI (s + (2 * wd))) (nI_add _ _) ?_
      refine mp_istore dX0_mergeNeighbours_72 (ls' := [.ref lo, .ref a, .int (nI wd), .int (c + (winv (span xs s (min (s + wd) xs.length)) (span xs (min (s + wd) xs.length) (min (s + (2 * wd)) xs.length)))), .int (nI (s + (2 * wd))), .int (nI (min (s + wd) xs.length)), .int (nI (min (s + (2 * wd)) xs.length))]) rfl (by decide) rfl ?_
      refine mt_goto dX0_mergeNeighbours_74 (tgt := 12) rfl ?_
      refine mt_drop 5 (ls' := [.ref lo, .ref a, .int (nI wd), .int (c + (winv (span xs s (min (s + wd) xs.length)) (span xs (min (s + wd) xs.length) (min (s + (2 * wd)) xs.length)))), .int (nI (s + (2 * wd))), .double 0, .int (nI (min (s + (2 * wd)) xs.length))]) rfl ?_
      refine mt_drop 6 (ls' := [.ref lo, .ref a, .int (nI wd), .int (c + (winv (span xs s (min (s + wd) xs.length)) (span xs (min (s + wd) xs.length) (min (s + (2 * wd)) xs.length)))), .int (nI (s + (2 * wd))), .double 0, .double 0]) rfl ?_
      have H7 : rowAt h4 a room fl xs := (H).fr (fun j j1 j2 => c6d j (by omega))
      exact ih (s + (2 * wd)) (c + (winv (span xs s (min (s + wd) xs.length)) (span xs (min (s + wd) xs.length) (min (s + (2 * wd)) xs.length)))) h4 (zs ++ List.merge (span xs s (min (s + wd) xs.length)) (span xs (min (s + wd) xs.length) (min (s + (2 * wd)) xs.length)) wle) (by omega) ((c6d (lo) (by omega)).trans HL) H7 c6c (fun j hj => (c6d j (by omega)).trans (hfr j hj)) (mpass_go (by omega) hw hr) (by simp only [List.length_append, List.length_merge]; rw [span_len (Nat.min_le_right _ _), span_len (Nat.min_le_right _ _)]; omega) (by omega)
set_option maxRecDepth 100000 in
set_option maxHeartbeats 2000000 in
theorem kX0_mergeNeighbours {l : Launch} (hl : l.stackTraces = false) {h : mH} {n lo a p q0 q1 q2 room wd : Nat} {fl fls : Int32} {xs zs : List mIt} (HL : h lo = .inr (.inr (2, [.ref q0, .ref q1, .ref q2, .ref p]))) (H : rowAt h a room fl xs) (Hp : rowAt h p 320 fls zs) (hap : a + 3 ≤ p ∨ p + 3 ≤ a) (hlp : lo < p ∨ p + 3 ≤ lo) (hw : 0 < wd) (hw2 : wd ≤ 320) : mC l mX0_mergeNeighbours rX0_mergeNeighbours [.ref lo, .ref a, .int (nI wd)] h n (mRr (mround xs wd).2 p 320 fls (mround xs wd).1 h n) (mNX) := by
  obtain ⟨f_1, g_1, ea_1, ek_1, es_1, ql_1, qr_1, qk_1, qt_1⟩ := id H
  refine mm_enter hl (by decide +kernel) rfl rfl rfl (Nat.le_of_ble_eq_true rfl) ?_
  show mT _ _ _ _ 0 [.ref lo, .ref a, .int (nI wd), .double 0, .double 0, .double 0, .double 0] [] _ _ 0 0
  refine mt_iconst dX0_mergeNeighbours_0 (v := nI 0) rfl ?_
  refine mp_istore_n dX0_mergeNeighbours_1 (ls' := [.ref lo, .ref a, .int (nI wd), .int (nI 0), .double 0, .double 0, .double 0]) rfl (by decide) rfl ?_
  refine mt_aload_n dX0_mergeNeighbours_2 rfl rfl ?_
  refine mt_getfield mKX0 (i := 3) (by decide) mw_102 dX0_mergeNeighbours_3 HL rfl ?_
  obtain ⟨f_6, g_6, ea_6, ek_6, es_6, ql_6, qr_6, qk_6, qt_6⟩ := id Hp
  refine mt_callV (N := mX1_empty) (Rc := rX1_empty) (As := []) (st := []) dX0_mergeNeighbours_6 (kX1_empty hl Hp) sX1_empty mw_161 mKX1 rfl ea_6 rfl (Nat.le_of_ble_eq_true rfl) ⟨⟨Nat.le_of_ble_eq_true rfl, Nat.le_of_ble_eq_true rfl⟩, Nat.le_of_ble_eq_true rfl, Nat.le_of_ble_eq_true rfl⟩ (fun v2 h3 n4 c5 => ?_) (fun _ _ _ hx => hx.elim)
  obtain ⟨c5a, c5b, c5c, c5d⟩ := c5
  rw [c5a, c5b]
  show mT _ _ _ _ 9 [.ref lo, .ref a, .int (nI wd), .int (nI 0), .double 0, .double 0, .double 0] [] _ _ _ _
  refine mt_iconst dX0_mergeNeighbours_9 (v := nI 0) rfl ?_
  refine mp_istore dX0_mergeNeighbours_10 (ls' := [.ref lo, .ref a, .int (nI wd), .int (nI 0), .int (nI 0), .double 0, .double 0]) rfl (by decide) rfl ?_
  have H7 : rowAt h3 a room fl xs := (H).fr (fun j j1 j2 => c5d j (by omega))
  refine tX0_mergeNeighbours_12 hl hap hlp hw hw2 (fun s_8 c_9 h_10 zs_11 z12 z13 z14 => ?_) (xs.length - 0 + 1) 0 (nI 0) h3 ([]) (Nat.lt_succ_self _) ((c5d (lo) (by omega)).trans HL) H7 c5c (fun j hj => c5d j (by omega)) (⟨xs.length, by omega, rfl⟩) rfl (by omega)
  refine mt_iload_n dX0_mergeNeighbours_77 rfl ?_
  refine mt_ireturn dX0_mergeNeighbours_78 rfl rfl (Nat.le_of_ble_eq_true rfl) (Nat.le_of_ble_eq_true rfl) ?_
  exact ⟨congrArg (fun x => some (Value.int x.2)) z14, rfl, (congrArg Prod.fst z14) ▸ z12, z13⟩
abbrev rX0_sortUp : Room := { frames := 4, cells := 0, slots := 0, locals := 99 }
set_option maxRecDepth 100000 in
set_option maxHeartbeats 2000000 in
theorem tX0_sortUp_10 {l : Launch} {K : mK} {n lo a b p q0 q1 q2 : Nat} {fl fls : Int32} {r : List mIt × Int32} {h0 : mH} {L0 : Nat} (hl : l.stackTraces = false) (hap : a + 3 ≤ p ∨ p + 3 ≤ a) (hlp : lo < p ∨ p + 3 ≤ lo) (hla : lo < a ∨ a + 3 ≤ lo) (hL : L0 ≤ 320) (kk0 : ∀ (wd : Nat) (c : Int32) (h : mH) (xs : List mIt) (zs : List mIt), (rowAt h a 320 fl xs) → (rowAt h p 320 fls zs) → (∀ j, (j < a ∨ a + 3 ≤ j) → (j < p ∨ p + 3 ≤ j) → h j = h0 j) → ((xs, c) = r) → mT l mX0_sortUp rX0_sortUp K 46 [.ref lo, .ref b, .ref a, .int c, .int (nI wd)] [] h n 0 0) : ∀ (N0 : Nat) (wd : Nat) (c : Int32) (h : mH) (xs : List mIt) (zs : List mIt), (L0 - wd) < N0 → (h lo = .inr (.inr (2, [.ref q0, .ref q1, .ref q2, .ref p]))) → (rowAt h a 320 fl xs) → (rowAt h p 320 fls zs) → (∀ j, (j < a ∨ a + 3 ≤ j) → (j < p ∨ p + 3 ≤ j) → h j = h0 j) → (∃ d, xs.length ≤ wd + d ∧ msrt d wd (xs, c) = r) → (xs.length = L0) → (0 < wd) → (wd ≤ 640) → mT l mX0_sortUp rX0_sortUp K 10 [.ref lo, .ref b, .ref a, .int c, .int (nI wd)] [] h n 0 0 := by
  intro N0
  induction N0 with
  | zero => intro wd c h xs zs hm; exact absurd hm (Nat.not_lt_zero _)
  | succ N0 ih =>
    intro wd c h xs zs hm HL H Hp hfr hr hz hw hw2
    obtain ⟨f_1, g_1, ea_1, ek_1, es_1, ql_1, qr_1, qk_1, qt_1⟩ := id H
    refine mt_iload dX0_sortUp_10 rfl ?_
    refine mt_aload_n dX0_sortUp_12 rfl rfl ?_
    refine mt_getfield mKX1 (i := 3) (by decide) mw_75 dX0_sortUp_13 ea_1 rfl ?_
    refine mt_icmp_ge dX0_sortUp_16 (tgt := 46) rfl (fun q2 => ?_) (fun q2 => ?_)
    · have q2 := Int32.not_lt.mpr q2
      have q2 := (not_congr (nI_ltI (by omega) (by omega))).mp q2
      exact kk0 wd c h xs zs H Hp hfr (msrt_end (p := (xs, c)) (by assumption) hr)
    · have q2 := Int32.not_le.mp q2
      have q2 := (nI_ltI (by omega) (by omega)).mp q2
      refine mt_iload_n dX0_sortUp_19 rfl ?_
      refine mt_aload_n dX0_sortUp_20 rfl rfl ?_
      refine mt_aload_n dX0_sortUp_21 rfl rfl ?_
      refine mt_iload dX0_sortUp_22 rfl ?_
      refine mt_callV (N := mX0_mergeNeighbours) (Rc := rX0_mergeNeighbours) (As := [.ref a, .int (nI wd)]) (st := [.int c]) dX0_sortUp_24 (kX0_mergeNeighbours hl HL H Hp (by omega) (by omega) (by omega) (by omega)) sX0_mergeNeighbours mw_157 mKX0 rfl HL rfl (Nat.le_of_ble_eq_true rfl) ⟨⟨Nat.le_of_ble_eq_true rfl, Nat.le_of_ble_eq_true rfl⟩, Nat.le_of_ble_eq_true rfl, Nat.le_of_ble_eq_true rfl⟩ (fun v3 h4 n5 c6 => ?_) (fun _ _ _ hx => hx.elim)
      obtain ⟨c6a, c6b, c6c, c6d⟩ := c6
      rw [c6a, c6b]
      show mT _ _ _ _ 27 [.ref lo, .ref b, .ref a, .int c, .int (nI wd)] [.int ((mround xs wd).2), .int c] _ _ _ _
      refine mp_iadd dX0_sortUp_27 (v := c + ((mround xs wd).2)) rfl ?_
      refine mp_istore_n dX0_sortUp_28 (ls' := [.ref lo, .ref b, .ref a, .int (c + ((mround xs wd).2)), .int (nI wd)]) rfl (by decide) rfl ?_
      refine mt_aload_n dX0_sortUp_29 rfl rfl ?_
      refine mt_aload_n dX0_sortUp_30 rfl rfl ?_
      refine mt_getfield mKX0 (i := 3) (by decide) mw_102 dX0_sortUp_31 ((c6d (lo) (by omega)).trans HL) rfl ?_
      have ml := @mround_len xs wd hw
      have H7 : rowAt h4 a 320 fl xs := (H).fr (fun j j1 j2 => c6d j (by omega))
      refine mt_callV (N := mX1_become) (Rc := rX1_become) (As := [.ref p]) (st := []) dX0_sortUp_34 (kX1_become hl H7 c6c (by omega) (by first | omega | assumption | (simp only [List.length_append, List.length_cons, List.length_nil, span_len, Nat.sub_zero] at *; omega))) sX1_become mw_147 mKX1 rfl ((c6d (a) (by omega)).trans ea_1) rfl (Nat.le_of_ble_eq_true rfl) ⟨⟨Nat.le_of_ble_eq_true rfl, Nat.le_of_ble_eq_true rfl⟩, Nat.le_of_ble_eq_true rfl, Nat.le_of_ble_eq_true rfl⟩ (fun v8 h9 n10 c11 => ?_) (fun _ _ _ hx => hx.elim)
      obtain ⟨c11a, c11b, c11c, c11d⟩ := c11
      rw [c11a, c11b]
      show mT _ _ _ _ 37 [.ref lo, .ref b, .ref a, .int (c + ((mround xs wd).2)), .int (nI wd)] [] _ _ _ _
      refine mt_iload dX0_sortUp_37 rfl ?_
      refine mt_iconst dX0_sortUp_39 (v := nI 2) rfl ?_
      refine mp_imul dX0_sortUp_40 (v := nI (wd * 2)) (mI_mul _ _) ?_
      refine mp_istore dX0_sortUp_41 (ls' := [.ref lo, .ref b, .ref a, .int (c + ((mround xs wd).2)), .int (nI (wd * 2))]) rfl (by decide) rfl ?_
      refine mt_goto dX0_sortUp_43 (tgt := 10) rfl ?_
      have H12 : rowAt h9 p 320 fls ((mround xs wd).1) := (c6c).fr (fun j j1 j2 => c11d j (by omega))
      exact ih (wd * 2) (c + ((mround xs wd).2)) h9 ((mround xs wd).1) ((mround xs wd).1) (by omega) ((c11d (lo) (by omega)).trans ((c6d (lo) (by omega)).trans HL)) c11c H12 (fun j hj hj2 => ((c11d j (by omega)).trans (c6d j (by omega))).trans (hfr j hj hj2)) (msrt_go (p := (xs, c)) (by assumption) hw hr) ((mround_len hw).trans hz) (by omega) (by omega)
/-- an int is answered; the row at a holds ys, the row at p has changed, all else is as it was -/
def mRs (r : Int32) (a : Nat) (fl : Int32) (ys : List mIt) (p : Nat) (fls : Int32) (h : mH) (n : Nat) : Option Value → mH → Nat → Prop := fun v h' n' => v = some (.int r) ∧ n' = n ∧ rowAt h' a 320 fl ys ∧ (∃ zs, rowAt h' p 320 fls zs) ∧ ∀ j, (j < a ∨ a + 3 ≤ j) → (j < p ∨ p + 3 ≤ j) → h' j = h j
set_option maxRecDepth 100000 in
set_option maxHeartbeats 2000000 in
theorem kX0_sortUp {l : Launch} (hl : l.stackTraces = false) {h : mH} {n lo a b p q0 q1 q2 room2 : Nat} {fl fls fl2 : Int32} {xs ys zs : List mIt} (HL : h lo = .inr (.inr (2, [.ref q0, .ref q1, .ref q2, .ref p]))) (H : rowAt h a 320 fl xs) (H2 : rowAt h b room2 fl2 ys) (Hp : rowAt h p 320 fls zs) (hap : a + 3 ≤ p ∨ p + 3 ≤ a) (hlp : lo < p ∨ p + 3 ≤ lo) (hla : lo < a ∨ a + 3 ≤ lo) (hab : b + 3 ≤ a ∨ a + 3 ≤ b) : mC l mX0_sortUp rX0_sortUp [.ref lo, .ref b, .ref a] h n (mRs (msort ys).2 a fl (msort ys).1 p fls h n) (mNX) := by
  obtain ⟨f_1, g_1, ea_1, ek_1, es_1, ql_1, qr_1, qk_1, qt_1⟩ := id H
  obtain ⟨f_2, g_2, ea_2, ek_2, es_2, ql_2, qr_2, qk_2, qt_2⟩ := id H2
  obtain ⟨L0, hL0⟩ : ∃ L0, L0 = ys.length := ⟨_, rfl⟩
  have hL : L0 ≤ 320 := by omega
  refine mm_enter hl (by decide +kernel) rfl rfl rfl (Nat.le_of_ble_eq_true rfl) ?_
  show mT _ _ _ _ 0 [.ref lo, .ref b, .ref a, .double 0, .double 0] [] _ _ 0 0
  refine mt_aload_n dX0_sortUp_0 rfl rfl ?_
  refine mt_aload_n dX0_sortUp_1 rfl rfl ?_
  refine mt_callV (N := mX1_become) (Rc := rX1_become) (As := [.ref b]) (st := []) dX0_sortUp_2 (kX1_become hl H H2 (by omega) (by first | omega | assumption | (simp only [List.length_append, List.length_cons, List.length_nil, span_len, Nat.sub_zero] at *; omega))) sX1_become mw_147 mKX1 rfl ea_1 rfl (Nat.le_of_ble_eq_true rfl) ⟨⟨Nat.le_of_ble_eq_true rfl, Nat.le_of_ble_eq_true rfl⟩, Nat.le_of_ble_eq_true rfl, Nat.le_of_ble_eq_true rfl⟩ (fun v3 h4 n5 c6 => ?_) (fun _ _ _ hx => hx.elim)
  obtain ⟨c6a, c6b, c6c, c6d⟩ := c6
  rw [c6a, c6b]
  show mT _ _ _ _ 5 [.ref lo, .ref b, .ref a, .double 0, .double 0] [] _ _ _ _
  refine mt_iconst dX0_sortUp_5 (v := nI 0) rfl ?_
  refine mp_istore_n dX0_sortUp_6 (ls' := [.ref lo, .ref b, .ref a, .int (nI 0), .double 0]) rfl (by decide) rfl ?_
  refine mt_iconst dX0_sortUp_7 (v := nI 1) rfl ?_
  refine mp_istore dX0_sortUp_8 (ls' := [.ref lo, .ref b, .ref a, .int (nI 0), .int (nI 1)]) rfl (by decide) rfl ?_
  have H7 : rowAt h4 p 320 fls zs := (Hp).fr (fun j j1 j2 => c6d j (by omega))
  refine tX0_sortUp_10 hl hap hlp hla hL (fun wd_8 c_9 h_10 xs_11 zs_12 z13 z14 z15 z16 => ?_) (L0 - 1 + 1) 1 (nI 0) h4 ys zs (Nat.lt_succ_self _) ((c6d (lo) (by omega)).trans HL) c6c H7 (fun j hj hj2 => c6d j (by omega)) (⟨ys.length, by omega, rfl⟩) hL0.symm (by decide) (by decide)
  refine mt_iload_n dX0_sortUp_46 rfl ?_
  refine mt_ireturn dX0_sortUp_47 rfl rfl (Nat.le_of_ble_eq_true rfl) (Nat.le_of_ble_eq_true rfl) ?_
  exact ⟨congrArg (fun x => some (Value.int x.2)) z16, rfl, (congrArg Prod.fst z16) ▸ z13, ⟨_, z14⟩, z15⟩
abbrev rX0_weaveJoined : Room := { frames := 3, cells := 0, slots := 0, locals := 73 }
set_option maxRecDepth 100000 in
set_option maxHeartbeats 2000000 in
theorem kX0_weaveJoined {l : Launch} (hl : l.stackTraces = false) {h : mH} {n lo p q0 q1 q2 m : Nat} {fl1 fl2 : Int32} {xs ys : List mIt} (HL : h lo = .inr (.inr (2, [.ref q0, .ref q1, .ref q2, .ref p]))) (H1 : rowAt h q1 320 fl1 xs) (H2 : rowAt h q2 320 fl2 ys) (h12 : q1 + 3 ≤ q2 ∨ q2 + 3 ≤ q1) (hl2 : lo < q2 ∨ q2 + 3 ≤ lo) (hmx : m ≤ xs.length) : mC l mX0_weaveJoined rX0_weaveJoined [.ref lo, .int (nI m)] h n (mRw q2 320 fl2 (List.merge (span xs 0 m) (span xs m xs.length) wle) h n) (mNX) := by
  obtain ⟨f_1, g_1, ea_1, ek_1, es_1, ql_1, qr_1, qk_1, qt_1⟩ := id H1
  refine mm_enter hl (by decide +kernel) rfl rfl rfl (Nat.le_of_ble_eq_true rfl) ?_
  show mT _ _ _ _ 0 [.ref lo, .int (nI m)] [] _ _ 0 0
  refine mt_aload_n dX0_weaveJoined_0 rfl rfl ?_
  refine mt_getfield mKX0 (i := 2) (by decide) mw_100 dX0_weaveJoined_1 HL rfl ?_
  obtain ⟨f_6, g_6, ea_6, ek_6, es_6, ql_6, qr_6, qk_6, qt_6⟩ := id H2
  refine mt_callV (N := mX1_empty) (Rc := rX1_empty) (As := []) (st := []) dX0_weaveJoined_4 (kX1_empty hl H2) sX1_empty mw_161 mKX1 rfl ea_6 rfl (Nat.le_of_ble_eq_true rfl) ⟨⟨Nat.le_of_ble_eq_true rfl, Nat.le_of_ble_eq_true rfl⟩, Nat.le_of_ble_eq_true rfl, Nat.le_of_ble_eq_true rfl⟩ (fun v2 h3 n4 c5 => ?_) (fun _ _ _ hx => hx.elim)
  obtain ⟨c5a, c5b, c5c, c5d⟩ := c5
  rw [c5a, c5b]
  show mT _ _ _ _ 7 [.ref lo, .int (nI m)] [] _ _ _ _
  refine mt_aload_n dX0_weaveJoined_7 rfl rfl ?_
  refine mt_getfield mKX0 (i := 1) (by decide) mw_98 dX0_weaveJoined_8 ((c5d (lo) (by omega)).trans HL) rfl ?_
  refine mt_iconst dX0_weaveJoined_11 (v := nI 0) rfl ?_
  refine mt_iload_n dX0_weaveJoined_12 rfl ?_
  refine mt_aload_n dX0_weaveJoined_13 rfl rfl ?_
  refine mt_getfield mKX0 (i := 1) (by decide) mw_98 dX0_weaveJoined_14 ((c5d (lo) (by omega)).trans HL) rfl ?_
  refine mt_getfield mKX1 (i := 3) (by decide) mw_75 dX0_weaveJoined_17 ((c5d (q1) (by omega)).trans ea_1) rfl ?_
  refine mt_aload_n dX0_weaveJoined_20 rfl rfl ?_
  refine mt_getfield mKX0 (i := 2) (by decide) mw_100 dX0_weaveJoined_21 ((c5d (lo) (by omega)).trans HL) rfl ?_
  have H7 : rowAt h3 q1 320 fl1 xs := (H1).fr (fun j j1 j2 => c5d j (by omega))
  refine mt_callS (N := mX0_mergeSpans) (Rc := rX0_mergeSpans) (As := [.ref q1, .int (nI 0), .int (nI m), .int (nI xs.length), .ref q2]) (st := []) dX0_weaveJoined_24 (kX0_mergeSpans hl c5c H7 (by omega) (by omega) (by omega) (by omega) (by first | omega | assumption | (simp only [List.length_append, List.length_cons, List.length_nil, span_len, Nat.sub_zero] at *; omega))) sX0_mergeSpans mw_166 rfl (Nat.le_of_ble_eq_true rfl) ⟨⟨Nat.le_of_ble_eq_true rfl, Nat.le_of_ble_eq_true rfl⟩, Nat.le_of_ble_eq_true rfl, Nat.le_of_ble_eq_true rfl⟩ (fun v8 h9 n10 c11 => ?_) (fun _ _ _ hx => hx.elim)
  obtain ⟨c11a, c11b, c11c, c11d⟩ := c11
  rw [c11a, c11b]
  show mT _ _ _ _ 27 [.ref lo, .int (nI m)] [.int (winv (span xs 0 m) (span xs m xs.length))] _ _ _ _
  refine mt_pop dX0_weaveJoined_27 rfl ?_
  refine mt_return dX0_weaveJoined_28 rfl (Nat.le_of_ble_eq_true rfl) (Nat.le_of_ble_eq_true rfl) ?_
  exact ⟨rfl, rfl, c11c, fun j hj => (c11d j (by omega)).trans (c5d j (by omega))⟩
abbrev rX0_init : Room := { frames := 2, cells := 4 * 3, slots := 4 * 644, locals := 42 }
set_option maxRecDepth 100000 in
set_option maxHeartbeats 2000000 in
theorem kX0_init {l : Launch} (hl : l.stackTraces = false) {h : mH} {lo : Nat} (H : h lo = .inr (.inr (2, [.null, .null, .null, .null]))) : mC l mX0_init rX0_init [.ref lo, .int (nI 320)] h (lo + 1) (fun v h' n' => v = none ∧ n' = lo + 13 ∧ h' lo = .inr (.inr (2, [.ref (lo + 1), .ref (lo + 4), .ref (lo + 7), .ref (lo + 10)])) ∧ rowAt h' (lo + 1) 320 (nI 1) [] ∧ rowAt h' (lo + 4) 320 (nI 1) [] ∧ rowAt h' (lo + 7) 320 (nI 1) [] ∧ rowAt h' (lo + 10) 320 (nI 1) [] ∧ ∀ j, j < lo → h' j = h j) (mNX) := by
  refine mm_enter hl (by decide +kernel) rfl rfl rfl (Nat.le_of_ble_eq_true rfl) ?_
  show mT _ _ _ _ 0 [.ref lo, .int (nI 320)] [] _ _ 0 0
  refine mt_aload_n dX0_init_0 rfl rfl ?_
  refine mt_objInit dX0_init_1 mw_93 mw_58 mw_59 (Nat.le_of_ble_eq_true rfl) ⟨Nat.le_of_ble_eq_true rfl, Nat.le_of_ble_eq_true rfl⟩ ?_
  refine mt_aload_n dX0_init_4 rfl rfl ?_
  refine mp_new mKX1 dX0_init_5 mw_94 mw_62 mw_32 (fs := [.null, .null, .int (nI 0), .int (nI 0)]) mDX1 (mdf_ok rfl) (Nat.le_of_ble_eq_true rfl) (Nat.le_of_ble_eq_true rfl) (fun h1 e2 f3 => ?_)
  refine mt_dup dX0_init_8 rfl ?_
  refine mt_iload_n dX0_init_9 rfl ?_
  refine mt_iconst dX0_init_10 (v := nI 1) rfl ?_
  refine mt_callI (N := mX1_init) (Rc := rX1_init) (As := [.int (nI 320), .int (nI 1)]) (st := [.ref (lo + 1), .ref lo]) dX0_init_11 (kX1_init hl e2 (by decide) rfl) sX1_init mw_95 rfl (Nat.le_of_ble_eq_true rfl) ⟨⟨Nat.le_of_ble_eq_true rfl, Nat.le_of_ble_eq_true rfl⟩, Nat.le_of_ble_eq_true rfl, Nat.le_of_ble_eq_true rfl⟩ (fun v4 h5 n6 c7 => ?_)
  obtain ⟨c7a, c7b, c7c, c7d⟩ := c7
  rw [c7a, c7b]
  show mT _ _ _ _ 14 [.ref lo, .int (nI 320)] [.ref (lo + 1), .ref lo] _ _ _ _
  refine mp_putfinal mKX0 (i := 0) (fs' := [.ref (lo + 1), .null, .null, .null]) (by decide) mw_96 rfl rfl rfl dX0_init_14 ((c7d (lo) (by omega)).trans ((f3 (lo) (by omega)).trans H)) (Nat.le_of_ble_eq_true rfl) rfl rfl (fun h8 e9 f10 => ?_)
  refine mt_aload_n dX0_init_17 rfl rfl ?_
  refine mp_new mKX1 dX0_init_18 mw_94 mw_62 mw_32 (fs := [.null, .null, .int (nI 0), .int (nI 0)]) mDX1 (mdf_ok rfl) (by simp only [rX0_init]; omega) (by simp only [rX0_init]; omega) (fun h11 e12 f13 => ?_)
  refine mt_dup dX0_init_21 rfl ?_
  refine mt_iload_n dX0_init_22 rfl ?_
  refine mt_iconst dX0_init_23 (v := nI 1) rfl ?_
  refine mt_callI (N := mX1_init) (Rc := rX1_init) (As := [.int (nI 320), .int (nI 1)]) (st := [.ref (lo + 4), .ref lo]) dX0_init_24 (kX1_init hl e12 (by decide) rfl) sX1_init mw_95 rfl (Nat.le_of_ble_eq_true rfl) ⟨⟨Nat.le_of_ble_eq_true rfl, Nat.le_of_ble_eq_true rfl⟩, Nat.le_of_ble_eq_true rfl, Nat.le_of_ble_eq_true rfl⟩ (fun v14 h15 n16 c17 => ?_)
  obtain ⟨c17a, c17b, c17c, c17d⟩ := c17
  rw [c17a, c17b]
  show mT _ _ _ _ 27 [.ref lo, .int (nI 320)] [.ref (lo + 4), .ref lo] _ _ _ _
  refine mp_putfinal mKX0 (i := 1) (fs' := [.ref (lo + 1), .ref (lo + 4), .null, .null]) (by decide) mw_98 rfl rfl rfl dX0_init_27 ((c17d (lo) (by omega)).trans ((f13 (lo) (by omega)).trans e9)) (Nat.le_of_ble_eq_true rfl) rfl rfl (fun h18 e19 f20 => ?_)
  refine mt_aload_n dX0_init_30 rfl rfl ?_
  refine mp_new mKX1 dX0_init_31 mw_94 mw_62 mw_32 (fs := [.null, .null, .int (nI 0), .int (nI 0)]) mDX1 (mdf_ok rfl) (by simp only [rX0_init]; omega) (by simp only [rX0_init]; omega) (fun h21 e22 f23 => ?_)
  refine mt_dup dX0_init_34 rfl ?_
  refine mt_iload_n dX0_init_35 rfl ?_
  refine mt_iconst dX0_init_36 (v := nI 1) rfl ?_
  refine mt_callI (N := mX1_init) (Rc := rX1_init) (As := [.int (nI 320), .int (nI 1)]) (st := [.ref (lo + 7), .ref lo]) dX0_init_37 (kX1_init hl e22 (by decide) rfl) sX1_init mw_95 rfl (Nat.le_of_ble_eq_true rfl) ⟨⟨Nat.le_of_ble_eq_true rfl, Nat.le_of_ble_eq_true rfl⟩, Nat.le_of_ble_eq_true rfl, Nat.le_of_ble_eq_true rfl⟩ (fun v24 h25 n26 c27 => ?_)
  obtain ⟨c27a, c27b, c27c, c27d⟩ := c27
  rw [c27a, c27b]
  show mT _ _ _ _ 40 [.ref lo, .int (nI 320)] [.ref (lo + 7), .ref lo] _ _ _ _
  refine mp_putfinal mKX0 (i := 2) (fs' := [.ref (lo + 1), .ref (lo + 4), .ref (lo + 7), .null]) (by decide) mw_100 rfl rfl rfl dX0_init_40 ((c27d (lo) (by omega)).trans ((f23 (lo) (by omega)).trans e19)) (Nat.le_of_ble_eq_true rfl) rfl rfl (fun h28 e29 f30 => ?_)
  refine mt_aload_n dX0_init_43 rfl rfl ?_
  refine mp_new mKX1 dX0_init_44 mw_94 mw_62 mw_32 (fs := [.null, .null, .int (nI 0), .int (nI 0)]) mDX1 (mdf_ok rfl) (by simp only [rX0_init]; omega) (by simp only [rX0_init]; omega) (fun h31 e32 f33 => ?_)
  refine mt_dup dX0_init_47 rfl ?_
  refine mt_iload_n dX0_init_48 rfl ?_
  refine mt_iconst dX0_init_49 (v := nI 1) rfl ?_
  refine mt_callI (N := mX1_init) (Rc := rX1_init) (As := [.int (nI 320), .int (nI 1)]) (st := [.ref (lo + 10), .ref lo]) dX0_init_50 (kX1_init hl e32 (by decide) rfl) sX1_init mw_95 rfl (Nat.le_of_ble_eq_true rfl) ⟨⟨Nat.le_of_ble_eq_true rfl, Nat.le_of_ble_eq_true rfl⟩, Nat.le_of_ble_eq_true rfl, Nat.le_of_ble_eq_true rfl⟩ (fun v34 h35 n36 c37 => ?_)
  obtain ⟨c37a, c37b, c37c, c37d⟩ := c37
  rw [c37a, c37b]
  show mT _ _ _ _ 53 [.ref lo, .int (nI 320)] [.ref (lo + 10), .ref lo] _ _ _ _
  refine mp_putfinal mKX0 (i := 3) (fs' := [.ref (lo + 1), .ref (lo + 4), .ref (lo + 7), .ref (lo + 10)]) (by decide) mw_102 rfl rfl rfl dX0_init_53 ((c37d (lo) (by omega)).trans ((f33 (lo) (by omega)).trans e29)) (Nat.le_of_ble_eq_true rfl) rfl rfl (fun h38 e39 f40 => ?_)
  refine mt_return dX0_init_56 rfl (by simp only [rX0_init]; omega) (by simp only [rX0_init]; omega) ?_
  have H41 : rowAt h38 (lo + 1) 320 (nI 1) ([]) := ((((((((((c7c).fr (fun j j1 j2 => f10 j (by omega))).fr (fun j j1 j2 => f13 j (by omega))).fr (fun j j1 j2 => c17d j (by omega))).fr (fun j j1 j2 => f20 j (by omega))).fr (fun j j1 j2 => f23 j (by omega))).fr (fun j j1 j2 => c27d j (by omega))).fr (fun j j1 j2 => f30 j (by omega))).fr (fun j j1 j2 => f33 j (by omega))).fr (fun j j1 j2 => c37d j (by omega))).fr (fun j j1 j2 => f40 j (by omega))
  have H42 : rowAt h38 (lo + 4) 320 (nI 1) ([]) := (((((((c17c).fr (fun j j1 j2 => f20 j (by omega))).fr (fun j j1 j2 => f23 j (by omega))).fr (fun j j1 j2 => c27d j (by omega))).fr (fun j j1 j2 => f30 j (by omega))).fr (fun j j1 j2 => f33 j (by omega))).fr (fun j j1 j2 => c37d j (by omega))).fr (fun j j1 j2 => f40 j (by omega))
  have H43 : rowAt h38 (lo + 7) 320 (nI 1) ([]) := ((((c27c).fr (fun j j1 j2 => f30 j (by omega))).fr (fun j j1 j2 => f33 j (by omega))).fr (fun j j1 j2 => c37d j (by omega))).fr (fun j j1 j2 => f40 j (by omega))
  have H44 : rowAt h38 (lo + 10) 320 (nI 1) ([]) := (c37c).fr (fun j j1 j2 => f40 j (by omega))
  exact ⟨rfl, rfl, e39, H41, H42, H43, H44, fun j hj => (f40 j (by omega)).trans ((c37d j (by omega)).trans ((f33 j (by omega)).trans ((f30 j (by omega)).trans ((c27d j (by omega)).trans ((f23 j (by omega)).trans ((f20 j (by omega)).trans ((c17d j (by omega)).trans ((f13 j (by omega)).trans ((f10 j (by omega)).trans ((c7d j (by omega)).trans (f3 j (by omega))))))))))))⟩
