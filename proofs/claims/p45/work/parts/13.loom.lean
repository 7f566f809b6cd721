/-! ===== the class Loom ===== -/
/-- two sorted spans woven, by the lesser key, the first one's ahead; how many pairs stood wrong -/
def wle (p q : mIt) : Bool := !decide (q.1 < p.1)
def winv : List mIt → List mIt → Int32
  | [], _ => 0
  | _ :: _, [] => 0
  | a :: as, b :: bs => if b.1 < a.1 then nI (as.length + 1) + winv (a :: as) bs else winv as (b :: bs)
theorem winv_nil {as : List mIt} : winv as [] = 0 := by cases as <;> simp [winv]
theorem winv_l {a b : mIt} {as bs : List mIt} (h : ¬ b.1 < a.1) : winv (a :: as) (b :: bs) = winv as (b :: bs) := by rw [winv, if_neg h]
theorem winv_r {a b : mIt} {as bs : List mIt} (h : b.1 < a.1) : winv (a :: as) (b :: bs) = nI (as.length + 1) + winv (a :: as) bs := by rw [winv, if_pos h]
theorem wm_nil {as : List mIt} : List.merge as [] wle = as := by cases as <;> simp [List.merge]
theorem wm_l {a b : mIt} {as bs : List mIt} (h : ¬ b.1 < a.1) : List.merge (a :: as) (b :: bs) wle = a :: List.merge as (b :: bs) wle := by
  rw [List.cons_merge_cons]; simp [wle, h]
theorem wm_r {a b : mIt} {as bs : List mIt} (h : b.1 < a.1) : List.merge (a :: as) (b :: bs) wle = b :: List.merge (a :: as) bs wle := by
  rw [List.cons_merge_cons]; simp [wle, h]
theorem ws_l {xs ys res : List mIt} {l m r e : Nat} (hl : l < m) (hm : m ≤ ys.length) (hr : r < e) (he : e ≤ ys.length) (h : ¬ xk ys r < xk ys l) (hx : xs ++ List.merge (span ys l m) (span ys r e) wle = res) : (xs ++ [(xk ys l, xt ys l)]) ++ List.merge (span ys (l + 1) m) (span ys r e) wle = res := by
  rw [span_cons hl hm, span_cons hr he, wm_l (a := (xk ys l, xt ys l)) (b := (xk ys r, xt ys r)) h] at hx
  rw [List.append_assoc, span_cons hr he]
  exact hx
theorem ws_r {xs ys res : List mIt} {l m r e : Nat} (hl : l < m) (hm : m ≤ ys.length) (hr : r < e) (he : e ≤ ys.length) (h : xk ys r < xk ys l) (hx : xs ++ List.merge (span ys l m) (span ys r e) wle = res) : (xs ++ [(xk ys r, xt ys r)]) ++ List.merge (span ys l m) (span ys (r + 1) e) wle = res := by
  rw [span_cons hl hm, span_cons hr he, wm_r (a := (xk ys l, xt ys l)) (b := (xk ys r, xt ys r)) h] at hx
  rw [List.append_assoc, span_cons hl hm]
  exact hx
theorem wi_l {ys : List mIt} {w res : Int32} {l m r e : Nat} (hl : l < m) (hm : m ≤ ys.length) (hr : r < e) (he : e ≤ ys.length) (h : ¬ xk ys r < xk ys l) (hx : w + winv (span ys l m) (span ys r e) = res) : w + winv (span ys (l + 1) m) (span ys r e) = res := by
  rw [span_cons hl hm, span_cons hr he, winv_l (a := (xk ys l, xt ys l)) (b := (xk ys r, xt ys r)) h] at hx
  rw [span_cons hr he]
  exact hx
theorem wi_r {ys : List mIt} {w res : Int32} {l m r e : Nat} (hl : l < m) (hm : m ≤ ys.length) (hr : r < e) (he : e ≤ ys.length) (h : xk ys r < xk ys l) (hx : w + winv (span ys l m) (span ys r e) = res) : (w + nI (m - l)) + winv (span ys l m) (span ys (r + 1) e) = res := by
  rw [span_cons hl hm, span_cons hr he, winv_r (a := (xk ys l, xt ys l)) (b := (xk ys r, xt ys r)) h, span_len hm] at hx
  rw [span_cons hl hm, ← hx, show m - (l + 1) + 1 = m - l by omega, Int32.add_assoc]
theorem ws_end {xs ys res : List mIt} {l m r e : Nat} (h : ¬ l < m ∨ ¬ r < e) (hm : m ≤ ys.length) (he : e ≤ ys.length) (hx : xs ++ List.merge (span ys l m) (span ys r e) wle = res) : xs ++ span ys l m ++ span ys r e = res := by
  have nil : ∀ {i j : Nat}, ¬ i < j → span ys i j = [] := fun h => by have := @span_end [] ys _ _ h; simpa using this
  rcases h with h | h
  · rw [nil h] at hx ⊢
    rw [List.nil_merge] at hx
    simpa using hx
  · rw [nil h] at hx ⊢
    rw [wm_nil] at hx
    simpa using hx
theorem wi_end {ys : List mIt} {w res : Int32} {l m r e : Nat} (h : ¬ l < m ∨ ¬ r < e) (hx : w + winv (span ys l m) (span ys r e) = res) : w = res := by
  have nil : ∀ {i j : Nat}, ¬ i < j → span ys i j = [] := fun h => by have := @span_end [] ys _ _ h; simpa using this
  rcases h with h | h
  · rw [nil h, winv, Int32.add_zero] at hx; exact hx
  · rw [nil h, winv_nil, Int32.add_zero] at hx; exact hx
/-- an int is answered; the row at a holds ys, all else is as it was -/
def mRr (r : Int32) (a room : Nat) (fl : Int32) (ys : List mIt) (h : mH) (n : Nat) : Option Value → mH → Nat → Prop := fun v h' n' => v = some (.int r) ∧ n' = n ∧ rowAt h' a room fl ys ∧ ∀ j, (j < a ∨ a + 3 ≤ j) → h' j = h j
abbrev rX0_mergeSpans : Room := { frames := 2, cells := 0, slots := 0, locals := 46 }
set_option maxRecDepth 100000 in
set_option maxHeartbeats 2000000 in
theorem tX0_mergeSpans_9 {l : Launch} {K : mK} {n a b room room2 s m e : Nat} {fl fl2 cr : Int32} {ys r : List mIt} {h0 : mH} (hl : l.stackTraces = false) (hab : b + 3 ≤ a ∨ a + 3 ≤ b) (hmy : m ≤ ys.length) (he : e ≤ ys.length) (kk0 : ∀ (lf : Nat) (rt : Nat) (c : Int32) (h : mH) (xs : List mIt), (rowAt h a room fl xs) → (rowAt h b room2 fl2 ys) → (∀ j, (j < a ∨ a + 3 ≤ j) → h j = h0 j) → (xs ++ span ys lf m ++ span ys rt e = r) → (c = cr) → (xs.length + (m - lf) + (e - rt) ≤ room) → (lf ≤ m) → (rt ≤ e) → mT l mX0_mergeSpans rX0_mergeSpans K 97 [.ref b, .int (nI s), .int (nI m), .int (nI e), .ref a, .int c, .int (nI lf), .int (nI rt)] [] h n 0 0) : ∀ (N0 : Nat) (lf : Nat) (rt : Nat) (c : Int32) (h : mH) (xs : List mIt), ((m - lf) + (e - rt)) < N0 → (rowAt h a room fl xs) → (rowAt h b room2 fl2 ys) → (∀ j, (j < a ∨ a + 3 ≤ j) → h j = h0 j) → (xs ++ List.merge (span ys lf m) (span ys rt e) wle = r) → (c + winv (span ys lf m) (span ys rt e) = cr) → (xs.length + (m - lf) + (e - rt) ≤ room) → (lf ≤ m) → (rt ≤ e) → mT l mX0_mergeSpans rX0_mergeSpans K 9 [.ref b, .int (nI s), .int (nI m), .int (nI e), .ref a, .int c, .int (nI lf), .int (nI rt)] [] h n 0 0 := by
  intro N0
  induction N0 with
  | zero => intro lf rt c h xs hm; exact absurd hm (Nat.not_lt_zero _)
  | succ N0 ih =>
    intro lf rt c h xs hm H H2 hfr hxs hc hro hlm hre
    obtain ⟨f_1, g_1, ea_1, ek_1, es_1, ql_1, qr_1, qk_1, qt_1⟩ := id H
    obtain ⟨f_2, g_2, ea_2, ek_2, es_2, ql_2, qr_2, qk_2, qt_2⟩ := id H2
    refine mt_iload dX0_mergeSpans_9 rfl ?_
    refine mt_iload_n dX0_mergeSpans_11 rfl ?_
    refine mt_icmp_ge dX0_mergeSpans_12 (tgt := 97) rfl (fun q3 => ?_) (fun q3 => ?_)
    · have q3 := Int32.not_lt.mpr q3
      have q3 := (not_congr (nI_ltI (by omega) (by omega))).mp q3
      exact kk0 lf rt c h xs H H2 hfr (ws_end (by omega) hmy he hxs) (wi_end (ys := ys) (l := lf) (m := m) (r := rt) (e := e) (by omega) hc) hro hlm hre
    · have q3 := Int32.not_le.mp q3
      have q3 := (nI_ltI (by omega) (by omega)).mp q3
      refine mt_iload dX0_mergeSpans_15 rfl ?_
      refine mt_iload_n dX0_mergeSpans_17 rfl ?_
      refine mt_icmp_ge dX0_mergeSpans_18 (tgt := 97) rfl (fun q4 => ?_) (fun q4 => ?_)
      · have q4 := Int32.not_lt.mpr q4
        have q4 := (not_congr (nI_ltI (by omega) (by omega))).mp q4
        exact kk0 lf rt c h xs H H2 hfr (ws_end (by omega) hmy he hxs) (wi_end (ys := ys) (l := lf) (m := m) (r := rt) (e := e) (by omega) hc) hro hlm hre
      · have q4 := Int32.not_le.mp q4
        have q4 := (nI_ltI (by omega) (by omega)).mp q4
        refine mt_aload_n dX0_mergeSpans_21 rfl rfl ?_
        refine mt_getfield mKX1 (i := 0) (by decide) mw_69 dX0_mergeSpans_22 ea_2 rfl ?_
        refine mt_iload dX0_mergeSpans_25 rfl ?_
        refine mp_iaload dX0_mergeSpans_27 ek_2 rfl (by omega) (by omega) (v := xk ys lf) (qk_2 _ (by omega)) ?_
        refine mt_aload_n dX0_mergeSpans_28 rfl rfl ?_
        refine mt_getfield mKX1 (i := 0) (by decide) mw_69 dX0_mergeSpans_29 ea_2 rfl ?_
        refine mt_iload dX0_mergeSpans_32 rfl ?_
        refine mp_iaload dX0_mergeSpans_34 ek_2 rfl (by omega) (by omega) (v := xk ys rt) (qk_2 _ (by omega)) ?_
        refine mt_icmp_gt dX0_mergeSpans_35 (tgt := 63) rfl (fun q5 => ?_) (fun q5 => ?_)
        · refine mt_iload dX0_mergeSpans_63 rfl ?_
          refine mt_iload_n dX0_mergeSpans_65 rfl ?_
          refine mt_iload dX0_mergeSpans_66 rfl ?_
          refine mp_isub dX0_mergeSpans_68 (v := nI (m - lf)) (pk_sub (by omega)) ?_
          refine mp_iadd dX0_mergeSpans_69 (v := c + (nI (m - lf))) rfl ?_
          refine mp_istore dX0_mergeSpans_70 (ls' := [.ref b, .int (nI s), .int (nI m), .int (nI e), .ref a, .int (c + (nI (m - lf))), .int (nI lf), .int (nI rt)]) rfl (by decide) rfl ?_
          refine mt_aload dX0_mergeSpans_72 rfl rfl ?_
          refine mt_aload_n dX0_mergeSpans_74 rfl rfl ?_
          refine mt_getfield mKX1 (i := 0) (by decide) mw_69 dX0_mergeSpans_75 ea_2 rfl ?_
          refine mt_iload dX0_mergeSpans_78 rfl ?_
          refine mp_iaload dX0_mergeSpans_80 ek_2 rfl (by omega) (by omega) (v := xk ys rt) (qk_2 _ (by omega)) ?_
          refine mt_aload_n dX0_mergeSpans_81 rfl rfl ?_
          refine mt_getfield mKX1 (i := 1) (by decide) mw_72 dX0_mergeSpans_82 ea_2 rfl ?_
          refine mt_iload dX0_mergeSpans_85 rfl ?_
          refine mp_iaload dX0_mergeSpans_87 es_2 rfl (by omega) (by omega) (v := xt ys rt) (qt_2 _ (by omega)) ?_
          refine mt_callV (N := mX1_append) (Rc := rX1_append) (As := [.int (xk ys rt), .int (xt ys rt)]) (st := []) dX0_mergeSpans_88 (kX1_append hl H (by first | omega | assumption | (simp only [List.length_append, List.length_cons, List.length_nil, span_len, Nat.sub_zero] at *; omega))) sX1_append mw_169 mKX1 rfl ea_1 rfl (Nat.le_of_ble_eq_true rfl) ⟨⟨Nat.le_of_ble_eq_true rfl, Nat.le_of_ble_eq_true rfl⟩, Nat.le_of_ble_eq_true rfl, Nat.le_of_ble_eq_true rfl⟩ (fun v6 h7 n8 c9 => ?_) (fun _ _ _ hx => hx.elim)
          obtain ⟨c9a, c9b, c9c, c9d⟩ := c9
          rw [c9a, c9b]
          show mT _ _ _ _ 91 [.ref b, .int (nI s), .int (nI m), .int (nI e), .ref a, .int (c + (nI (m - lf))), .int (nI lf), .int (nI rt)] [] _ _ _ _
          refine mp_iinc dX0_mergeSpans_91 rfl (v := nI (rt + 1)) mI_inc (ls' := [.ref b, .int (nI s), .int (nI m), .int (nI e), .ref a, .int (c + (nI (m - lf))), .int (nI lf), .int (nI (rt + 1))]) rfl (by decide) rfl ?_
          refine mt_goto dX0_mergeSpans_94 (tgt := 9) rfl ?_
          have H10 : rowAt h7 b room2 fl2 ys := (H2).fr (fun j j1 j2 => c9d j (by omega))
          exact ih lf (rt + 1) (c + (nI (m - lf))) h7 (xs ++ [(xk ys rt, xt ys rt)]) (by omega) c9c H10 (fun j hj => (c9d j (by omega)).trans (hfr j hj)) (ws_r (by omega) hmy (by omega) he q5 hxs) (wi_r (by omega) hmy (by omega) he q5 hc) (by rw [List.length_append]; simp only [List.length_cons, List.length_nil]; omega) (by omega) (by omega)
        · refine mt_aload dX0_mergeSpans_38 rfl rfl ?_
          refine mt_aload_n dX0_mergeSpans_40 rfl rfl ?_
          refine mt_getfield mKX1 (i := 0) (by decide) mw_69 dX0_mergeSpans_41 ea_2 rfl ?_
          refine mt_iload dX0_mergeSpans_44 rfl ?_
          refine mp_iaload dX0_mergeSpans_46 ek_2 rfl (by omega) (by omega) (v := xk ys lf) (qk_2 _ (by omega)) ?_
          refine mt_aload_n dX0_mergeSpans_47 rfl rfl ?_
          refine mt_getfield mKX1 (i := 1) (by decide) mw_72 dX0_mergeSpans_48 ea_2 rfl ?_
          refine mt_iload dX0_mergeSpans_51 rfl ?_
          refine mp_iaload dX0_mergeSpans_53 es_2 rfl (by omega) (by omega) (v := xt ys lf) (qt_2 _ (by omega)) ?_
          refine mt_callV (N := mX1_append) (Rc := rX1_append) (As := [.int (xk ys lf), .int (xt ys lf)]) (st := []) dX0_mergeSpans_54 (kX1_append hl H (by first | omega | assumption | (simp only [List.length_append, List.length_cons, List.length_nil, span_len, Nat.sub_zero] at *; omega))) sX1_append mw_169 mKX1 rfl ea_1 rfl (Nat.le_of_ble_eq_true rfl) ⟨⟨Nat.le_of_ble_eq_true rfl, Nat.le_of_ble_eq_true rfl⟩, Nat.le_of_ble_eq_true rfl, Nat.le_of_ble_eq_true rfl⟩ (fun v11 h12 n13 c14 => ?_) (fun _ _ _ hx => hx.elim)
          obtain ⟨c14a, c14b, c14c, c14d⟩ := c14
          rw [c14a, c14b]
          show mT _ _ _ _ 57 [.ref b, .int (nI s), .int (nI m), .int (nI e), .ref a, .int c, .int (nI lf), .int (nI rt)] [] _ _ _ _
          refine mp_iinc dX0_mergeSpans_57 rfl (v := nI (lf + 1)) mI_inc (ls' := [.ref b, .int (nI s), .int (nI m), .int (nI e), .ref a, .int c, .int (nI (lf + 1)), .int (nI rt)]) rfl (by decide) rfl ?_
          refine mt_goto dX0_mergeSpans_60 (tgt := 9) rfl ?_
          have H15 : rowAt h12 b room2 fl2 ys := (H2).fr (fun j j1 j2 => c14d j (by omega))
          exact ih (lf + 1) rt c h12 (xs ++ [(xk ys lf, xt ys lf)]) (by omega) c14c H15 (fun j hj => (c14d j (by omega)).trans (hfr j hj)) (ws_l (by omega) hmy (by omega) he q5 hxs) (wi_l (by omega) hmy (by omega) he q5 hc) (by rw [List.length_append]; simp only [List.length_cons, List.length_nil]; omega) (by omega) (by omega)
set_option maxRecDepth 100000 in
set_option maxHeartbeats 2000000 in
theorem kX0_mergeSpans {l : Launch} (hl : l.stackTraces = false) {h : mH} {n a b room room2 s m e : Nat} {fl fl2 : Int32} {xs ys : List mIt} (H : rowAt h a room fl xs) (H2 : rowAt h b room2 fl2 ys) (hab : b + 3 ≤ a ∨ a + 3 ≤ b) (hs : s ≤ m) (hme : m ≤ e) (he : e ≤ ys.length) (hro : xs.length + (e - s) ≤ room) : mC l mX0_mergeSpans rX0_mergeSpans [.ref b, .int (nI s), .int (nI m), .int (nI e), .ref a] h n (mRr (winv (span ys s m) (span ys m e)) a room fl (xs ++ List.merge (span ys s m) (span ys m e) wle) h n) (mNX) := by
  obtain ⟨f_1, g_1, ea_1, ek_1, es_1, ql_1, qr_1, qk_1, qt_1⟩ := id H
  obtain ⟨f_2, g_2, ea_2, ek_2, es_2, ql_2, qr_2, qk_2, qt_2⟩ := id H2
  have hmy : m ≤ ys.length := by omega
  have hro : xs.length + (m - s) + (e - m) ≤ room := by omega
  refine mm_enter hl (by decide +kernel) rfl rfl rfl (Nat.le_of_ble_eq_true rfl) ?_
  show mT _ _ _ _ 0 [.ref b, .int (nI s), .int (nI m), .int (nI e), .ref a, .double 0, .double 0, .double 0] [] _ _ 0 0
  refine mt_iconst dX0_mergeSpans_0 (v := nI 0) rfl ?_
  refine mp_istore dX0_mergeSpans_1 (ls' := [.ref b, .int (nI s), .int (nI m), .int (nI e), .ref a, .int (nI 0), .double 0, .double 0]) rfl (by decide) rfl ?_
  refine mt_iload_n dX0_mergeSpans_3 rfl ?_
  refine mp_istore dX0_mergeSpans_4 (ls' := [.ref b, .int (nI s), .int (nI m), .int (nI e), .ref a, .int (nI 0), .int (nI s), .double 0]) rfl (by decide) rfl ?_
  refine mt_iload_n dX0_mergeSpans_6 rfl ?_
  refine mp_istore dX0_mergeSpans_7 (ls' := [.ref b, .int (nI s), .int (nI m), .int (nI e), .ref a, .int (nI 0), .int (nI s), .int (nI m)]) rfl (by decide) rfl ?_
  refine tX0_mergeSpans_9 hl hab hmy he (fun lf_3 rt_4 c_5 h_6 xs_7 z8 z9 z10 z11 z12 z13 z14 z15 => ?_) ((m - s) + (e - m) + 1) s m (nI 0) h xs (Nat.lt_succ_self _) H H2 (fun _ _ => rfl) rfl rfl hro (by omega) (by omega)
  have sl9 := span_len (ys := ys) (i := lf_3) hmy
  refine mt_aload dX0_mergeSpans_97 rfl rfl ?_
  refine mt_aload_n dX0_mergeSpans_99 rfl rfl ?_
  refine mt_iload dX0_mergeSpans_100 rfl ?_
  refine mt_iload_n dX0_mergeSpans_102 rfl ?_
  obtain ⟨f_20, g_20, ea_20, ek_20, es_20, ql_20, qr_20, qk_20, qt_20⟩ := id z8
  refine mt_callV (N := mX1_appendSpan) (Rc := rX1_appendSpan) (As := [.ref b, .int (nI lf_3), .int (nI m)]) (st := []) dX0_mergeSpans_103 (kX1_appendSpan hl z8 z9 (by omega) (by omega) (by first | omega | assumption | (simp only [List.length_append, List.length_cons, List.length_nil, span_len, Nat.sub_zero] at *; omega)) (by omega)) sX1_appendSpan mw_173 mKX1 rfl ea_20 rfl (Nat.le_of_ble_eq_true rfl) ⟨⟨Nat.le_of_ble_eq_true rfl, Nat.le_of_ble_eq_true rfl⟩, Nat.le_of_ble_eq_true rfl, Nat.le_of_ble_eq_true rfl⟩ (fun v16 h17 n18 c19 => ?_) (fun _ _ _ hx => hx.elim)
  obtain ⟨c19a, c19b, c19c, c19d⟩ := c19
  rw [c19a, c19b]
  show mT _ _ _ _ 106 [.ref b, .int (nI s), .int (nI m), .int (nI e), .ref a, .int c_5, .int (nI lf_3), .int (nI rt_4)] [] _ _ _ _
  refine mt_aload dX0_mergeSpans_106 rfl rfl ?_
  refine mt_aload_n dX0_mergeSpans_108 rfl rfl ?_
  refine mt_iload dX0_mergeSpans_109 rfl ?_
  refine mt_iload_n dX0_mergeSpans_111 rfl ?_
  have H21 : rowAt h17 b room2 fl2 ys := (z9).fr (fun j j1 j2 => c19d j (by omega))
  obtain ⟨f_26, g_26, ea_26, ek_26, es_26, ql_26, qr_26, qk_26, qt_26⟩ := id c19c
  refine mt_callV (N := mX1_appendSpan) (Rc := rX1_appendSpan) (As := [.ref b, .int (nI rt_4), .int (nI e)]) (st := []) dX0_mergeSpans_112 (kX1_appendSpan hl c19c H21 (by omega) (by omega) (by first | omega | assumption | (simp only [List.length_append, List.length_cons, List.length_nil, span_len, Nat.sub_zero] at *; omega)) (by omega)) sX1_appendSpan mw_173 mKX1 rfl ea_26 rfl (Nat.le_of_ble_eq_true rfl) ⟨⟨Nat.le_of_ble_eq_true rfl, Nat.le_of_ble_eq_true rfl⟩, Nat.le_of_ble_eq_true rfl, Nat.le_of_ble_eq_true rfl⟩ (fun v22 h23 n24 c25 => ?_) (fun _ _ _ hx => hx.elim)
  obtain ⟨c25a, c25b, c25c, c25d⟩ := c25
  rw [c25a, c25b]
  show mT _ _ _ _ 115 [.ref b, .int (nI s), .int (nI m), .int (nI e), .ref a, .int c_5, .int (nI lf_3), .int (nI rt_4)] [] _ _ _ _
  refine mt_iload dX0_mergeSpans_115 rfl ?_
  refine mt_ireturn dX0_mergeSpans_117 rfl rfl (Nat.le_of_ble_eq_true rfl) (Nat.le_of_ble_eq_true rfl) ?_
  exact ⟨congrArg (fun x => some (Value.int x)) (z12.trans (Int32.zero_add _)), rfl, z11 ▸ c25c, fun j hj => ((c25d j (by omega)).trans (c19d j (by omega))).trans (z10 j hj)⟩
/-- one round: neighbours of a width, woven -/
def mpass (xs : List mIt) (wd : Nat) : Nat → Nat → List mIt × Int32 → List mIt × Int32
  | 0, _, p => p
  | d + 1, s, p => if s < xs.length then mpass xs wd d (s + 2 * wd) (p.1 ++ List.merge (span xs s (min (s + wd) xs.length)) (span xs (min (s + wd) xs.length) (min (s + 2 * wd) xs.length)) wle, p.2 + winv (span xs s (min (s + wd) xs.length)) (span xs (min (s + wd) xs.length) (min (s + 2 * wd) xs.length))) else p
theorem mpass_go {xs : List mIt} {wd s : Nat} {p r : List mIt × Int32} (h : s < xs.length) (hw : 0 < wd) (hr : ∃ d, xs.length ≤ s + d ∧ mpass xs wd d s p = r) : ∃ d, xs.length ≤ (s + 2 * wd) + d ∧ mpass xs wd d (s + 2 * wd) (p.1 ++ List.merge (span xs s (min (s + wd) xs.length)) (span xs (min (s + wd) xs.length) (min (s + 2 * wd) xs.length)) wle, p.2 + winv (span xs s (min (s + wd) xs.length)) (span xs (min (s + wd) xs.length) (min (s + 2 * wd) xs.length))) = r := by
  obtain ⟨d, h1, h2⟩ := hr
  match d, h1, h2 with
  | 0, h1, h2 => omega
  | d + 1, h1, h2 =>
    rw [mpass, if_pos h] at h2
    exact ⟨d, by omega, h2⟩
theorem mpass_end {xs : List mIt} {wd s : Nat} {p r : List mIt × Int32} (h : ¬ s < xs.length) (hr : ∃ d, xs.length ≤ s + d ∧ mpass xs wd d s p = r) : p = r := by
  obtain ⟨d, h1, h2⟩ := hr
  match d, h1, h2 with
  | 0, h1, h2 => exact h2
  | d + 1, h1, h2 =>
    rw [mpass, if_neg h] at h2
    exact h2
abbrev rX0_mergeNeighbours : Room := { frames := 3, cells := 0, slots := 0, locals := 73 }
