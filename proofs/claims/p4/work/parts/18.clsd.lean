/-! ===== the class: turn, items that come from elsewhere ===== -/
abbrev rX2_turn : Room := { frames := 7, cells := 1, slots := 6, locals := 111 }
set_option maxRecDepth 100000 in
set_option maxHeartbeats 2000000 in
theorem tX2_turn_26 {l : Launch} {K : mK} {n a b room rr : Nat} {fl fl2 : Int32} {xs r : List mIt} {h0 : mH} (hl : l.stackTraces = false) (hab : b + 3 ≤ a ∨ a + 3 ≤ b) (kk0 : ∀ (h : mH), (rowAt h b 320 fl2 r) → (∀ j, (j < b ∨ b + 3 ≤ j) → h j = h0 j) → mT l mX2_turn rX2_turn K 55 [.ref 0, .int (nI rr), .ref a, .ref b, .int (-1)] [] h n 1 6) : ∀ (N0 : Nat) (d : Nat) (h : mH) (ys : List mIt), d < N0 → (rowAt h a room fl xs) → (rowAt h b 320 fl2 ys) → (∀ j, (j < b ∨ b + 3 ≤ j) → h j = h0 j) → (ys ++ rv xs d = r) → (d ≤ xs.length) → (ys.length + d ≤ 320) → mT l mX2_turn rX2_turn K 26 [.ref 0, .int (nI rr), .ref a, .ref b, .int (mpr d)] [] h n 1 6 := by
  intro N0
  induction N0 with
  | zero => intro d h ys hm; exact absurd hm (Nat.not_lt_zero _)
  | succ N0 ih =>
    intro d h ys hm H H2 hfr hr hd hy
    obtain ⟨f_1, g_1, ea_1, ek_1, es_1, ql_1, qr_1, qk_1, qt_1⟩ := id H
    rcases d with _ | d
    · show mT _ _ _ _ 26 [.ref 0, .int (nI rr), .ref a, .ref b, .int (-1)] [] _ _ _ _
      refine mt_iload dX2_turn_26 rfl ?_
      refine mt_if_lt dX2_turn_28 (tgt := 55) rfl (fun q2 => ?_) (fun q2 => ?_)
      · exact kk0 h (((List.append_nil _).symm.trans hr) ▸ H2) hfr
      · exact (q2 (by decide)).elim
    · rw [mpr_s]
      refine mt_iload dX2_turn_26 rfl ?_
      refine mt_if_lt dX2_turn_28 (tgt := 55) rfl (fun q3 => ?_) (fun q3 => ?_)
      · have q3 := (mI_lt0 (by omega)).mp q3
        exact q3.elim
      · have q3 := (not_congr (mI_lt0 (by omega))).mp q3
        refine mt_aload_n dX2_turn_31 rfl rfl ?_
        refine mt_aload_n dX2_turn_32 rfl rfl ?_
        refine mt_getfield mKX1 (i := 0) (by decide) mw_68 dX2_turn_33 ea_1 rfl ?_
        refine mt_iload dX2_turn_36 rfl ?_
        refine mp_iaload dX2_turn_38 ek_1 rfl (by omega) (by omega) (v := xk xs d) (qk_1 _ (by omega)) ?_
        refine mt_aload_n dX2_turn_39 rfl rfl ?_
        refine mt_getfield mKX1 (i := 1) (by decide) mw_71 dX2_turn_40 ea_1 rfl ?_
        refine mt_iload dX2_turn_43 rfl ?_
        refine mp_iaload dX2_turn_45 es_1 rfl (by omega) (by omega) (v := xt xs d) (qt_1 _ (by omega)) ?_
        obtain ⟨f_8, g_8, ea_8, ek_8, es_8, ql_8, qr_8, qk_8, qt_8⟩ := id H2
        refine mt_callV (N := mX1_append) (Rc := rX1_append) (As := [.int (xk xs d), .int (xt xs d)]) (st := []) dX2_turn_46 (kX1_append hl H2 (by first | omega | assumption | (simp only [List.length_append, List.length_cons, List.length_nil, span_len, Nat.sub_zero] at *; omega))) sX1_append mw_421 mKX1 rfl ea_8 rfl (Nat.le_of_ble_eq_true rfl) ⟨⟨Nat.le_of_ble_eq_true rfl, Nat.le_of_ble_eq_true rfl⟩, Nat.le_of_ble_eq_true rfl, Nat.le_of_ble_eq_true rfl⟩ (fun v4 h5 n6 c7 => ?_) (fun _ _ _ hx => hx.elim)
        obtain ⟨c7a, c7b, c7c, c7d⟩ := c7
        rw [c7a, c7b]
        show mT _ _ _ _ 49 [.ref 0, .int (nI rr), .ref a, .ref b, .int (nI d)] [] _ _ _ _
        refine mp_iinc dX2_turn_49 rfl (v := mpr d) mpr_dec (ls' := [.ref 0, .int (nI rr), .ref a, .ref b, .int (mpr d)]) rfl (by decide) rfl ?_
        refine mt_goto dX2_turn_52 (tgt := 26) rfl ?_
        have H9 : rowAt h5 a room fl xs := (H).fr (fun j j1 j2 => c7d j (by omega))
        exact ih d h5 (ys ++ [(xk xs d, xt xs d)]) (by omega) H9 c7c (fun j hj => (c7d j (by omega)).trans (hfr j hj)) (rv_go.trans hr) (by omega) (by rw [List.length_append]; simp only [List.length_cons, List.length_nil]; omega)
def sp_turn (S : cS) (row : Int32) : Nat × Value × cS := dAt S 4 row fun r => (0, .int (q_otherKeys (S.1 r) (rv (S.1 r) (S.1 r).length)), cAct (cSet S r (rv (S.1 r) (S.1 r).length)))
set_option maxRecDepth 100000 in
set_option maxHeartbeats 2000000 in
theorem kX2_turn {l : Launch} (hl : l.stackTraces = false) {h : mH} {n : Nat} {S : cS} {row : Int32} (C : cAt h S) : mC l mX2_turn rX2_turn [.ref 0, .int row] h n (cOk (sp_turn S row) h n) (cNo (sp_turn S row).1 h n) := by
  obtain ⟨C0, ⟨cg, C1, C1g⟩, C14, CR, ⟨zs15, HK15⟩, ⟨zs18, HK18⟩, ⟨zs21, HK21⟩, ⟨zs24, HK24⟩⟩ := id C
  refine mm_enter hl (by decide +kernel) rfl rfl rfl (Nat.le_of_ble_eq_true rfl) ?_
  show mT _ _ _ _ 0 [.ref 0, .int row, .double 0, .double 0, .double 0] [] _ _ 0 0
  refine mt_aload_n dX2_turn_0 rfl rfl ?_
  refine mt_iload_n dX2_turn_1 rfl ?_
  refine mt_callV (N := mX2_rowOf) (Rc := rX2_rowOf) (As := [.int row]) (st := []) dX2_turn_2 (kX2_rowOf hl C) sX2_rowOf mw_230 mKX2 rfl C0 rfl (Nat.le_of_ble_eq_true rfl) ⟨⟨Nat.le_of_ble_eq_true rfl, Nat.le_of_ble_eq_true rfl⟩, Nat.le_of_ble_eq_true rfl, Nat.le_of_ble_eq_true rfl⟩ (fun v1 h2 n3 c4 => ?_) (fun E h9 n9 hx => mt_out rfl (by obtain ⟨rfl, hq, rfl, rfl⟩ := hx; exact cNo.i (by simp only [sp_turn, dAt_n hq])) (Nat.le_of_ble_eq_true rfl) (Nat.le_of_ble_eq_true rfl))
  obtain ⟨r5, hr5, rfl, c4a, c4b, c4c⟩ := c4
  rw [c4a, c4b, c4c]
  have hLr5 := (CR r5 hr5).len
  show mT _ _ _ _ 5 [.ref 0, .int (nI r5), .double 0, .double 0, .double 0] [.ref (2 + 3 * r5)] _ _ _ _
  refine mp_astore_n dX2_turn_5 (ls' := [.ref 0, .int (nI r5), .ref (2 + 3 * r5), .double 0, .double 0]) rfl rfl (by decide) rfl ?_
  refine mt_aload_n dX2_turn_6 rfl rfl ?_
  refine mt_getfield mKX2 (i := 1) (by decide) mw_113 dX2_turn_7 C0 rfl ?_
  refine mt_getfield mKX0 (i := 2) (by decide) mw_101 dX2_turn_10 C14 rfl ?_
  refine mp_astore_n dX2_turn_13 (ls' := [.ref 0, .int (nI r5), .ref (2 + 3 * r5), .ref 21, .double 0]) rfl rfl (by decide) rfl ?_
  refine mt_aload_n dX2_turn_14 rfl rfl ?_
  obtain ⟨f_10, g_10, ea_10, ek_10, es_10, ql_10, qr_10, qk_10, qt_10⟩ := id HK21
  refine mt_callV (N := mX1_empty) (Rc := rX1_empty) (As := []) (st := []) dX2_turn_15 (kX1_empty hl HK21) sX1_empty mw_407 mKX1 rfl ea_10 rfl (Nat.le_of_ble_eq_true rfl) ⟨⟨Nat.le_of_ble_eq_true rfl, Nat.le_of_ble_eq_true rfl⟩, Nat.le_of_ble_eq_true rfl, Nat.le_of_ble_eq_true rfl⟩ (fun v6 h7 n8 c9 => ?_) (fun _ _ _ hx => hx.elim)
  obtain ⟨c9a, c9b, c9c, c9d⟩ := c9
  rw [c9a, c9b]
  show mT _ _ _ _ 18 [.ref 0, .int (nI r5), .ref (2 + 3 * r5), .ref 21, .double 0] [] _ _ _ _
  refine mt_aload_n dX2_turn_18 rfl rfl ?_
  obtain ⟨f_11, g_11, ea_11, ek_11, es_11, ql_11, qr_11, qk_11, qt_11⟩ := id (CR r5 (by omega)).fr (fun j j1 j2 => c9d j (by omega))
  refine mt_getfield mKX1 (i := 3) (by decide) mw_76 dX2_turn_19 ea_11 rfl ?_
  refine mt_iconst dX2_turn_22 (v := nI 1) rfl ?_
  refine mp_isub dX2_turn_23 (v := mpr ((S.1 r5).length)) rfl ?_
  refine mp_istore dX2_turn_24 (ls' := [.ref 0, .int (nI r5), .ref (2 + 3 * r5), .ref 21, .int (mpr ((S.1 r5).length))]) rfl (by decide) rfl ?_
  have H12 : rowAt h7 (2 + 3 * r5) (rroom r5) (mb (decide (r5 < 2))) (S.1 r5) := (CR r5 (by omega)).fr (fun j j1 j2 => c9d j (by omega))
  refine tX2_turn_26 hl (by omega) (fun h_13 z14 z15 => ?_) (((S.1 r5).length) + 1) ((S.1 r5).length) h7 ([]) (Nat.lt_succ_self _) H12 c9c (fun _ _ => rfl) rfl (Nat.le_refl _) (by simp only [List.length_nil]; omega)
  have rl9 := rv_len (xs := S.1 r5) (d := (S.1 r5).length)
  refine mt_aload_n dX2_turn_55 rfl rfl ?_
  refine mt_aload_n dX2_turn_56 rfl rfl ?_
  have H16 : rowAt h_13 (2 + 3 * r5) (rroom r5) (mb (decide (r5 < 2))) (S.1 r5) := (H12).fr (fun j j1 j2 => z15 j (by omega))
  refine mt_callV (N := mX1_otherKeys) (Rc := rX1_otherKeys) (As := [.ref 21]) (st := []) dX2_turn_57 (kX1_otherKeys hl H16 z14) sX1_otherKeys mw_510 mKX1 rfl ((z15 (2 + 3 * r5) (by omega)).trans ea_11) rfl (Nat.le_of_ble_eq_true rfl) ⟨⟨Nat.le_of_ble_eq_true rfl, Nat.le_of_ble_eq_true rfl⟩, Nat.le_of_ble_eq_true rfl, Nat.le_of_ble_eq_true rfl⟩ (fun v17 h18 n19 c20 => ?_) (fun _ _ _ hx => hx.elim)
  obtain ⟨c20a, c20b, c20c⟩ := c20
  rw [c20a, c20b, c20c]
  show mT _ _ _ _ 60 [.ref 0, .int (nI r5), .ref (2 + 3 * r5), .ref 21, .int (-1)] [.int (q_otherKeys (S.1 r5) (rv (S.1 r5) (S.1 r5).length))] _ _ _ _
  refine mp_istore dX2_turn_60 (ls' := [.ref 0, .int (nI r5), .ref (2 + 3 * r5), .ref 21, .int (q_otherKeys (S.1 r5) (rv (S.1 r5) (S.1 r5).length))]) rfl (by decide) rfl ?_
  refine mt_aload_n dX2_turn_62 rfl rfl ?_
  refine mt_aload_n dX2_turn_63 rfl rfl ?_
  refine mt_callV (N := mX1_become) (Rc := rX1_become) (As := [.ref 21]) (st := []) dX2_turn_64 (kX1_become hl H16 z14 (by omega) (by first | omega | assumption | (simp only [List.length_append, List.length_cons, List.length_nil, span_len, Nat.sub_zero] at *; omega))) sX1_become mw_210 mKX1 rfl ((z15 (2 + 3 * r5) (by omega)).trans ea_11) rfl (Nat.le_of_ble_eq_true rfl) ⟨⟨Nat.le_of_ble_eq_true rfl, Nat.le_of_ble_eq_true rfl⟩, Nat.le_of_ble_eq_true rfl, Nat.le_of_ble_eq_true rfl⟩ (fun v21 h22 n23 c24 => ?_) (fun _ _ _ hx => hx.elim)
  obtain ⟨c24a, c24b, c24c, c24d⟩ := c24
  rw [c24a, c24b]
  show mT _ _ _ _ 67 [.ref 0, .int (nI r5), .ref (2 + 3 * r5), .ref 21, .int (q_otherKeys (S.1 r5) (rv (S.1 r5) (S.1 r5).length))] [] _ _ _ _
  refine mt_aload_n dX2_turn_67 rfl rfl ?_
  refine mt_iload dX2_turn_68 rfl ?_
  refine mt_callV (N := mX2_done) (Rc := rX2_done) (As := [.int (q_otherKeys (S.1 r5) (rv (S.1 r5) (S.1 r5).length))]) (st := []) dX2_turn_70 (kX2_done hl ((c24d (0) (by omega)).trans ((z15 (0) (by omega)).trans ((c9d (0) (by omega)).trans C0)))) sX2_done mw_430 mKX2 rfl ((c24d (0) (by omega)).trans ((z15 (0) (by omega)).trans ((c9d (0) (by omega)).trans C0))) rfl (Nat.le_of_ble_eq_true rfl) ⟨⟨Nat.le_of_ble_eq_true rfl, Nat.le_of_ble_eq_true rfl⟩, Nat.le_of_ble_eq_true rfl, Nat.le_of_ble_eq_true rfl⟩ (fun v25 h26 n27 c28 => ?_) (fun _ _ _ hx => hx.elim)
  obtain ⟨c28a, c28b, c28c, c28d⟩ := c28
  rw [c28a, c28b]
  show mT _ _ _ _ 73 [.ref 0, .int (nI r5), .ref (2 + 3 * r5), .ref 21, .int (q_otherKeys (S.1 r5) (rv (S.1 r5) (S.1 r5).length))] [.int (q_otherKeys (S.1 r5) (rv (S.1 r5) (S.1 r5).length))] _ _ _ _
  refine mt_ireturn dX2_turn_73 rfl rfl (Nat.le_of_ble_eq_true rfl) (Nat.le_of_ble_eq_true rfl) ?_
  exact cOk.of (x := .int (q_otherKeys (S.1 r5) (rv (S.1 r5) (S.1 r5).length))) (S' := (fun k => if k = r5 then rv (S.1 r5) (S.1 r5).length else S.1 k, S.2.1, S.2.2.1 + nI 1, S.2.2.2.1, S.2.2.2.2)) (by simp only [sp_turn, dAt_s hr5 (by decide)] <;> first | rfl | simp_all) rfl rfl ⟨c28c, ⟨cg, (c28d (1) (by omega)).trans ((c24d (1) (by omega)).trans ((z15 (1) (by omega)).trans ((c9d (1) (by omega)).trans C1))), C1g⟩, (c28d (14) (by omega)).trans ((c24d (14) (by omega)).trans ((z15 (14) (by omega)).trans ((c9d (14) (by omega)).trans C14))), cRows CR (by omega) ((c24c).fr (fun j j1 j2 => c28d j (by omega))) (fun j j1 j2 j3 => (c28d j (by omega)).trans ((c24d j (by omega)).trans ((z15 j (by omega)).trans (c9d j (by omega))))), ⟨_, ((((HK15).fr (fun j j1 j2 => c9d j (by omega))).fr (fun j j1 j2 => z15 j (by omega))).fr (fun j j1 j2 => c24d j (by omega))).fr (fun j j1 j2 => c28d j (by omega))⟩, ⟨_, ((((HK18).fr (fun j j1 j2 => c9d j (by omega))).fr (fun j j1 j2 => z15 j (by omega))).fr (fun j j1 j2 => c24d j (by omega))).fr (fun j j1 j2 => c28d j (by omega))⟩, ⟨_, ((z14).fr (fun j j1 j2 => c24d j (by omega))).fr (fun j j1 j2 => c28d j (by omega))⟩, ⟨_, ((((HK24).fr (fun j j1 j2 => c9d j (by omega))).fr (fun j j1 j2 => z15 j (by omega))).fr (fun j j1 j2 => c24d j (by omega))).fr (fun j j1 j2 => c28d j (by omega))⟩⟩ (fun j hj => (c28d j (by omega)).trans ((c24d j (by omega)).trans ((z15 j (by omega)).trans (c9d j (by omega)))))
abbrev rX2_stampOfComer : Room := { frames := 1, cells := 0, slots := 0, locals := 21 }
set_option maxRecDepth 100000 in
set_option maxHeartbeats 2000000 in
theorem kX2_stampOfComer {l : Launch} (hl : l.stackTraces = false) {h : mH} {n r1 r14 : Nat} {g ac rf kn : Int32} {b room i : Nat} {t ft : Bool} {xs : List mIt} (C0 : h 0 = .inr (.inr (4, [.ref r1, .ref r14, .int g, .int ac, .int rf, .int kn]))) (H : rowAt h b room (mb ft) xs) (hi : i < xs.length) : mC l mX2_stampOfComer rX2_stampOfComer [.ref 0, .ref b, .int (nI i), .int (mb (t))] h n (fun v h' n' => v = some (.int (cst t ft (xt xs i) g)) ∧ n' = n ∧ h' 0 = .inr (.inr (4, [.ref r1, .ref r14, .int (cgv t ft g), .int ac, .int rf, .int kn])) ∧ ∀ j, j ≠ 0 → h' j = h j) (mNX) := by
  obtain ⟨f_1, g_1, ea_1, ek_1, es_1, ql_1, qr_1, qk_1, qt_1⟩ := id H
  refine mm_enter hl (by decide +kernel) rfl rfl rfl (Nat.le_of_ble_eq_true rfl) ?_
  show mT _ _ _ _ 0 [.ref 0, .ref b, .int (nI i), .int (mb (t))] [] _ _ 0 0
  refine mt_iload_n dX2_stampOfComer_0 rfl ?_
  refine mt_if_ne dX2_stampOfComer_1 (tgt := 6) rfl (fun q2 => ?_) (fun q2 => ?_)
  · have q2 : t = true := mb_1.mp q2
    refine mt_aload_n dX2_stampOfComer_6 rfl rfl ?_
    refine mt_getfield mKX1 (i := 2) (by decide) mw_74 dX2_stampOfComer_7 ea_1 rfl ?_
    refine mt_if_eq dX2_stampOfComer_10 (tgt := 22) rfl (fun q3 => ?_) (fun q3 => ?_)
    · have q3 : ft = false := mb_0.mp q3
      refine mt_aload_n dX2_stampOfComer_22 rfl rfl ?_
      refine mt_callV (N := mX2_nextStamp) (Rc := rX2_nextStamp) (As := []) (st := []) dX2_stampOfComer_23 (kX2_nextStamp hl C0) sX2_nextStamp mw_417 mKX2 rfl C0 rfl (Nat.le_of_ble_eq_true rfl) ⟨⟨Nat.le_of_ble_eq_true rfl, Nat.le_of_ble_eq_true rfl⟩, Nat.le_of_ble_eq_true rfl, Nat.le_of_ble_eq_true rfl⟩ (fun v4 h5 n6 c7 => ?_) (fun _ _ _ hx => hx.elim)
      obtain ⟨c7a, c7b, c7c, c7d⟩ := c7
      rw [c7a, c7b]
      show mT _ _ _ _ 26 [.ref 0, .ref b, .int (nI i), .int (mb (t))] [.int g] _ _ _ _
      refine mt_ireturn dX2_stampOfComer_26 rfl rfl (Nat.le_of_ble_eq_true rfl) (Nat.le_of_ble_eq_true rfl) ?_
      exact ⟨by simp [cst, cgv, q2, q3], rfl, by simp only [cgv]; simp only [if_true, if_false, Bool.false_eq_true, q2, q3]; exact c7c, fun j hj => c7d j (by omega)⟩
    · have q3 : ft = true := mb_1.mp q3
      refine mt_aload_n dX2_stampOfComer_13 rfl rfl ?_
      refine mt_getfield mKX1 (i := 1) (by decide) mw_71 dX2_stampOfComer_14 ea_1 rfl ?_
      refine mt_iload_n dX2_stampOfComer_17 rfl ?_
      refine mp_iaload dX2_stampOfComer_18 es_1 rfl (by omega) (by omega) (v := xt xs i) (qt_1 _ (by omega)) ?_
      refine mt_goto dX2_stampOfComer_19 (tgt := 26) rfl ?_
      refine mt_ireturn dX2_stampOfComer_26 rfl rfl (Nat.le_of_ble_eq_true rfl) (Nat.le_of_ble_eq_true rfl) ?_
      exact ⟨by simp [cst, cgv, q2, q3], rfl, by simp only [cgv]; simp only [if_true, if_false, Bool.false_eq_true, q2, q3]; exact C0, fun j hj => rfl⟩
  · have q2 : t = false := mb_0.mp q2
    refine mt_iconst dX2_stampOfComer_4 (v := -1) rfl ?_
    refine mt_ireturn dX2_stampOfComer_5 rfl rfl (Nat.le_of_ble_eq_true rfl) (Nat.le_of_ble_eq_true rfl) ?_
    exact ⟨by simp [cst, cgv, q2], rfl, by simp only [cgv]; simp only [if_true, if_false, Bool.false_eq_true, q2]; exact C0, fun j hj => rfl⟩
abbrev rX2_bring : Room := { frames := 2, cells := 0, slots := 0, locals := 44 }
set_option maxRecDepth 100000 in
set_option maxHeartbeats 2000000 in
theorem tX2_bring_9 {l : Launch} {K : mK} {n a b room room2 r1 r14 : Nat} {fl ac rf kn : Int32} {t ft : Bool} {xs : List mIt} {r : List mIt × Int32} {h0 : mH} (hl : l.stackTraces = false) (h0a : 0 < a) (h0b : 0 < b) (hab : b + 3 ≤ a ∨ a + 3 ≤ b) (kk0 : ∀ (i : Nat) (h : mH) (ys : List mIt) (g : Int32), (rowAt h a room fl ys) → (h 0 = .inr (.inr (4, [.ref r1, .ref r14, .int g, .int ac, .int rf, .int kn]))) → (∀ j, ((j < a ∨ a + 3 ≤ j) ∧ j ≠ 0) → h j = h0 j) → ((ys, g) = r) → mT l mX2_bring rX2_bring K 41 [.ref 0, .ref b, .ref a, .int (mb (t)), .int (nI xs.length), .int (nI i)] [] h n 0 0) : ∀ (N0 : Nat) (i : Nat) (h : mH) (ys : List mIt) (g : Int32), (xs.length - i) < N0 → (h 0 = .inr (.inr (4, [.ref r1, .ref r14, .int g, .int ac, .int rf, .int kn]))) → (rowAt h a room fl ys) → (rowAt h b room2 (mb ft) xs) → (∀ j, ((j < a ∨ a + 3 ≤ j) ∧ j ≠ 0) → h j = h0 j) → (mlp (stBring xs t ft) (xs.length - i) i (ys, g) = r) → (i ≤ xs.length) → (ys.length + (xs.length - i) ≤ room) → mT l mX2_bring rX2_bring K 9 [.ref 0, .ref b, .ref a, .int (mb (t)), .int (nI xs.length), .int (nI i)] [] h n 0 0 := by
  intro N0
  induction N0 with
  | zero => intro i h ys g hm; exact absurd hm (Nat.not_lt_zero _)
  | succ N0 ih =>
    intro i h ys g hm C0 H H2 hfr hr hi hro
    obtain ⟨f_1, g_1, ea_1, ek_1, es_1, ql_1, qr_1, qk_1, qt_1⟩ := id H2
    refine mt_iload dX2_bring_9 rfl ?_
    refine mt_iload dX2_bring_11 rfl ?_
    refine mt_icmp_ge dX2_bring_13 (tgt := 41) rfl (fun q2 => ?_) (fun q2 => ?_)
    · have q2 := Int32.not_lt.mpr q2
      have q2 := (not_congr (nI_ltI (by omega) (by omega))).mp q2
      exact kk0 i h ys g H C0 hfr ((mlp_end (f := stBring xs t ft) (by omega)).symm.trans hr)
    · have q2 := Int32.not_le.mp q2
      have q2 := (nI_ltI (by omega) (by omega)).mp q2
      refine mt_aload_n dX2_bring_16 rfl rfl ?_
      refine mt_aload_n dX2_bring_17 rfl rfl ?_
      refine mt_getfield mKX1 (i := 0) (by decide) mw_68 dX2_bring_18 ea_1 rfl ?_
      refine mt_iload dX2_bring_21 rfl ?_
      refine mp_iaload dX2_bring_23 ek_1 rfl (by omega) (by omega) (v := xk xs i) (qk_1 _ (by omega)) ?_
      refine mt_aload_n dX2_bring_24 rfl rfl ?_
      refine mt_aload_n dX2_bring_25 rfl rfl ?_
      refine mt_iload dX2_bring_26 rfl ?_
      refine mt_iload_n dX2_bring_28 rfl ?_
      refine mt_callV (N := mX2_stampOfComer) (Rc := rX2_stampOfComer) (As := [.ref b, .int (nI i), .int (mb (t))]) (st := [.int (xk xs i), .ref a]) dX2_bring_29 (kX2_stampOfComer hl C0 H2 (by first | omega | (simp only [List.length_append]; omega))) sX2_stampOfComer mw_546 mKX2 rfl C0 rfl (Nat.le_of_ble_eq_true rfl) ⟨⟨Nat.le_of_ble_eq_true rfl, Nat.le_of_ble_eq_true rfl⟩, Nat.le_of_ble_eq_true rfl, Nat.le_of_ble_eq_true rfl⟩ (fun v3 h4 n5 c6 => ?_) (fun _ _ _ hx => hx.elim)
      obtain ⟨c6a, c6b, c6c, c6d⟩ := c6
      rw [c6a, c6b]
      show mT _ _ _ _ 32 [.ref 0, .ref b, .ref a, .int (mb (t)), .int (nI xs.length), .int (nI i)] [.int (cst t ft (xt xs i) g), .int (xk xs i), .ref a] _ _ _ _
      have H7 : rowAt h4 a room fl ys := (H).fr (fun j j1 j2 => c6d j (by omega))
      obtain ⟨f_12, g_12, ea_12, ek_12, es_12, ql_12, qr_12, qk_12, qt_12⟩ := id H7
      refine mt_callV (N := mX1_append) (Rc := rX1_append) (As := [.int (xk xs i), .int (cst t ft (xt xs i) g)]) (st := []) dX2_bring_32 (kX1_append hl H7 (by first | omega | assumption | (simp only [List.length_append, List.length_cons, List.length_nil, span_len, Nat.sub_zero] at *; omega))) sX1_append mw_421 mKX1 rfl ea_12 rfl (Nat.le_of_ble_eq_true rfl) ⟨⟨Nat.le_of_ble_eq_true rfl, Nat.le_of_ble_eq_true rfl⟩, Nat.le_of_ble_eq_true rfl, Nat.le_of_ble_eq_true rfl⟩ (fun v8 h9 n10 c11 => ?_) (fun _ _ _ hx => hx.elim)
      obtain ⟨c11a, c11b, c11c, c11d⟩ := c11
      rw [c11a, c11b]
      show mT _ _ _ _ 35 [.ref 0, .ref b, .ref a, .int (mb (t)), .int (nI xs.length), .int (nI i)] [] _ _ _ _
      refine mp_iinc dX2_bring_35 rfl (v := nI (i + 1)) mI_inc (ls' := [.ref 0, .ref b, .ref a, .int (mb (t)), .int (nI xs.length), .int (nI (i + 1))]) rfl (by decide) rfl ?_
      refine mt_goto dX2_bring_38 (tgt := 9) rfl ?_
      have H13 : rowAt h9 b room2 (mb (ft)) xs := ((H2).fr (fun j j1 j2 => c6d j (by omega))).fr (fun j j1 j2 => c11d j (by omega))
      exact ih (i + 1) h9 (ys ++ [(xk xs i, cst t ft (xt xs i) g)]) (cgv t ft g) (by omega) ((c11d (0) (by omega)).trans c6c) c11c H13 (fun j hj => ((c11d j (by omega)).trans (c6d j (by omega))).trans (hfr j hj)) ((mlp_go (f := stBring xs t ft) (by omega) rfl).symm.trans hr) (by omega) (by rw [List.length_append]; simp only [List.length_cons, List.length_nil]; omega)
set_option maxRecDepth 100000 in
set_option maxHeartbeats 2000000 in
theorem kX2_bring {l : Launch} (hl : l.stackTraces = false) {h : mH} {n a b room room2 r1 r14 : Nat} {fl g ac rf kn : Int32} {t ft : Bool} {xs ys : List mIt} (C0 : h 0 = .inr (.inr (4, [.ref r1, .ref r14, .int g, .int ac, .int rf, .int kn]))) (H : rowAt h a room fl ys) (H2 : rowAt h b room2 (mb ft) xs) (h0a : 0 < a) (h0b : 0 < b) (hab : b + 3 ≤ a ∨ a + 3 ≤ b) (hro : ys.length + xs.length ≤ room) : mC l mX2_bring rX2_bring [.ref 0, .ref b, .ref a, .int (mb (t))] h n (fun v h' n' => v = none ∧ n' = n ∧ rowAt h' a room fl (bringL xs t ft ys g).1 ∧ h' 0 = .inr (.inr (4, [.ref r1, .ref r14, .int (bringL xs t ft ys g).2, .int ac, .int rf, .int kn])) ∧ ∀ j, ((j < a ∨ a + 3 ≤ j) ∧ j ≠ 0) → h' j = h j) (mNX) := by
  obtain ⟨f_1, g_1, ea_1, ek_1, es_1, ql_1, qr_1, qk_1, qt_1⟩ := id H2
  refine mm_enter hl (by decide +kernel) rfl rfl rfl (Nat.le_of_ble_eq_true rfl) ?_
  show mT _ _ _ _ 0 [.ref 0, .ref b, .ref a, .int (mb (t)), .double 0, .double 0] [] _ _ 0 0
  refine mt_aload_n dX2_bring_0 rfl rfl ?_
  refine mt_getfield mKX1 (i := 3) (by decide) mw_76 dX2_bring_1 ea_1 rfl ?_
  refine mp_istore dX2_bring_4 (ls' := [.ref 0, .ref b, .ref a, .int (mb (t)), .int (nI xs.length), .double 0]) rfl (by decide) rfl ?_
  refine mt_iconst dX2_bring_6 (v := nI 0) rfl ?_
  refine mp_istore dX2_bring_7 (ls' := [.ref 0, .ref b, .ref a, .int (mb (t)), .int (nI xs.length), .int (nI 0)]) rfl (by decide) rfl ?_
  refine tX2_bring_9 hl h0a h0b hab (fun i_2 h_3 ys_4 g_5 z6 z7 z8 z9 => ?_) (xs.length - 0 + 1) 0 h ys g (Nat.lt_succ_self _) C0 H H2 (fun _ _ => rfl) rfl (by omega) (by omega)
  refine mt_return dX2_bring_41 rfl (Nat.le_of_ble_eq_true rfl) (Nat.le_of_ble_eq_true rfl) ?_
  exact ⟨rfl, rfl, (congrArg Prod.fst z9) ▸ z6, z7.trans (congrArg (fun q : List mIt × Int32 => (Sum.inr (Sum.inr (4, [.ref r1, .ref r14, .int q.2, .int ac, .int rf, .int kn])) : mE)) z9), z8⟩
set_option maxRecDepth 100000 in
set_option maxHeartbeats 2000000 in
theorem tX2_bring_self {l : Launch} {K : mK} {n a room r1 r14 : Nat} {ac rf kn : Int32} {t : Bool} {xs : List mIt} {r : List mIt × Int32} {h0 : mH} (hl : l.stackTraces = false) (h0a : 0 < a) (kk0 : ∀ (i : Nat) (h : mH) (zs : List mIt) (g : Int32), (rowAt h a room (mb t) (xs ++ zs)) → (h 0 = .inr (.inr (4, [.ref r1, .ref r14, .int g, .int ac, .int rf, .int kn]))) → (∀ j, ((j < a ∨ a + 3 ≤ j) ∧ j ≠ 0) → h j = h0 j) → ((xs ++ zs, g) = r) → mT l mX2_bring rX2_bring K 41 [.ref 0, .ref a, .ref a, .int (mb (t)), .int (nI xs.length), .int (nI i)] [] h n 0 0) : ∀ (N0 : Nat) (i : Nat) (h : mH) (zs : List mIt) (g : Int32), (xs.length - i) < N0 → (h 0 = .inr (.inr (4, [.ref r1, .ref r14, .int g, .int ac, .int rf, .int kn]))) → (rowAt h a room (mb t) (xs ++ zs)) → (∀ j, ((j < a ∨ a + 3 ≤ j) ∧ j ≠ 0) → h j = h0 j) → (mlp (stBring xs t t) (xs.length - i) i (xs ++ zs, g) = r) → (i ≤ xs.length) → (xs.length + zs.length + (xs.length - i) ≤ room) → mT l mX2_bring rX2_bring K 9 [.ref 0, .ref a, .ref a, .int (mb (t)), .int (nI xs.length), .int (nI i)] [] h n 0 0 := by
  intro N0
  induction N0 with
  | zero => intro i h zs g hm; exact absurd hm (Nat.not_lt_zero _)
  | succ N0 ih =>
    intro i h zs g hm C0 H hfr hr hi hro
    obtain ⟨f_1, g_1, ea_1, ek_1, es_1, ql_1, qr_1, qk_1, qt_1⟩ := id H
    have hlen : (xs ++ zs).length = xs.length + zs.length := List.length_append
    refine mt_iload dX2_bring_9 rfl ?_
    refine mt_iload dX2_bring_11 rfl ?_
    refine mt_icmp_ge dX2_bring_13 (tgt := 41) rfl (fun q2 => ?_) (fun q2 => ?_)
    · have q2 := Int32.not_lt.mpr q2
      have q2 := (not_congr (nI_ltI (by omega) (by omega))).mp q2
      exact kk0 i h zs g H C0 hfr ((mlp_end (f := stBring xs t t) (by omega)).symm.trans hr)
    · have q2 := Int32.not_le.mp q2
      have q2 := (nI_ltI (by omega) (by omega)).mp q2
      refine mt_aload_n dX2_bring_16 rfl rfl ?_
      refine mt_aload_n dX2_bring_17 rfl rfl ?_
      refine mt_getfield mKX1 (i := 0) (by decide) mw_68 dX2_bring_18 ea_1 rfl ?_
      refine mt_iload dX2_bring_21 rfl ?_
      refine mp_iaload dX2_bring_23 ek_1 rfl (by omega) (by omega) (v := xk (xs ++ zs) i) (qk_1 _ (by omega)) ?_
      refine mt_aload_n dX2_bring_24 rfl rfl ?_
      refine mt_aload_n dX2_bring_25 rfl rfl ?_
      refine mt_iload dX2_bring_26 rfl ?_
      refine mt_iload_n dX2_bring_28 rfl ?_
      refine mt_callV (N := mX2_stampOfComer) (Rc := rX2_stampOfComer) (As := [.ref a, .int (nI i), .int (mb (t))]) (st := [.int (xk (xs ++ zs) i), .ref a]) dX2_bring_29 (kX2_stampOfComer hl C0 H (by first | omega | (simp only [List.length_append]; omega))) sX2_stampOfComer mw_546 mKX2 rfl C0 rfl (Nat.le_of_ble_eq_true rfl) ⟨⟨Nat.le_of_ble_eq_true rfl, Nat.le_of_ble_eq_true rfl⟩, Nat.le_of_ble_eq_true rfl, Nat.le_of_ble_eq_true rfl⟩ (fun v3 h4 n5 c6 => ?_) (fun _ _ _ hx => hx.elim)
      obtain ⟨c6a, c6b, c6c, c6d⟩ := c6
      rw [c6a, c6b]
      show mT _ _ _ _ 32 [.ref 0, .ref a, .ref a, .int (mb (t)), .int (nI xs.length), .int (nI i)] [.int (cst t t (xt (xs ++ zs) i) g), .int (xk (xs ++ zs) i), .ref a] _ _ _ _
      have H7 : rowAt h4 a room (mb (t)) (xs ++ zs) := (H).fr (fun j j1 j2 => c6d j (by omega))
      refine mt_callV (N := mX1_append) (Rc := rX1_append) (As := [.int (xk (xs ++ zs) i), .int (cst t t (xt (xs ++ zs) i) g)]) (st := []) dX2_bring_32 (kX1_append hl H7 (by first | omega | assumption | (simp only [List.length_append, List.length_cons, List.length_nil, span_len, Nat.sub_zero] at *; omega))) sX1_append mw_421 mKX1 rfl ((c6d (a) (by omega)).trans ea_1) rfl (Nat.le_of_ble_eq_true rfl) ⟨⟨Nat.le_of_ble_eq_true rfl, Nat.le_of_ble_eq_true rfl⟩, Nat.le_of_ble_eq_true rfl, Nat.le_of_ble_eq_true rfl⟩ (fun v8 h9 n10 c11 => ?_) (fun _ _ _ hx => hx.elim)
      obtain ⟨c11a, c11b, c11c, c11d⟩ := c11
      rw [c11a, c11b]
      show mT _ _ _ _ 35 [.ref 0, .ref a, .ref a, .int (mb (t)), .int (nI xs.length), .int (nI i)] [] _ _ _ _
      refine mp_iinc dX2_bring_35 rfl (v := nI (i + 1)) mI_inc (ls' := [.ref 0, .ref a, .ref a, .int (mb (t)), .int (nI xs.length), .int (nI (i + 1))]) rfl (by decide) rfl ?_
      refine mt_goto dX2_bring_38 (tgt := 9) rfl ?_
      exact ih (i + 1) h9 (zs ++ [(xk (xs ++ zs) i, cst t t (xt (xs ++ zs) i) g)]) (cgv t t g) (by omega) ((c11d (0) (by omega)).trans c6c) ((List.append_assoc xs zs _) ▸ c11c) (fun j hj => ((c11d j (by omega)).trans (c6d j (by omega))).trans (hfr j hj)) ((mlp_go (f := stBring xs t t) (by omega) (by simp only [stBring, xk_app_lt (show i < xs.length by omega), xt_app_lt (show i < xs.length by omega), List.append_assoc])).symm.trans hr) (by omega) (by rw [List.length_append]; simp only [List.length_cons, List.length_nil]; omega)
set_option maxRecDepth 100000 in
set_option maxHeartbeats 2000000 in
theorem kX2_bring_self {l : Launch} (hl : l.stackTraces = false) {h : mH} {n a room r1 r14 : Nat} {g ac rf kn : Int32} {t : Bool} {xs : List mIt} (C0 : h 0 = .inr (.inr (4, [.ref r1, .ref r14, .int g, .int ac, .int rf, .int kn]))) (H : rowAt h a room (mb t) xs) (h0a : 0 < a) (hro : xs.length + xs.length ≤ room) : mC l mX2_bring rX2_bring [.ref 0, .ref a, .ref a, .int (mb (t))] h n (fun v h' n' => v = none ∧ n' = n ∧ rowAt h' a room (mb t) (bringL xs t t xs g).1 ∧ h' 0 = .inr (.inr (4, [.ref r1, .ref r14, .int (bringL xs t t xs g).2, .int ac, .int rf, .int kn])) ∧ ∀ j, ((j < a ∨ a + 3 ≤ j) ∧ j ≠ 0) → h' j = h j) (mNX) := by
  obtain ⟨f_1, g_1, ea_1, ek_1, es_1, ql_1, qr_1, qk_1, qt_1⟩ := id H
  refine mm_enter hl (by decide +kernel) rfl rfl rfl (Nat.le_of_ble_eq_true rfl) ?_
  show mT _ _ _ _ 0 [.ref 0, .ref a, .ref a, .int (mb (t)), .double 0, .double 0] [] _ _ 0 0
  refine mt_aload_n dX2_bring_0 rfl rfl ?_
  refine mt_getfield mKX1 (i := 3) (by decide) mw_76 dX2_bring_1 ea_1 rfl ?_
  refine mp_istore dX2_bring_4 (ls' := [.ref 0, .ref a, .ref a, .int (mb (t)), .int (nI xs.length), .double 0]) rfl (by decide) rfl ?_
  refine mt_iconst dX2_bring_6 (v := nI 0) rfl ?_
  refine mp_istore dX2_bring_7 (ls' := [.ref 0, .ref a, .ref a, .int (mb (t)), .int (nI xs.length), .int (nI 0)]) rfl (by decide) rfl ?_
  refine tX2_bring_self hl h0a (fun i_2 h_3 zs_4 g_5 z6 z7 z8 z9 => ?_) (xs.length - 0 + 1) 0 h ([]) g (Nat.lt_succ_self _) C0 ((List.append_nil xs).symm ▸ H) (fun _ _ => rfl) (by rw [List.append_nil]) (by omega) (by simp only [List.length_nil]; omega)
  refine mt_return dX2_bring_41 rfl (Nat.le_of_ble_eq_true rfl) (Nat.le_of_ble_eq_true rfl) ?_
  exact ⟨rfl, rfl, (congrArg Prod.fst z9) ▸ z6, z7.trans (congrArg (fun q : List mIt × Int32 => (Sum.inr (Sum.inr (4, [.ref r1, .ref r14, .int q.2, .int ac, .int rf, .int kn])) : mE)) z9), z8⟩
def sp_copy (S : cS) (row : Int32) (into : Int32) : Nat × Value × cS := dAt S 4 row fun r => dAt S 4 into fun q => if r = q then (0, .int (nI (S.1 q).length), cAct S) else if rroom q < (S.1 r).length then (0, .int (-9), cRef S) else (0, .int (nI (bringL (S.1 r) (decide (q < 2)) (decide (r < 2)) [] S.2.1).1.length), cAct (cGiv (cSet S q (bringL (S.1 r) (decide (q < 2)) (decide (r < 2)) [] S.2.1).1) (bringL (S.1 r) (decide (q < 2)) (decide (r < 2)) [] S.2.1).2))
abbrev rX2_copy : Room := { frames := 7, cells := 2, slots := 12, locals := 111 }
set_option maxRecDepth 100000 in
set_option maxHeartbeats 2000000 in
theorem kX2_copy {l : Launch} (hl : l.stackTraces = false) {h : mH} {n : Nat} {S : cS} {row : Int32} {into : Int32} (C : cAt h S) : mC l mX2_copy rX2_copy [.ref 0, .int row, .int into] h n (cOk (sp_copy S row into) h n) (cNo (sp_copy S row into).1 h n) := by
  obtain ⟨C0, ⟨cg, C1, C1g⟩, C14, CR, ⟨zs15, HK15⟩, ⟨zs18, HK18⟩, ⟨zs21, HK21⟩, ⟨zs24, HK24⟩⟩ := id C
  refine mm_enter hl (by decide +kernel) rfl rfl rfl (Nat.le_of_ble_eq_true rfl) ?_
  show mT _ _ _ _ 0 [.ref 0, .int row, .int into, .double 0, .double 0] [] _ _ 0 0
  refine mt_aload_n dX2_copy_0 rfl rfl ?_
  refine mt_iload_n dX2_copy_1 rfl ?_
  refine mt_callV (N := mX2_rowOf) (Rc := rX2_rowOf) (As := [.int row]) (st := []) dX2_copy_2 (kX2_rowOf hl C) sX2_rowOf mw_230 mKX2 rfl C0 rfl (Nat.le_of_ble_eq_true rfl) ⟨⟨Nat.le_of_ble_eq_true rfl, Nat.le_of_ble_eq_true rfl⟩, Nat.le_of_ble_eq_true rfl, Nat.le_of_ble_eq_true rfl⟩ (fun v1 h2 n3 c4 => ?_) (fun E h9 n9 hx => mt_out rfl (by obtain ⟨rfl, hq, rfl, rfl⟩ := hx; exact cNo.i (by simp only [sp_copy, dAt_n hq])) (Nat.le_of_ble_eq_true rfl) (Nat.le_of_ble_eq_true rfl))
  obtain ⟨r5, hr5, rfl, c4a, c4b, c4c⟩ := c4
  rw [c4a, c4b, c4c]
  have hLr5 := (CR r5 hr5).len
  show mT _ _ _ _ 5 [.ref 0, .int (nI r5), .int into, .double 0, .double 0] [.ref (2 + 3 * r5)] _ _ _ _
  refine mp_astore_n dX2_copy_5 (ls' := [.ref 0, .int (nI r5), .int into, .ref (2 + 3 * r5), .double 0]) rfl rfl (by decide) rfl ?_
  refine mt_aload_n dX2_copy_6 rfl rfl ?_
  refine mt_iload_n dX2_copy_7 rfl ?_
  refine mt_callV (N := mX2_rowOf) (Rc := rX2_rowOf) (As := [.int into]) (st := []) dX2_copy_8 (kX2_rowOf hl C) sX2_rowOf mw_230 mKX2 rfl C0 rfl (Nat.le_of_ble_eq_true rfl) ⟨⟨Nat.le_of_ble_eq_true rfl, Nat.le_of_ble_eq_true rfl⟩, Nat.le_of_ble_eq_true rfl, Nat.le_of_ble_eq_true rfl⟩ (fun v6 h7 n8 c9 => ?_) (fun E h9 n9 hx => mt_out rfl (by obtain ⟨rfl, hq, rfl, rfl⟩ := hx; exact cNo.i (by simp only [sp_copy, dAt_n hq, dAt_s hr5 (by decide)])) (Nat.le_of_ble_eq_true rfl) (Nat.le_of_ble_eq_true rfl))
  obtain ⟨r10, hr10, rfl, c9a, c9b, c9c⟩ := c9
  rw [c9a, c9b, c9c]
  have hLr10 := (CR r10 hr10).len
  show mT _ _ _ _ 11 [.ref 0, .int (nI r5), .int (nI r10), .ref (2 + 3 * r5), .double 0] [.ref (2 + 3 * r10)] _ _ _ _
  by_cases hrq : r5 = r10
  · rw [← hrq]
    refine mp_astore dX2_copy_11 (ls' := [.ref 0, .int (nI r5), .int (nI r5), .ref (2 + 3 * r5), .ref (2 + 3 * r5)]) rfl rfl (by decide) rfl ?_
    refine mt_aload_n dX2_copy_13 rfl rfl ?_
    refine mt_aload dX2_copy_14 rfl rfl ?_
    refine mt_acmp_ne dX2_copy_16 (tgt := 29) rfl (fun q11 => ?_) (fun q11 => ?_)
    · exact absurd rfl q11
    · refine mt_aload_n dX2_copy_19 rfl rfl ?_
      refine mt_aload dX2_copy_20 rfl rfl ?_
      obtain ⟨f_12, g_12, ea_12, ek_12, es_12, ql_12, qr_12, qk_12, qt_12⟩ := id CR r5 (by omega)
      refine mt_getfield mKX1 (i := 3) (by decide) mw_76 dX2_copy_22 ea_12 rfl ?_
      refine mt_callV (N := mX2_done) (Rc := rX2_done) (As := [.int (nI ((S.1 r5).length))]) (st := []) dX2_copy_25 (kX2_done hl C0) sX2_done mw_430 mKX2 rfl C0 rfl (Nat.le_of_ble_eq_true rfl) ⟨⟨Nat.le_of_ble_eq_true rfl, Nat.le_of_ble_eq_true rfl⟩, Nat.le_of_ble_eq_true rfl, Nat.le_of_ble_eq_true rfl⟩ (fun v13 h14 n15 c16 => ?_) (fun _ _ _ hx => hx.elim)
      obtain ⟨c16a, c16b, c16c, c16d⟩ := c16
      rw [c16a, c16b]
      show mT _ _ _ _ 28 [.ref 0, .int (nI r5), .int (nI r5), .ref (2 + 3 * r5), .ref (2 + 3 * r5)] [.int (nI ((S.1 r5).length))] _ _ _ _
      refine mt_ireturn dX2_copy_28 rfl rfl (Nat.le_of_ble_eq_true rfl) (Nat.le_of_ble_eq_true rfl) ?_
      exact cOk.of (x := .int (nI ((S.1 r5).length))) (S' := (S.1, S.2.1, S.2.2.1 + nI 1, S.2.2.2.1, S.2.2.2.2)) (by simp only [sp_copy, dAt_s hr5 (by decide), dAt_s hr10 (by decide), eq_self, if_true] <;> first | rfl | simp_all) rfl rfl ⟨c16c, ⟨cg, (c16d (1) (by omega)).trans C1, C1g⟩, (c16d (14) (by omega)).trans C14, cRows0 CR (fun j j1 j2 => c16d j (by omega)), ⟨_, (HK15).fr (fun j j1 j2 => c16d j (by omega))⟩, ⟨_, (HK18).fr (fun j j1 j2 => c16d j (by omega))⟩, ⟨_, (HK21).fr (fun j j1 j2 => c16d j (by omega))⟩, ⟨_, (HK24).fr (fun j j1 j2 => c16d j (by omega))⟩⟩ (fun j hj => c16d j (by omega))
  · refine mp_astore dX2_copy_11 (ls' := [.ref 0, .int (nI r5), .int (nI r10), .ref (2 + 3 * r5), .ref (2 + 3 * r10)]) rfl rfl (by decide) rfl ?_
    refine mt_aload_n dX2_copy_13 rfl rfl ?_
    refine mt_aload dX2_copy_14 rfl rfl ?_
    refine mt_acmp_ne dX2_copy_16 (tgt := 29) rfl (fun q17 => ?_) (fun q17 => ?_)
    · refine mt_aload_n dX2_copy_29 rfl rfl ?_
      obtain ⟨f_18, g_18, ea_18, ek_18, es_18, ql_18, qr_18, qk_18, qt_18⟩ := id CR r5 (by omega)
      refine mt_getfield mKX1 (i := 3) (by decide) mw_76 dX2_copy_30 ea_18 rfl ?_
      refine mt_aload dX2_copy_33 rfl rfl ?_
      have H19 : rowAt h (2 + 3 * r10) (rroom r10) (mb (decide (r10 < 2))) (S.1 r10) := CR r10 (by omega)
      obtain ⟨f_24, g_24, ea_24, ek_24, es_24, ql_24, qr_24, qk_24, qt_24⟩ := id H19
      refine mt_callV (N := mX1_room) (Rc := rX1_room) (As := []) (st := [.int (nI ((S.1 r5).length))]) dX2_copy_35 (kX1_room hl H19) sX1_room mw_403 mKX1 rfl ea_24 rfl (Nat.le_of_ble_eq_true rfl) ⟨⟨Nat.le_of_ble_eq_true rfl, Nat.le_of_ble_eq_true rfl⟩, Nat.le_of_ble_eq_true rfl, Nat.le_of_ble_eq_true rfl⟩ (fun v20 h21 n22 c23 => ?_) (fun _ _ _ hx => hx.elim)
      obtain ⟨c23a, c23b, c23c⟩ := c23
      rw [c23a, c23b, c23c]
      show mT _ _ _ _ 38 [.ref 0, .int (nI r5), .int (nI r10), .ref (2 + 3 * r5), .ref (2 + 3 * r10)] [.int (nI (rroom r10)), .int (nI ((S.1 r5).length))] _ _ _ _
      refine mt_icmp_le dX2_copy_38 (tgt := 46) rfl (fun q25 => ?_) (fun q25 => ?_)
      · have q25 := Int32.not_lt.mpr q25
        have q25 := (not_congr (nI_ltI (by omega) (by omega))).mp q25
        refine mt_aload dX2_copy_46 rfl rfl ?_
        refine mt_callV (N := mX1_empty) (Rc := rX1_empty) (As := []) (st := []) dX2_copy_48 (kX1_empty hl H19) sX1_empty mw_407 mKX1 rfl ea_24 rfl (Nat.le_of_ble_eq_true rfl) ⟨⟨Nat.le_of_ble_eq_true rfl, Nat.le_of_ble_eq_true rfl⟩, Nat.le_of_ble_eq_true rfl, Nat.le_of_ble_eq_true rfl⟩ (fun v26 h27 n28 c29 => ?_) (fun _ _ _ hx => hx.elim)
        obtain ⟨c29a, c29b, c29c, c29d⟩ := c29
        rw [c29a, c29b]
        show mT _ _ _ _ 51 [.ref 0, .int (nI r5), .int (nI r10), .ref (2 + 3 * r5), .ref (2 + 3 * r10)] [] _ _ _ _
        refine mt_aload_n dX2_copy_51 rfl rfl ?_
        refine mt_aload_n dX2_copy_52 rfl rfl ?_
        refine mt_aload dX2_copy_53 rfl rfl ?_
        refine mt_aload dX2_copy_55 rfl rfl ?_
        obtain ⟨f_30, g_30, ea_30, ek_30, es_30, ql_30, qr_30, qk_30, qt_30⟩ := id c29c
        refine mt_getfield mKX1 (i := 2) (by decide) mw_74 dX2_copy_57 ea_30 rfl ?_
        have H31 : rowAt h27 (2 + 3 * r5) (rroom r5) (mb (decide (r5 < 2))) (S.1 r5) := (CR r5 (by omega)).fr (fun j j1 j2 => c29d j (by omega))
        refine mt_callV (N := mX2_bring) (Rc := rX2_bring) (As := [.ref (2 + 3 * r5), .ref (2 + 3 * r10), .int (mb (decide (r10 < 2)))]) (st := []) dX2_copy_60 (kX2_bring hl ((c29d (0) (by omega)).trans C0) c29c H31 (by omega) (by omega) (by omega) (by first | omega | assumption | (simp only [List.length_append, List.length_cons, List.length_nil, span_len, Nat.sub_zero] at *; omega))) sX2_bring mw_542 mKX2 rfl ((c29d (0) (by omega)).trans C0) rfl (Nat.le_of_ble_eq_true rfl) ⟨⟨Nat.le_of_ble_eq_true rfl, Nat.le_of_ble_eq_true rfl⟩, Nat.le_of_ble_eq_true rfl, Nat.le_of_ble_eq_true rfl⟩ (fun v32 h33 n34 c35 => ?_) (fun _ _ _ hx => hx.elim)
        obtain ⟨c35a, c35b, c35c, c35d, c35e⟩ := c35
        rw [c35a, c35b]
        have blc35 := bringL_len (xs := S.1 r5) (t := decide (r10 < 2)) (ft := decide (r5 < 2)) (ys := []) (g := S.2.1)
        show mT _ _ _ _ 63 [.ref 0, .int (nI r5), .int (nI r10), .ref (2 + 3 * r5), .ref (2 + 3 * r10)] [] _ _ _ _
        refine mt_aload_n dX2_copy_63 rfl rfl ?_
        refine mt_aload dX2_copy_64 rfl rfl ?_
        obtain ⟨f_36, g_36, ea_36, ek_36, es_36, ql_36, qr_36, qk_36, qt_36⟩ := id c35c
        refine mt_getfield mKX1 (i := 3) (by decide) mw_76 dX2_copy_66 ea_36 rfl ?_
        refine mt_callV (N := mX2_done) (Rc := rX2_done) (As := [.int (nI (((bringL (S.1 r5) (decide (r10 < 2)) (decide (r5 < 2)) ([]) S.2.1).1).length))]) (st := []) dX2_copy_69 (kX2_done hl c35d) sX2_done mw_430 mKX2 rfl c35d rfl (Nat.le_of_ble_eq_true rfl) ⟨⟨Nat.le_of_ble_eq_true rfl, Nat.le_of_ble_eq_true rfl⟩, Nat.le_of_ble_eq_true rfl, Nat.le_of_ble_eq_true rfl⟩ (fun v37 h38 n39 c40 => ?_) (fun _ _ _ hx => hx.elim)
        obtain ⟨c40a, c40b, c40c, c40d⟩ := c40
        rw [c40a, c40b]
        show mT _ _ _ _ 72 [.ref 0, .int (nI r5), .int (nI r10), .ref (2 + 3 * r5), .ref (2 + 3 * r10)] [.int (nI (((bringL (S.1 r5) (decide (r10 < 2)) (decide (r5 < 2)) ([]) S.2.1).1).length))] _ _ _ _
        refine mt_ireturn dX2_copy_72 rfl rfl (Nat.le_of_ble_eq_true rfl) (Nat.le_of_ble_eq_true rfl) ?_
        exact cOk.of (x := .int (nI (((bringL (S.1 r5) (decide (r10 < 2)) (decide (r5 < 2)) ([]) S.2.1).1).length))) (S' := (fun k => if k = r10 then (bringL (S.1 r5) (decide (r10 < 2)) (decide (r5 < 2)) ([]) S.2.1).1 else S.1 k, (bringL (S.1 r5) (decide (r10 < 2)) (decide (r5 < 2)) ([]) S.2.1).2, S.2.2.1 + nI 1, S.2.2.2.1, S.2.2.2.2)) (by simp only [sp_copy, dAt_s hr5 (by decide), dAt_s hr10 (by decide), if_neg hrq, if_neg q25] <;> first | rfl | simp_all) rfl rfl ⟨c40c, ⟨cg, (c40d (1) (by omega)).trans ((c35e (1) (by omega)).trans ((c29d (1) (by omega)).trans C1)), C1g⟩, (c40d (14) (by omega)).trans ((c35e (14) (by omega)).trans ((c29d (14) (by omega)).trans C14)), cRows CR (by omega) ((c35c).fr (fun j j1 j2 => c40d j (by omega))) (fun j j1 j2 j3 => (c40d j (by omega)).trans ((c35e j (by omega)).trans (c29d j (by omega)))), ⟨_, (((HK15).fr (fun j j1 j2 => c29d j (by omega))).fr (fun j j1 j2 => c35e j (by omega))).fr (fun j j1 j2 => c40d j (by omega))⟩, ⟨_, (((HK18).fr (fun j j1 j2 => c29d j (by omega))).fr (fun j j1 j2 => c35e j (by omega))).fr (fun j j1 j2 => c40d j (by omega))⟩, ⟨_, (((HK21).fr (fun j j1 j2 => c29d j (by omega))).fr (fun j j1 j2 => c35e j (by omega))).fr (fun j j1 j2 => c40d j (by omega))⟩, ⟨_, (((HK24).fr (fun j j1 j2 => c29d j (by omega))).fr (fun j j1 j2 => c35e j (by omega))).fr (fun j j1 j2 => c40d j (by omega))⟩⟩ (fun j hj => (c40d j (by omega)).trans ((c35e j (by omega)).trans (c29d j (by omega))))
      · have q25 := Int32.not_le.mp q25
        have q25 := (nI_ltI (by omega) (by omega)).mp q25
        refine mt_aload_n dX2_copy_41 rfl rfl ?_
        refine mt_callV (N := mX2_refused) (Rc := rX2_refused) (As := []) (st := []) dX2_copy_42 (kX2_refused hl C0) sX2_refused mw_446 mKX2 rfl C0 rfl (Nat.le_of_ble_eq_true rfl) ⟨⟨Nat.le_of_ble_eq_true rfl, Nat.le_of_ble_eq_true rfl⟩, Nat.le_of_ble_eq_true rfl, Nat.le_of_ble_eq_true rfl⟩ (fun v41 h42 n43 c44 => ?_) (fun _ _ _ hx => hx.elim)
        obtain ⟨c44a, c44b, c44c, c44d⟩ := c44
        rw [c44a, c44b]
        show mT _ _ _ _ 45 [.ref 0, .int (nI r5), .int (nI r10), .ref (2 + 3 * r5), .ref (2 + 3 * r10)] [.int (-9)] _ _ _ _
        refine mt_ireturn dX2_copy_45 rfl rfl (Nat.le_of_ble_eq_true rfl) (Nat.le_of_ble_eq_true rfl) ?_
        exact cOk.of (x := .int (-9)) (S' := (S.1, S.2.1, S.2.2.1, S.2.2.2.1 + nI 1, S.2.2.2.2)) (by simp only [sp_copy, dAt_s hr5 (by decide), dAt_s hr10 (by decide), if_neg hrq, if_pos q25] <;> first | rfl | simp_all) rfl rfl ⟨c44c, ⟨cg, (c44d (1) (by omega)).trans C1, C1g⟩, (c44d (14) (by omega)).trans C14, cRows0 CR (fun j j1 j2 => c44d j (by omega)), ⟨_, (HK15).fr (fun j j1 j2 => c44d j (by omega))⟩, ⟨_, (HK18).fr (fun j j1 j2 => c44d j (by omega))⟩, ⟨_, (HK21).fr (fun j j1 j2 => c44d j (by omega))⟩, ⟨_, (HK24).fr (fun j j1 j2 => c44d j (by omega))⟩⟩ (fun j hj => c44d j (by omega))
    · exact absurd q17 (by omega)
def sp_join (S : cS) (row : Int32) (other : Int32) : Nat × Value × cS := dAt S 4 row fun r => dAt S 4 other fun q => if rroom r - (S.1 r).length < (S.1 q).length then (0, .int (-9), cRef S) else (0, .int (nI (bringL (S.1 q) (decide (r < 2)) (decide (q < 2)) (S.1 r) S.2.1).1.length), cAct (cGiv (cSet S r (bringL (S.1 q) (decide (r < 2)) (decide (q < 2)) (S.1 r) S.2.1).1) (bringL (S.1 q) (decide (r < 2)) (decide (q < 2)) (S.1 r) S.2.1).2))
abbrev rX2_join : Room := { frames := 7, cells := 2, slots := 12, locals := 111 }
set_option maxRecDepth 100000 in
set_option maxHeartbeats 2000000 in
theorem kX2_join {l : Launch} (hl : l.stackTraces = false) {h : mH} {n : Nat} {S : cS} {row : Int32} {other : Int32} (C : cAt h S) : mC l mX2_join rX2_join [.ref 0, .int row, .int other] h n (cOk (sp_join S row other) h n) (cNo (sp_join S row other).1 h n) := by
  obtain ⟨C0, ⟨cg, C1, C1g⟩, C14, CR, ⟨zs15, HK15⟩, ⟨zs18, HK18⟩, ⟨zs21, HK21⟩, ⟨zs24, HK24⟩⟩ := id C
  refine mm_enter hl (by decide +kernel) rfl rfl rfl (Nat.le_of_ble_eq_true rfl) ?_
  show mT _ _ _ _ 0 [.ref 0, .int row, .int other, .double 0, .double 0] [] _ _ 0 0
  refine mt_aload_n dX2_join_0 rfl rfl ?_
  refine mt_iload_n dX2_join_1 rfl ?_
  refine mt_callV (N := mX2_rowOf) (Rc := rX2_rowOf) (As := [.int row]) (st := []) dX2_join_2 (kX2_rowOf hl C) sX2_rowOf mw_230 mKX2 rfl C0 rfl (Nat.le_of_ble_eq_true rfl) ⟨⟨Nat.le_of_ble_eq_true rfl, Nat.le_of_ble_eq_true rfl⟩, Nat.le_of_ble_eq_true rfl, Nat.le_of_ble_eq_true rfl⟩ (fun v1 h2 n3 c4 => ?_) (fun E h9 n9 hx => mt_out rfl (by obtain ⟨rfl, hq, rfl, rfl⟩ := hx; exact cNo.i (by simp only [sp_join, dAt_n hq])) (Nat.le_of_ble_eq_true rfl) (Nat.le_of_ble_eq_true rfl))
  obtain ⟨r5, hr5, rfl, c4a, c4b, c4c⟩ := c4
  rw [c4a, c4b, c4c]
  have hLr5 := (CR r5 hr5).len
  show mT _ _ _ _ 5 [.ref 0, .int (nI r5), .int other, .double 0, .double 0] [.ref (2 + 3 * r5)] _ _ _ _
  refine mp_astore_n dX2_join_5 (ls' := [.ref 0, .int (nI r5), .int other, .ref (2 + 3 * r5), .double 0]) rfl rfl (by decide) rfl ?_
  refine mt_aload_n dX2_join_6 rfl rfl ?_
  refine mt_iload_n dX2_join_7 rfl ?_
  refine mt_callV (N := mX2_rowOf) (Rc := rX2_rowOf) (As := [.int other]) (st := []) dX2_join_8 (kX2_rowOf hl C) sX2_rowOf mw_230 mKX2 rfl C0 rfl (Nat.le_of_ble_eq_true rfl) ⟨⟨Nat.le_of_ble_eq_true rfl, Nat.le_of_ble_eq_true rfl⟩, Nat.le_of_ble_eq_true rfl, Nat.le_of_ble_eq_true rfl⟩ (fun v6 h7 n8 c9 => ?_) (fun E h9 n9 hx => mt_out rfl (by obtain ⟨rfl, hq, rfl, rfl⟩ := hx; exact cNo.i (by simp only [sp_join, dAt_n hq, dAt_s hr5 (by decide)])) (Nat.le_of_ble_eq_true rfl) (Nat.le_of_ble_eq_true rfl))
  obtain ⟨r10, hr10, rfl, c9a, c9b, c9c⟩ := c9
  rw [c9a, c9b, c9c]
  have hLr10 := (CR r10 hr10).len
  show mT _ _ _ _ 11 [.ref 0, .int (nI r5), .int (nI r10), .ref (2 + 3 * r5), .double 0] [.ref (2 + 3 * r10)] _ _ _ _
  by_cases hrq : r5 = r10
  · rw [← hrq]
    refine mp_astore dX2_join_11 (ls' := [.ref 0, .int (nI r5), .int (nI r5), .ref (2 + 3 * r5), .ref (2 + 3 * r5)]) rfl rfl (by decide) rfl ?_
    refine mt_aload dX2_join_13 rfl rfl ?_
    obtain ⟨f_11, g_11, ea_11, ek_11, es_11, ql_11, qr_11, qk_11, qt_11⟩ := id CR r5 (by omega)
    refine mt_getfield mKX1 (i := 3) (by decide) mw_76 dX2_join_15 ea_11 rfl ?_
    refine mt_aload_n dX2_join_18 rfl rfl ?_
    have H12 : rowAt h (2 + 3 * r5) (rroom r5) (mb (decide (r5 < 2))) (S.1 r5) := CR r5 (by omega)
    refine mt_callV (N := mX1_free) (Rc := rX1_free) (As := []) (st := [.int (nI ((S.1 r5).length))]) dX2_join_19 (kX1_free hl H12) sX1_free mw_206 mKX1 rfl ea_11 rfl (Nat.le_of_ble_eq_true rfl) ⟨⟨Nat.le_of_ble_eq_true rfl, Nat.le_of_ble_eq_true rfl⟩, Nat.le_of_ble_eq_true rfl, Nat.le_of_ble_eq_true rfl⟩ (fun v13 h14 n15 c16 => ?_) (fun _ _ _ hx => hx.elim)
    obtain ⟨c16a, c16b, c16c⟩ := c16
    rw [c16a, c16b, c16c]
    show mT _ _ _ _ 22 [.ref 0, .int (nI r5), .int (nI r5), .ref (2 + 3 * r5), .ref (2 + 3 * r5)] [.int (nI ((rroom r5) - (S.1 r5).length)), .int (nI ((S.1 r5).length))] _ _ _ _
    refine mt_icmp_le dX2_join_22 (tgt := 30) rfl (fun q17 => ?_) (fun q17 => ?_)
    · have q17 := Int32.not_lt.mpr q17
      have q17 := (not_congr (nI_ltI (by omega) (by omega))).mp q17
      refine mt_aload_n dX2_join_30 rfl rfl ?_
      refine mt_aload dX2_join_31 rfl rfl ?_
      refine mt_aload_n dX2_join_33 rfl rfl ?_
      refine mt_aload_n dX2_join_34 rfl rfl ?_
      refine mt_getfield mKX1 (i := 2) (by decide) mw_74 dX2_join_35 ea_11 rfl ?_
      refine mt_callV (N := mX2_bring) (Rc := rX2_bring) (As := [.ref (2 + 3 * r5), .ref (2 + 3 * r5), .int (mb (decide (r5 < 2)))]) (st := []) dX2_join_38 (kX2_bring_self hl C0 H12 (by omega) (by first | omega | assumption | (simp only [List.length_append, List.length_cons, List.length_nil, span_len, Nat.sub_zero] at *; omega))) sX2_bring mw_542 mKX2 rfl C0 rfl (Nat.le_of_ble_eq_true rfl) ⟨⟨Nat.le_of_ble_eq_true rfl, Nat.le_of_ble_eq_true rfl⟩, Nat.le_of_ble_eq_true rfl, Nat.le_of_ble_eq_true rfl⟩ (fun v18 h19 n20 c21 => ?_) (fun _ _ _ hx => hx.elim)
      obtain ⟨c21a, c21b, c21c, c21d, c21e⟩ := c21
      rw [c21a, c21b]
      have blc21 := bringL_len (xs := S.1 r5) (t := decide (r5 < 2)) (ft := decide (r5 < 2)) (ys := S.1 r5) (g := S.2.1)
      show mT _ _ _ _ 41 [.ref 0, .int (nI r5), .int (nI r5), .ref (2 + 3 * r5), .ref (2 + 3 * r5)] [] _ _ _ _
      refine mt_aload_n dX2_join_41 rfl rfl ?_
      refine mt_aload_n dX2_join_42 rfl rfl ?_
      obtain ⟨f_22, g_22, ea_22, ek_22, es_22, ql_22, qr_22, qk_22, qt_22⟩ := id c21c
      refine mt_getfield mKX1 (i := 3) (by decide) mw_76 dX2_join_43 ea_22 rfl ?_
      refine mt_callV (N := mX2_done) (Rc := rX2_done) (As := [.int (nI (((bringL (S.1 r5) (decide (r5 < 2)) (decide (r5 < 2)) (S.1 r5) S.2.1).1).length))]) (st := []) dX2_join_46 (kX2_done hl c21d) sX2_done mw_430 mKX2 rfl c21d rfl (Nat.le_of_ble_eq_true rfl) ⟨⟨Nat.le_of_ble_eq_true rfl, Nat.le_of_ble_eq_true rfl⟩, Nat.le_of_ble_eq_true rfl, Nat.le_of_ble_eq_true rfl⟩ (fun v23 h24 n25 c26 => ?_) (fun _ _ _ hx => hx.elim)
      obtain ⟨c26a, c26b, c26c, c26d⟩ := c26
      rw [c26a, c26b]
      show mT _ _ _ _ 49 [.ref 0, .int (nI r5), .int (nI r5), .ref (2 + 3 * r5), .ref (2 + 3 * r5)] [.int (nI (((bringL (S.1 r5) (decide (r5 < 2)) (decide (r5 < 2)) (S.1 r5) S.2.1).1).length))] _ _ _ _
      refine mt_ireturn dX2_join_49 rfl rfl (Nat.le_of_ble_eq_true rfl) (Nat.le_of_ble_eq_true rfl) ?_
      exact cOk.of (x := .int (nI (((bringL (S.1 r5) (decide (r5 < 2)) (decide (r5 < 2)) (S.1 r5) S.2.1).1).length))) (S' := (fun k => if k = r5 then (bringL (S.1 r5) (decide (r5 < 2)) (decide (r5 < 2)) (S.1 r5) S.2.1).1 else S.1 k, (bringL (S.1 r5) (decide (r5 < 2)) (decide (r5 < 2)) (S.1 r5) S.2.1).2, S.2.2.1 + nI 1, S.2.2.2.1, S.2.2.2.2)) (by simp only [sp_join, dAt_s hr5 (by decide), dAt_s hr10 (by decide), eq_self, if_true, if_neg q17] <;> first | rfl | simp_all) rfl rfl ⟨c26c, ⟨cg, (c26d (1) (by omega)).trans ((c21e (1) (by omega)).trans C1), C1g⟩, (c26d (14) (by omega)).trans ((c21e (14) (by omega)).trans C14), cRows CR (by omega) ((c21c).fr (fun j j1 j2 => c26d j (by omega))) (fun j j1 j2 j3 => (c26d j (by omega)).trans (c21e j (by omega))), ⟨_, ((HK15).fr (fun j j1 j2 => c21e j (by omega))).fr (fun j j1 j2 => c26d j (by omega))⟩, ⟨_, ((HK18).fr (fun j j1 j2 => c21e j (by omega))).fr (fun j j1 j2 => c26d j (by omega))⟩, ⟨_, ((HK21).fr (fun j j1 j2 => c21e j (by omega))).fr (fun j j1 j2 => c26d j (by omega))⟩, ⟨_, ((HK24).fr (fun j j1 j2 => c21e j (by omega))).fr (fun j j1 j2 => c26d j (by omega))⟩⟩ (fun j hj => (c26d j (by omega)).trans (c21e j (by omega)))
    · have q17 := Int32.not_le.mp q17
      have q17 := (nI_ltI (by omega) (by omega)).mp q17
      refine mt_aload_n dX2_join_25 rfl rfl ?_
      refine mt_callV (N := mX2_refused) (Rc := rX2_refused) (As := []) (st := []) dX2_join_26 (kX2_refused hl C0) sX2_refused mw_446 mKX2 rfl C0 rfl (Nat.le_of_ble_eq_true rfl) ⟨⟨Nat.le_of_ble_eq_true rfl, Nat.le_of_ble_eq_true rfl⟩, Nat.le_of_ble_eq_true rfl, Nat.le_of_ble_eq_true rfl⟩ (fun v27 h28 n29 c30 => ?_) (fun _ _ _ hx => hx.elim)
      obtain ⟨c30a, c30b, c30c, c30d⟩ := c30
      rw [c30a, c30b]
      show mT _ _ _ _ 29 [.ref 0, .int (nI r5), .int (nI r5), .ref (2 + 3 * r5), .ref (2 + 3 * r5)] [.int (-9)] _ _ _ _
      refine mt_ireturn dX2_join_29 rfl rfl (Nat.le_of_ble_eq_true rfl) (Nat.le_of_ble_eq_true rfl) ?_
      exact cOk.of (x := .int (-9)) (S' := (S.1, S.2.1, S.2.2.1, S.2.2.2.1 + nI 1, S.2.2.2.2)) (by simp only [sp_join, dAt_s hr5 (by decide), dAt_s hr10 (by decide), eq_self, if_true, if_pos q17] <;> first | rfl | simp_all) rfl rfl ⟨c30c, ⟨cg, (c30d (1) (by omega)).trans C1, C1g⟩, (c30d (14) (by omega)).trans C14, cRows0 CR (fun j j1 j2 => c30d j (by omega)), ⟨_, (HK15).fr (fun j j1 j2 => c30d j (by omega))⟩, ⟨_, (HK18).fr (fun j j1 j2 => c30d j (by omega))⟩, ⟨_, (HK21).fr (fun j j1 j2 => c30d j (by omega))⟩, ⟨_, (HK24).fr (fun j j1 j2 => c30d j (by omega))⟩⟩ (fun j hj => c30d j (by omega))
  · refine mp_astore dX2_join_11 (ls' := [.ref 0, .int (nI r5), .int (nI r10), .ref (2 + 3 * r5), .ref (2 + 3 * r10)]) rfl rfl (by decide) rfl ?_
    refine mt_aload dX2_join_13 rfl rfl ?_
    obtain ⟨f_31, g_31, ea_31, ek_31, es_31, ql_31, qr_31, qk_31, qt_31⟩ := id CR r10 (by omega)
    refine mt_getfield mKX1 (i := 3) (by decide) mw_76 dX2_join_15 ea_31 rfl ?_
    refine mt_aload_n dX2_join_18 rfl rfl ?_
    have H32 : rowAt h (2 + 3 * r5) (rroom r5) (mb (decide (r5 < 2))) (S.1 r5) := CR r5 (by omega)
    obtain ⟨f_37, g_37, ea_37, ek_37, es_37, ql_37, qr_37, qk_37, qt_37⟩ := id H32
    refine mt_callV (N := mX1_free) (Rc := rX1_free) (As := []) (st := [.int (nI ((S.1 r10).length))]) dX2_join_19 (kX1_free hl H32) sX1_free mw_206 mKX1 rfl ea_37 rfl (Nat.le_of_ble_eq_true rfl) ⟨⟨Nat.le_of_ble_eq_true rfl, Nat.le_of_ble_eq_true rfl⟩, Nat.le_of_ble_eq_true rfl, Nat.le_of_ble_eq_true rfl⟩ (fun v33 h34 n35 c36 => ?_) (fun _ _ _ hx => hx.elim)
    obtain ⟨c36a, c36b, c36c⟩ := c36
    rw [c36a, c36b, c36c]
    show mT _ _ _ _ 22 [.ref 0, .int (nI r5), .int (nI r10), .ref (2 + 3 * r5), .ref (2 + 3 * r10)] [.int (nI ((rroom r5) - (S.1 r5).length)), .int (nI ((S.1 r10).length))] _ _ _ _
    refine mt_icmp_le dX2_join_22 (tgt := 30) rfl (fun q38 => ?_) (fun q38 => ?_)
    · have q38 := Int32.not_lt.mpr q38
      have q38 := (not_congr (nI_ltI (by omega) (by omega))).mp q38
      refine mt_aload_n dX2_join_30 rfl rfl ?_
      refine mt_aload dX2_join_31 rfl rfl ?_
      refine mt_aload_n dX2_join_33 rfl rfl ?_
      refine mt_aload_n dX2_join_34 rfl rfl ?_
      refine mt_getfield mKX1 (i := 2) (by decide) mw_74 dX2_join_35 ea_37 rfl ?_
      have H39 : rowAt h (2 + 3 * r10) (rroom r10) (mb (decide (r10 < 2))) (S.1 r10) := CR r10 (by omega)
      refine mt_callV (N := mX2_bring) (Rc := rX2_bring) (As := [.ref (2 + 3 * r10), .ref (2 + 3 * r5), .int (mb (decide (r5 < 2)))]) (st := []) dX2_join_38 (kX2_bring hl C0 H32 H39 (by omega) (by omega) (by omega) (by first | omega | assumption | (simp only [List.length_append, List.length_cons, List.length_nil, span_len, Nat.sub_zero] at *; omega))) sX2_bring mw_542 mKX2 rfl C0 rfl (Nat.le_of_ble_eq_true rfl) ⟨⟨Nat.le_of_ble_eq_true rfl, Nat.le_of_ble_eq_true rfl⟩, Nat.le_of_ble_eq_true rfl, Nat.le_of_ble_eq_true rfl⟩ (fun v40 h41 n42 c43 => ?_) (fun _ _ _ hx => hx.elim)
      obtain ⟨c43a, c43b, c43c, c43d, c43e⟩ := c43
      rw [c43a, c43b]
      have blc43 := bringL_len (xs := S.1 r10) (t := decide (r5 < 2)) (ft := decide (r10 < 2)) (ys := S.1 r5) (g := S.2.1)
      show mT _ _ _ _ 41 [.ref 0, .int (nI r5), .int (nI r10), .ref (2 + 3 * r5), .ref (2 + 3 * r10)] [] _ _ _ _
      refine mt_aload_n dX2_join_41 rfl rfl ?_
      refine mt_aload_n dX2_join_42 rfl rfl ?_
      obtain ⟨f_44, g_44, ea_44, ek_44, es_44, ql_44, qr_44, qk_44, qt_44⟩ := id c43c
      refine mt_getfield mKX1 (i := 3) (by decide) mw_76 dX2_join_43 ea_44 rfl ?_
      refine mt_callV (N := mX2_done) (Rc := rX2_done) (As := [.int (nI (((bringL (S.1 r10) (decide (r5 < 2)) (decide (r10 < 2)) (S.1 r5) S.2.1).1).length))]) (st := []) dX2_join_46 (kX2_done hl c43d) sX2_done mw_430 mKX2 rfl c43d rfl (Nat.le_of_ble_eq_true rfl) ⟨⟨Nat.le_of_ble_eq_true rfl, Nat.le_of_ble_eq_true rfl⟩, Nat.le_of_ble_eq_true rfl, Nat.le_of_ble_eq_true rfl⟩ (fun v45 h46 n47 c48 => ?_) (fun _ _ _ hx => hx.elim)
      obtain ⟨c48a, c48b, c48c, c48d⟩ := c48
      rw [c48a, c48b]
      show mT _ _ _ _ 49 [.ref 0, .int (nI r5), .int (nI r10), .ref (2 + 3 * r5), .ref (2 + 3 * r10)] [.int (nI (((bringL (S.1 r10) (decide (r5 < 2)) (decide (r10 < 2)) (S.1 r5) S.2.1).1).length))] _ _ _ _
      refine mt_ireturn dX2_join_49 rfl rfl (Nat.le_of_ble_eq_true rfl) (Nat.le_of_ble_eq_true rfl) ?_
      exact cOk.of (x := .int (nI (((bringL (S.1 r10) (decide (r5 < 2)) (decide (r10 < 2)) (S.1 r5) S.2.1).1).length))) (S' := (fun k => if k = r5 then (bringL (S.1 r10) (decide (r5 < 2)) (decide (r10 < 2)) (S.1 r5) S.2.1).1 else S.1 k, (bringL (S.1 r10) (decide (r5 < 2)) (decide (r10 < 2)) (S.1 r5) S.2.1).2, S.2.2.1 + nI 1, S.2.2.2.1, S.2.2.2.2)) (by simp only [sp_join, dAt_s hr5 (by decide), dAt_s hr10 (by decide), if_neg hrq, if_neg q38] <;> first | rfl | simp_all) rfl rfl ⟨c48c, ⟨cg, (c48d (1) (by omega)).trans ((c43e (1) (by omega)).trans C1), C1g⟩, (c48d (14) (by omega)).trans ((c43e (14) (by omega)).trans C14), cRows CR (by omega) ((c43c).fr (fun j j1 j2 => c48d j (by omega))) (fun j j1 j2 j3 => (c48d j (by omega)).trans (c43e j (by omega))), ⟨_, ((HK15).fr (fun j j1 j2 => c43e j (by omega))).fr (fun j j1 j2 => c48d j (by omega))⟩, ⟨_, ((HK18).fr (fun j j1 j2 => c43e j (by omega))).fr (fun j j1 j2 => c48d j (by omega))⟩, ⟨_, ((HK21).fr (fun j j1 j2 => c43e j (by omega))).fr (fun j j1 j2 => c48d j (by omega))⟩, ⟨_, ((HK24).fr (fun j j1 j2 => c43e j (by omega))).fr (fun j j1 j2 => c48d j (by omega))⟩⟩ (fun j hj => (c48d j (by omega)).trans (c43e j (by omega)))
    · have q38 := Int32.not_le.mp q38
      have q38 := (nI_ltI (by omega) (by omega)).mp q38
      refine mt_aload_n dX2_join_25 rfl rfl ?_
      refine mt_callV (N := mX2_refused) (Rc := rX2_refused) (As := []) (st := []) dX2_join_26 (kX2_refused hl C0) sX2_refused mw_446 mKX2 rfl C0 rfl (Nat.le_of_ble_eq_true rfl) ⟨⟨Nat.le_of_ble_eq_true rfl, Nat.le_of_ble_eq_true rfl⟩, Nat.le_of_ble_eq_true rfl, Nat.le_of_ble_eq_true rfl⟩ (fun v49 h50 n51 c52 => ?_) (fun _ _ _ hx => hx.elim)
      obtain ⟨c52a, c52b, c52c, c52d⟩ := c52
      rw [c52a, c52b]
      show mT _ _ _ _ 29 [.ref 0, .int (nI r5), .int (nI r10), .ref (2 + 3 * r5), .ref (2 + 3 * r10)] [.int (-9)] _ _ _ _
      refine mt_ireturn dX2_join_29 rfl rfl (Nat.le_of_ble_eq_true rfl) (Nat.le_of_ble_eq_true rfl) ?_
      exact cOk.of (x := .int (-9)) (S' := (S.1, S.2.1, S.2.2.1, S.2.2.2.1 + nI 1, S.2.2.2.2)) (by simp only [sp_join, dAt_s hr5 (by decide), dAt_s hr10 (by decide), if_neg hrq, if_pos q38] <;> first | rfl | simp_all) rfl rfl ⟨c52c, ⟨cg, (c52d (1) (by omega)).trans C1, C1g⟩, (c52d (14) (by omega)).trans C14, cRows0 CR (fun j j1 j2 => c52d j (by omega)), ⟨_, (HK15).fr (fun j j1 j2 => c52d j (by omega))⟩, ⟨_, (HK18).fr (fun j j1 j2 => c52d j (by omega))⟩, ⟨_, (HK21).fr (fun j j1 j2 => c52d j (by omega))⟩, ⟨_, (HK24).fr (fun j j1 j2 => c52d j (by omega))⟩⟩ (fun j hj => c52d j (by omega))
def sp_merge (S : cS) (row : Int32) (other : Int32) : Nat × Value × cS := dAt S 4 row fun r => dAt S 4 other fun q => if q_isRising (S.1 r) = false then (0, .int (-9), cRef S) else if q_isRising (S.1 q) = false then (0, .int (-9), cRef S) else if rroom r - (S.1 r).length < (S.1 q).length then (0, .int (-9), cRef S) else (0, .int (nI (weave (bringL (S.1 q) (decide (r < 2)) (decide (q < 2)) (S.1 r) S.2.1).1 (S.1 r).length).length), cAct (cGiv (cSet S r (weave (bringL (S.1 q) (decide (r < 2)) (decide (q < 2)) (S.1 r) S.2.1).1 (S.1 r).length)) (bringL (S.1 q) (decide (r < 2)) (decide (q < 2)) (S.1 r) S.2.1).2))
abbrev rX2_merge : Room := { frames := 7, cells := 2, slots := 12, locals := 111 }
set_option maxRecDepth 100000 in
set_option maxHeartbeats 2000000 in
theorem kX2_merge {l : Launch} (hl : l.stackTraces = false) {h : mH} {n : Nat} {S : cS} {row : Int32} {other : Int32} (C : cAt h S) : mC l mX2_merge rX2_merge [.ref 0, .int row, .int other] h n (cOk (sp_merge S row other) h n) (cNo (sp_merge S row other).1 h n) := by
  obtain ⟨C0, ⟨cg, C1, C1g⟩, C14, CR, ⟨zs15, HK15⟩, ⟨zs18, HK18⟩, ⟨zs21, HK21⟩, ⟨zs24, HK24⟩⟩ := id C
  refine mm_enter hl (by decide +kernel) rfl rfl rfl (Nat.le_of_ble_eq_true rfl) ?_
  show mT _ _ _ _ 0 [.ref 0, .int row, .int other, .double 0, .double 0] [] _ _ 0 0
  refine mt_aload_n dX2_merge_0 rfl rfl ?_
  refine mt_iload_n dX2_merge_1 rfl ?_
  refine mt_callV (N := mX2_rowOf) (Rc := rX2_rowOf) (As := [.int row]) (st := []) dX2_merge_2 (kX2_rowOf hl C) sX2_rowOf mw_230 mKX2 rfl C0 rfl (Nat.le_of_ble_eq_true rfl) ⟨⟨Nat.le_of_ble_eq_true rfl, Nat.le_of_ble_eq_true rfl⟩, Nat.le_of_ble_eq_true rfl, Nat.le_of_ble_eq_true rfl⟩ (fun v1 h2 n3 c4 => ?_) (fun E h9 n9 hx => mt_out rfl (by obtain ⟨rfl, hq, rfl, rfl⟩ := hx; exact cNo.i (by simp only [sp_merge, dAt_n hq])) (Nat.le_of_ble_eq_true rfl) (Nat.le_of_ble_eq_true rfl))
  obtain ⟨r5, hr5, rfl, c4a, c4b, c4c⟩ := c4
  rw [c4a, c4b, c4c]
  have hLr5 := (CR r5 hr5).len
  show mT _ _ _ _ 5 [.ref 0, .int (nI r5), .int other, .double 0, .double 0] [.ref (2 + 3 * r5)] _ _ _ _
  refine mp_astore_n dX2_merge_5 (ls' := [.ref 0, .int (nI r5), .int other, .ref (2 + 3 * r5), .double 0]) rfl rfl (by decide) rfl ?_
  refine mt_aload_n dX2_merge_6 rfl rfl ?_
  refine mt_iload_n dX2_merge_7 rfl ?_
  refine mt_callV (N := mX2_rowOf) (Rc := rX2_rowOf) (As := [.int other]) (st := []) dX2_merge_8 (kX2_rowOf hl C) sX2_rowOf mw_230 mKX2 rfl C0 rfl (Nat.le_of_ble_eq_true rfl) ⟨⟨Nat.le_of_ble_eq_true rfl, Nat.le_of_ble_eq_true rfl⟩, Nat.le_of_ble_eq_true rfl, Nat.le_of_ble_eq_true rfl⟩ (fun v6 h7 n8 c9 => ?_) (fun E h9 n9 hx => mt_out rfl (by obtain ⟨rfl, hq, rfl, rfl⟩ := hx; exact cNo.i (by simp only [sp_merge, dAt_n hq, dAt_s hr5 (by decide)])) (Nat.le_of_ble_eq_true rfl) (Nat.le_of_ble_eq_true rfl))
  obtain ⟨r10, hr10, rfl, c9a, c9b, c9c⟩ := c9
  rw [c9a, c9b, c9c]
  have hLr10 := (CR r10 hr10).len
  show mT _ _ _ _ 11 [.ref 0, .int (nI r5), .int (nI r10), .ref (2 + 3 * r5), .double 0] [.ref (2 + 3 * r10)] _ _ _ _
  by_cases hrq : r5 = r10
  · rw [← hrq]
    refine mp_astore dX2_merge_11 (ls' := [.ref 0, .int (nI r5), .int (nI r5), .ref (2 + 3 * r5), .ref (2 + 3 * r5)]) rfl rfl (by decide) rfl ?_
    refine mt_aload_n dX2_merge_13 rfl rfl ?_
    have H11 : rowAt h (2 + 3 * r5) (rroom r5) (mb (decide (r5 < 2))) (S.1 r5) := CR r5 (by omega)
    obtain ⟨f_16, g_16, ea_16, ek_16, es_16, ql_16, qr_16, qk_16, qt_16⟩ := id H11
    refine mt_callV (N := mX1_isRising) (Rc := rX1_isRising) (As := []) (st := []) dX2_merge_14 (kX1_isRising hl H11) sX1_isRising mw_182 mKX1 rfl ea_16 rfl (Nat.le_of_ble_eq_true rfl) ⟨⟨Nat.le_of_ble_eq_true rfl, Nat.le_of_ble_eq_true rfl⟩, Nat.le_of_ble_eq_true rfl, Nat.le_of_ble_eq_true rfl⟩ (fun v12 h13 n14 c15 => ?_) (fun _ _ _ hx => hx.elim)
    obtain ⟨c15a, c15b, c15c⟩ := c15
    rw [c15a, c15b, c15c]
    show mT _ _ _ _ 17 [.ref 0, .int (nI r5), .int (nI r5), .ref (2 + 3 * r5), .ref (2 + 3 * r5)] [.int (mb (q_isRising (S.1 r5)))] _ _ _ _
    refine mt_if_eq dX2_merge_17 (tgt := 40) rfl (fun q17 => ?_) (fun q17 => ?_)
    · have q17 : (q_isRising (S.1 r5)) = false := mb_0.mp q17
      refine mt_aload_n dX2_merge_40 rfl rfl ?_
      refine mt_callV (N := mX2_refused) (Rc := rX2_refused) (As := []) (st := []) dX2_merge_41 (kX2_refused hl C0) sX2_refused mw_446 mKX2 rfl C0 rfl (Nat.le_of_ble_eq_true rfl) ⟨⟨Nat.le_of_ble_eq_true rfl, Nat.le_of_ble_eq_true rfl⟩, Nat.le_of_ble_eq_true rfl, Nat.le_of_ble_eq_true rfl⟩ (fun v18 h19 n20 c21 => ?_) (fun _ _ _ hx => hx.elim)
      obtain ⟨c21a, c21b, c21c, c21d⟩ := c21
      rw [c21a, c21b]
      show mT _ _ _ _ 44 [.ref 0, .int (nI r5), .int (nI r5), .ref (2 + 3 * r5), .ref (2 + 3 * r5)] [.int (-9)] _ _ _ _
      refine mt_ireturn dX2_merge_44 rfl rfl (Nat.le_of_ble_eq_true rfl) (Nat.le_of_ble_eq_true rfl) ?_
      exact cOk.of (x := .int (-9)) (S' := (S.1, S.2.1, S.2.2.1, S.2.2.2.1 + nI 1, S.2.2.2.2)) (by simp only [sp_merge, dAt_s hr5 (by decide), dAt_s hr10 (by decide), eq_self, if_true, if_pos q17] <;> first | rfl | simp_all) rfl rfl ⟨c21c, ⟨cg, (c21d (1) (by omega)).trans C1, C1g⟩, (c21d (14) (by omega)).trans C14, cRows0 CR (fun j j1 j2 => c21d j (by omega)), ⟨_, (HK15).fr (fun j j1 j2 => c21d j (by omega))⟩, ⟨_, (HK18).fr (fun j j1 j2 => c21d j (by omega))⟩, ⟨_, (HK21).fr (fun j j1 j2 => c21d j (by omega))⟩, ⟨_, (HK24).fr (fun j j1 j2 => c21d j (by omega))⟩⟩ (fun j hj => c21d j (by omega))
    · have q17 : (q_isRising (S.1 r5)) = true := mb_1.mp q17
      refine mt_aload dX2_merge_20 rfl rfl ?_
      refine mt_callV (N := mX1_isRising) (Rc := rX1_isRising) (As := []) (st := []) dX2_merge_22 (kX1_isRising hl H11) sX1_isRising mw_182 mKX1 rfl ea_16 rfl (Nat.le_of_ble_eq_true rfl) ⟨⟨Nat.le_of_ble_eq_true rfl, Nat.le_of_ble_eq_true rfl⟩, Nat.le_of_ble_eq_true rfl, Nat.le_of_ble_eq_true rfl⟩ (fun v22 h23 n24 c25 => ?_) (fun _ _ _ hx => hx.elim)
      obtain ⟨c25a, c25b, c25c⟩ := c25
      rw [c25a, c25b, c25c]
      show mT _ _ _ _ 25 [.ref 0, .int (nI r5), .int (nI r5), .ref (2 + 3 * r5), .ref (2 + 3 * r5)] [.int (mb (q_isRising (S.1 r5)))] _ _ _ _
      refine mt_if_eq dX2_merge_25 (tgt := 40) rfl (fun q26 => ?_) (fun q26 => ?_)
      · have q26 : (q_isRising (S.1 r5)) = false := mb_0.mp q26
        refine mt_aload_n dX2_merge_40 rfl rfl ?_
        refine mt_callV (N := mX2_refused) (Rc := rX2_refused) (As := []) (st := []) dX2_merge_41 (kX2_refused hl C0) sX2_refused mw_446 mKX2 rfl C0 rfl (Nat.le_of_ble_eq_true rfl) ⟨⟨Nat.le_of_ble_eq_true rfl, Nat.le_of_ble_eq_true rfl⟩, Nat.le_of_ble_eq_true rfl, Nat.le_of_ble_eq_true rfl⟩ (fun v27 h28 n29 c30 => ?_) (fun _ _ _ hx => hx.elim)
        obtain ⟨c30a, c30b, c30c, c30d⟩ := c30
        rw [c30a, c30b]
        show mT _ _ _ _ 44 [.ref 0, .int (nI r5), .int (nI r5), .ref (2 + 3 * r5), .ref (2 + 3 * r5)] [.int (-9)] _ _ _ _
        refine mt_ireturn dX2_merge_44 rfl rfl (Nat.le_of_ble_eq_true rfl) (Nat.le_of_ble_eq_true rfl) ?_
        exact cOk.of (x := .int (-9)) (S' := (S.1, S.2.1, S.2.2.1, S.2.2.2.1 + nI 1, S.2.2.2.2)) (by simp only [sp_merge, dAt_s hr5 (by decide), dAt_s hr10 (by decide), eq_self, if_true, if_neg (bt_nf q17), if_pos q26] <;> first | rfl | simp_all) rfl rfl ⟨c30c, ⟨cg, (c30d (1) (by omega)).trans C1, C1g⟩, (c30d (14) (by omega)).trans C14, cRows0 CR (fun j j1 j2 => c30d j (by omega)), ⟨_, (HK15).fr (fun j j1 j2 => c30d j (by omega))⟩, ⟨_, (HK18).fr (fun j j1 j2 => c30d j (by omega))⟩, ⟨_, (HK21).fr (fun j j1 j2 => c30d j (by omega))⟩, ⟨_, (HK24).fr (fun j j1 j2 => c30d j (by omega))⟩⟩ (fun j hj => c30d j (by omega))
      · have q26 : (q_isRising (S.1 r5)) = true := mb_1.mp q26
        refine mt_aload dX2_merge_28 rfl rfl ?_
        refine mt_getfield mKX1 (i := 3) (by decide) mw_76 dX2_merge_30 ea_16 rfl ?_
        refine mt_aload_n dX2_merge_33 rfl rfl ?_
        refine mt_callV (N := mX1_free) (Rc := rX1_free) (As := []) (st := [.int (nI ((S.1 r5).length))]) dX2_merge_34 (kX1_free hl H11) sX1_free mw_206 mKX1 rfl ea_16 rfl (Nat.le_of_ble_eq_true rfl) ⟨⟨Nat.le_of_ble_eq_true rfl, Nat.le_of_ble_eq_true rfl⟩, Nat.le_of_ble_eq_true rfl, Nat.le_of_ble_eq_true rfl⟩ (fun v31 h32 n33 c34 => ?_) (fun _ _ _ hx => hx.elim)
        obtain ⟨c34a, c34b, c34c⟩ := c34
        rw [c34a, c34b, c34c]
        show mT _ _ _ _ 37 [.ref 0, .int (nI r5), .int (nI r5), .ref (2 + 3 * r5), .ref (2 + 3 * r5)] [.int (nI ((rroom r5) - (S.1 r5).length)), .int (nI ((S.1 r5).length))] _ _ _ _
        refine mt_icmp_le dX2_merge_37 (tgt := 45) rfl (fun q35 => ?_) (fun q35 => ?_)
        · have q35 := Int32.not_lt.mpr q35
          have q35 := (not_congr (nI_ltI (by omega) (by omega))).mp q35
          refine mt_aload_n dX2_merge_45 rfl rfl ?_
          refine mt_getfield mKX2 (i := 1) (by decide) mw_113 dX2_merge_46 C0 rfl ?_
          refine mt_getfield mKX0 (i := 1) (by decide) mw_99 dX2_merge_49 C14 rfl ?_
          refine mt_aload_n dX2_merge_52 rfl rfl ?_
          obtain ⟨f_40, g_40, ea_40, ek_40, es_40, ql_40, qr_40, qk_40, qt_40⟩ := id HK18
          refine mt_callV (N := mX1_become) (Rc := rX1_become) (As := [.ref (2 + 3 * r5)]) (st := []) dX2_merge_53 (kX1_become hl HK18 H11 (by omega) (by first | omega | assumption | (simp only [List.length_append, List.length_cons, List.length_nil, span_len, Nat.sub_zero] at *; omega))) sX1_become mw_210 mKX1 rfl ea_40 rfl (Nat.le_of_ble_eq_true rfl) ⟨⟨Nat.le_of_ble_eq_true rfl, Nat.le_of_ble_eq_true rfl⟩, Nat.le_of_ble_eq_true rfl, Nat.le_of_ble_eq_true rfl⟩ (fun v36 h37 n38 c39 => ?_) (fun _ _ _ hx => hx.elim)
          obtain ⟨c39a, c39b, c39c, c39d⟩ := c39
          rw [c39a, c39b]
          show mT _ _ _ _ 56 [.ref 0, .int (nI r5), .int (nI r5), .ref (2 + 3 * r5), .ref (2 + 3 * r5)] [] _ _ _ _
          refine mt_aload_n dX2_merge_56 rfl rfl ?_
          refine mt_aload dX2_merge_57 rfl rfl ?_
          refine mt_aload_n dX2_merge_59 rfl rfl ?_
          refine mt_getfield mKX2 (i := 1) (by decide) mw_113 dX2_merge_60 ((c39d (0) (by omega)).trans C0) rfl ?_
          refine mt_getfield mKX0 (i := 1) (by decide) mw_99 dX2_merge_63 ((c39d (14) (by omega)).trans C14) rfl ?_
          refine mt_aload_n dX2_merge_66 rfl rfl ?_
          refine mt_getfield mKX1 (i := 2) (by decide) mw_74 dX2_merge_67 ((c39d (2 + 3 * r5) (by omega)).trans ea_16) rfl ?_
          have H41 : rowAt h37 (2 + 3 * r5) (rroom r5) (mb (decide (r5 < 2))) (S.1 r5) := (H11).fr (fun j j1 j2 => c39d j (by omega))
          refine mt_callV (N := mX2_bring) (Rc := rX2_bring) (As := [.ref (2 + 3 * r5), .ref 18, .int (mb (decide (r5 < 2)))]) (st := []) dX2_merge_70 (kX2_bring hl ((c39d (0) (by omega)).trans C0) c39c H41 (by omega) (by omega) (by omega) (by first | omega | assumption | (simp only [List.length_append, List.length_cons, List.length_nil, span_len, Nat.sub_zero] at *; omega))) sX2_bring mw_542 mKX2 rfl ((c39d (0) (by omega)).trans C0) rfl (Nat.le_of_ble_eq_true rfl) ⟨⟨Nat.le_of_ble_eq_true rfl, Nat.le_of_ble_eq_true rfl⟩, Nat.le_of_ble_eq_true rfl, Nat.le_of_ble_eq_true rfl⟩ (fun v42 h43 n44 c45 => ?_) (fun _ _ _ hx => hx.elim)
          obtain ⟨c45a, c45b, c45c, c45d, c45e⟩ := c45
          rw [c45a, c45b]
          have blc45 := bringL_len (xs := S.1 r5) (t := decide (r5 < 2)) (ft := decide (r5 < 2)) (ys := S.1 r5) (g := S.2.1)
          show mT _ _ _ _ 73 [.ref 0, .int (nI r5), .int (nI r5), .ref (2 + 3 * r5), .ref (2 + 3 * r5)] [] _ _ _ _
          refine mt_aload_n dX2_merge_73 rfl rfl ?_
          refine mt_getfield mKX2 (i := 1) (by decide) mw_113 dX2_merge_74 c45d rfl ?_
          refine mt_aload_n dX2_merge_77 rfl rfl ?_
          refine mt_getfield mKX1 (i := 3) (by decide) mw_76 dX2_merge_78 ((c45e (2 + 3 * r5) (by omega)).trans ((c39d (2 + 3 * r5) (by omega)).trans ea_16)) rfl ?_
          have H46 : rowAt h43 21 320 (nI 1) zs21 := ((HK21).fr (fun j j1 j2 => c39d j (by omega))).fr (fun j j1 j2 => c45e j (by omega))
          refine mt_callV (N := mX0_weaveJoined) (Rc := rX0_weaveJoined) (As := [.int (nI ((S.1 r5).length))]) (st := []) dX2_merge_81 (kX0_weaveJoined hl ((c45e (14) (by omega)).trans ((c39d (14) (by omega)).trans C14)) c45c H46 (by omega) (by omega) (by omega)) sX0_weaveJoined mw_212 mKX0 rfl ((c45e (14) (by omega)).trans ((c39d (14) (by omega)).trans C14)) rfl (Nat.le_of_ble_eq_true rfl) ⟨⟨Nat.le_of_ble_eq_true rfl, Nat.le_of_ble_eq_true rfl⟩, Nat.le_of_ble_eq_true rfl, Nat.le_of_ble_eq_true rfl⟩ (fun v47 h48 n49 c50 => ?_) (fun _ _ _ hx => hx.elim)
          have wl95 := weave_len (xs := (bringL (S.1 r5) (decide (r5 < 2)) (decide (r5 < 2)) (S.1 r5) S.2.1).1) (m := (S.1 r5).length) (by omega)
          obtain ⟨c50a, c50b, c50c, c50d⟩ := c50
          rw [c50a, c50b]
          have H51 : rowAt h48 21 320 (nI 1) (weave ((bringL (S.1 r5) (decide (r5 < 2)) (decide (r5 < 2)) (S.1 r5) S.2.1).1) ((S.1 r5).length)) := c50c
          show mT _ _ _ _ 84 [.ref 0, .int (nI r5), .int (nI r5), .ref (2 + 3 * r5), .ref (2 + 3 * r5)] [] _ _ _ _
          refine mt_aload_n dX2_merge_84 rfl rfl ?_
          refine mt_aload_n dX2_merge_85 rfl rfl ?_
          refine mt_getfield mKX2 (i := 1) (by decide) mw_113 dX2_merge_86 ((c50d (0) (by omega)).trans c45d) rfl ?_
          refine mt_getfield mKX0 (i := 2) (by decide) mw_101 dX2_merge_89 ((c50d (14) (by omega)).trans ((c45e (14) (by omega)).trans ((c39d (14) (by omega)).trans C14))) rfl ?_
          have H52 : rowAt h48 (2 + 3 * r5) (rroom r5) (mb (decide (r5 < 2))) (S.1 r5) := ((H41).fr (fun j j1 j2 => c45e j (by omega))).fr (fun j j1 j2 => c50d j (by omega))
          refine mt_callV (N := mX1_become) (Rc := rX1_become) (As := [.ref 21]) (st := []) dX2_merge_92 (kX1_become hl H52 H51 (by omega) (by first | omega | assumption | (simp only [List.length_append, List.length_cons, List.length_nil, span_len, Nat.sub_zero] at *; omega))) sX1_become mw_210 mKX1 rfl ((c50d (2 + 3 * r5) (by omega)).trans ((c45e (2 + 3 * r5) (by omega)).trans ((c39d (2 + 3 * r5) (by omega)).trans ea_16))) rfl (Nat.le_of_ble_eq_true rfl) ⟨⟨Nat.le_of_ble_eq_true rfl, Nat.le_of_ble_eq_true rfl⟩, Nat.le_of_ble_eq_true rfl, Nat.le_of_ble_eq_true rfl⟩ (fun v53 h54 n55 c56 => ?_) (fun _ _ _ hx => hx.elim)
          obtain ⟨c56a, c56b, c56c, c56d⟩ := c56
          rw [c56a, c56b]
          show mT _ _ _ _ 95 [.ref 0, .int (nI r5), .int (nI r5), .ref (2 + 3 * r5), .ref (2 + 3 * r5)] [] _ _ _ _
          refine mt_aload_n dX2_merge_95 rfl rfl ?_
          refine mt_aload_n dX2_merge_96 rfl rfl ?_
          obtain ⟨f_57, g_57, ea_57, ek_57, es_57, ql_57, qr_57, qk_57, qt_57⟩ := id c56c
          refine mt_getfield mKX1 (i := 3) (by decide) mw_76 dX2_merge_97 ea_57 rfl ?_
          refine mt_callV (N := mX2_done) (Rc := rX2_done) (As := [.int (nI ((weave ((bringL (S.1 r5) (decide (r5 < 2)) (decide (r5 < 2)) (S.1 r5) S.2.1).1) ((S.1 r5).length)).length))]) (st := []) dX2_merge_100 (kX2_done hl ((c56d (0) (by omega)).trans ((c50d (0) (by omega)).trans c45d))) sX2_done mw_430 mKX2 rfl ((c56d (0) (by omega)).trans ((c50d (0) (by omega)).trans c45d)) rfl (Nat.le_of_ble_eq_true rfl) ⟨⟨Nat.le_of_ble_eq_true rfl, Nat.le_of_ble_eq_true rfl⟩, Nat.le_of_ble_eq_true rfl, Nat.le_of_ble_eq_true rfl⟩ (fun v58 h59 n60 c61 => ?_) (fun _ _ _ hx => hx.elim)
          obtain ⟨c61a, c61b, c61c, c61d⟩ := c61
          rw [c61a, c61b]
          show mT _ _ _ _ 103 [.ref 0, .int (nI r5), .int (nI r5), .ref (2 + 3 * r5), .ref (2 + 3 * r5)] [.int (nI ((weave ((bringL (S.1 r5) (decide (r5 < 2)) (decide (r5 < 2)) (S.1 r5) S.2.1).1) ((S.1 r5).length)).length))] _ _ _ _
          refine mt_ireturn dX2_merge_103 rfl rfl (Nat.le_of_ble_eq_true rfl) (Nat.le_of_ble_eq_true rfl) ?_
          exact cOk.of (x := .int (nI ((weave ((bringL (S.1 r5) (decide (r5 < 2)) (decide (r5 < 2)) (S.1 r5) S.2.1).1) ((S.1 r5).length)).length))) (S' := (fun k => if k = r5 then weave ((bringL (S.1 r5) (decide (r5 < 2)) (decide (r5 < 2)) (S.1 r5) S.2.1).1) ((S.1 r5).length) else S.1 k, (bringL (S.1 r5) (decide (r5 < 2)) (decide (r5 < 2)) (S.1 r5) S.2.1).2, S.2.2.1 + nI 1, S.2.2.2.1, S.2.2.2.2)) (by simp only [sp_merge, dAt_s hr5 (by decide), dAt_s hr10 (by decide), eq_self, if_true, if_neg (bt_nf q17), if_neg (bt_nf q26), if_neg q35] <;> first | rfl | simp_all) rfl rfl ⟨c61c, ⟨cg, (c61d (1) (by omega)).trans ((c56d (1) (by omega)).trans ((c50d (1) (by omega)).trans ((c45e (1) (by omega)).trans ((c39d (1) (by omega)).trans C1)))), C1g⟩, (c61d (14) (by omega)).trans ((c56d (14) (by omega)).trans ((c50d (14) (by omega)).trans ((c45e (14) (by omega)).trans ((c39d (14) (by omega)).trans C14)))), cRows CR (by omega) ((c56c).fr (fun j j1 j2 => c61d j (by omega))) (fun j j1 j2 j3 => (c61d j (by omega)).trans ((c56d j (by omega)).trans ((c50d j (by omega)).trans ((c45e j (by omega)).trans (c39d j (by omega)))))), ⟨_, (((((HK15).fr (fun j j1 j2 => c39d j (by omega))).fr (fun j j1 j2 => c45e j (by omega))).fr (fun j j1 j2 => c50d j (by omega))).fr (fun j j1 j2 => c56d j (by omega))).fr (fun j j1 j2 => c61d j (by omega))⟩, ⟨_, (((c45c).fr (fun j j1 j2 => c50d j (by omega))).fr (fun j j1 j2 => c56d j (by omega))).fr (fun j j1 j2 => c61d j (by omega))⟩, ⟨_, ((H51).fr (fun j j1 j2 => c56d j (by omega))).fr (fun j j1 j2 => c61d j (by omega))⟩, ⟨_, (((((HK24).fr (fun j j1 j2 => c39d j (by omega))).fr (fun j j1 j2 => c45e j (by omega))).fr (fun j j1 j2 => c50d j (by omega))).fr (fun j j1 j2 => c56d j (by omega))).fr (fun j j1 j2 => c61d j (by omega))⟩⟩ (fun j hj => (c61d j (by omega)).trans ((c56d j (by omega)).trans ((c50d j (by omega)).trans ((c45e j (by omega)).trans (c39d j (by omega))))))
        · have q35 := Int32.not_le.mp q35
          have q35 := (nI_ltI (by omega) (by omega)).mp q35
          refine mt_aload_n dX2_merge_40 rfl rfl ?_
          refine mt_callV (N := mX2_refused) (Rc := rX2_refused) (As := []) (st := []) dX2_merge_41 (kX2_refused hl C0) sX2_refused mw_446 mKX2 rfl C0 rfl (Nat.le_of_ble_eq_true rfl) ⟨⟨Nat.le_of_ble_eq_true rfl, Nat.le_of_ble_eq_true rfl⟩, Nat.le_of_ble_eq_true rfl, Nat.le_of_ble_eq_true rfl⟩ (fun v62 h63 n64 c65 => ?_) (fun _ _ _ hx => hx.elim)
          obtain ⟨c65a, c65b, c65c, c65d⟩ := c65
          rw [c65a, c65b]
          show mT _ _ _ _ 44 [.ref 0, .int (nI r5), .int (nI r5), .ref (2 + 3 * r5), .ref (2 + 3 * r5)] [.int (-9)] _ _ _ _
          refine mt_ireturn dX2_merge_44 rfl rfl (Nat.le_of_ble_eq_true rfl) (Nat.le_of_ble_eq_true rfl) ?_
          exact cOk.of (x := .int (-9)) (S' := (S.1, S.2.1, S.2.2.1, S.2.2.2.1 + nI 1, S.2.2.2.2)) (by simp only [sp_merge, dAt_s hr5 (by decide), dAt_s hr10 (by decide), eq_self, if_true, if_neg (bt_nf q17), if_neg (bt_nf q26), if_pos q35] <;> first | rfl | simp_all) rfl rfl ⟨c65c, ⟨cg, (c65d (1) (by omega)).trans C1, C1g⟩, (c65d (14) (by omega)).trans C14, cRows0 CR (fun j j1 j2 => c65d j (by omega)), ⟨_, (HK15).fr (fun j j1 j2 => c65d j (by omega))⟩, ⟨_, (HK18).fr (fun j j1 j2 => c65d j (by omega))⟩, ⟨_, (HK21).fr (fun j j1 j2 => c65d j (by omega))⟩, ⟨_, (HK24).fr (fun j j1 j2 => c65d j (by omega))⟩⟩ (fun j hj => c65d j (by omega))
  · refine mp_astore dX2_merge_11 (ls' := [.ref 0, .int (nI r5), .int (nI r10), .ref (2 + 3 * r5), .ref (2 + 3 * r10)]) rfl rfl (by decide) rfl ?_
    refine mt_aload_n dX2_merge_13 rfl rfl ?_
    have H66 : rowAt h (2 + 3 * r5) (rroom r5) (mb (decide (r5 < 2))) (S.1 r5) := CR r5 (by omega)
    obtain ⟨f_71, g_71, ea_71, ek_71, es_71, ql_71, qr_71, qk_71, qt_71⟩ := id H66
    refine mt_callV (N := mX1_isRising) (Rc := rX1_isRising) (As := []) (st := []) dX2_merge_14 (kX1_isRising hl H66) sX1_isRising mw_182 mKX1 rfl ea_71 rfl (Nat.le_of_ble_eq_true rfl) ⟨⟨Nat.le_of_ble_eq_true rfl, Nat.le_of_ble_eq_true rfl⟩, Nat.le_of_ble_eq_true rfl, Nat.le_of_ble_eq_true rfl⟩ (fun v67 h68 n69 c70 => ?_) (fun _ _ _ hx => hx.elim)
    obtain ⟨c70a, c70b, c70c⟩ := c70
    rw [c70a, c70b, c70c]
    show mT _ _ _ _ 17 [.ref 0, .int (nI r5), .int (nI r10), .ref (2 + 3 * r5), .ref (2 + 3 * r10)] [.int (mb (q_isRising (S.1 r5)))] _ _ _ _
    refine mt_if_eq dX2_merge_17 (tgt := 40) rfl (fun q72 => ?_) (fun q72 => ?_)
    · have q72 : (q_isRising (S.1 r5)) = false := mb_0.mp q72
      refine mt_aload_n dX2_merge_40 rfl rfl ?_
      refine mt_callV (N := mX2_refused) (Rc := rX2_refused) (As := []) (st := []) dX2_merge_41 (kX2_refused hl C0) sX2_refused mw_446 mKX2 rfl C0 rfl (Nat.le_of_ble_eq_true rfl) ⟨⟨Nat.le_of_ble_eq_true rfl, Nat.le_of_ble_eq_true rfl⟩, Nat.le_of_ble_eq_true rfl, Nat.le_of_ble_eq_true rfl⟩ (fun v73 h74 n75 c76 => ?_) (fun _ _ _ hx => hx.elim)
      obtain ⟨c76a, c76b, c76c, c76d⟩ := c76
      rw [c76a, c76b]
      show mT _ _ _ _ 44 [.ref 0, .int (nI r5), .int (nI r10), .ref (2 + 3 * r5), .ref (2 + 3 * r10)] [.int (-9)] _ _ _ _
      refine mt_ireturn dX2_merge_44 rfl rfl (Nat.le_of_ble_eq_true rfl) (Nat.le_of_ble_eq_true rfl) ?_
      exact cOk.of (x := .int (-9)) (S' := (S.1, S.2.1, S.2.2.1, S.2.2.2.1 + nI 1, S.2.2.2.2)) (by simp only [sp_merge, dAt_s hr5 (by decide), dAt_s hr10 (by decide), if_neg hrq, if_pos q72] <;> first | rfl | simp_all) rfl rfl ⟨c76c, ⟨cg, (c76d (1) (by omega)).trans C1, C1g⟩, (c76d (14) (by omega)).trans C14, cRows0 CR (fun j j1 j2 => c76d j (by omega)), ⟨_, (HK15).fr (fun j j1 j2 => c76d j (by omega))⟩, ⟨_, (HK18).fr (fun j j1 j2 => c76d j (by omega))⟩, ⟨_, (HK21).fr (fun j j1 j2 => c76d j (by omega))⟩, ⟨_, (HK24).fr (fun j j1 j2 => c76d j (by omega))⟩⟩ (fun j hj => c76d j (by omega))
    · have q72 : (q_isRising (S.1 r5)) = true := mb_1.mp q72
      refine mt_aload dX2_merge_20 rfl rfl ?_
      have H77 : rowAt h (2 + 3 * r10) (rroom r10) (mb (decide (r10 < 2))) (S.1 r10) := CR r10 (by omega)
      obtain ⟨f_82, g_82, ea_82, ek_82, es_82, ql_82, qr_82, qk_82, qt_82⟩ := id H77
      refine mt_callV (N := mX1_isRising) (Rc := rX1_isRising) (As := []) (st := []) dX2_merge_22 (kX1_isRising hl H77) sX1_isRising mw_182 mKX1 rfl ea_82 rfl (Nat.le_of_ble_eq_true rfl) ⟨⟨Nat.le_of_ble_eq_true rfl, Nat.le_of_ble_eq_true rfl⟩, Nat.le_of_ble_eq_true rfl, Nat.le_of_ble_eq_true rfl⟩ (fun v78 h79 n80 c81 => ?_) (fun _ _ _ hx => hx.elim)
      obtain ⟨c81a, c81b, c81c⟩ := c81
      rw [c81a, c81b, c81c]
      show mT _ _ _ _ 25 [.ref 0, .int (nI r5), .int (nI r10), .ref (2 + 3 * r5), .ref (2 + 3 * r10)] [.int (mb (q_isRising (S.1 r10)))] _ _ _ _
      refine mt_if_eq dX2_merge_25 (tgt := 40) rfl (fun q83 => ?_) (fun q83 => ?_)
      · have q83 : (q_isRising (S.1 r10)) = false := mb_0.mp q83
        refine mt_aload_n dX2_merge_40 rfl rfl ?_
        refine mt_callV (N := mX2_refused) (Rc := rX2_refused) (As := []) (st := []) dX2_merge_41 (kX2_refused hl C0) sX2_refused mw_446 mKX2 rfl C0 rfl (Nat.le_of_ble_eq_true rfl) ⟨⟨Nat.le_of_ble_eq_true rfl, Nat.le_of_ble_eq_true rfl⟩, Nat.le_of_ble_eq_true rfl, Nat.le_of_ble_eq_true rfl⟩ (fun v84 h85 n86 c87 => ?_) (fun _ _ _ hx => hx.elim)
        obtain ⟨c87a, c87b, c87c, c87d⟩ := c87
        rw [c87a, c87b]
        show mT _ _ _ _ 44 [.ref 0, .int (nI r5), .int (nI r10), .ref (2 + 3 * r5), .ref (2 + 3 * r10)] [.int (-9)] _ _ _ _
        refine mt_ireturn dX2_merge_44 rfl rfl (Nat.le_of_ble_eq_true rfl) (Nat.le_of_ble_eq_true rfl) ?_
        exact cOk.of (x := .int (-9)) (S' := (S.1, S.2.1, S.2.2.1, S.2.2.2.1 + nI 1, S.2.2.2.2)) (by simp only [sp_merge, dAt_s hr5 (by decide), dAt_s hr10 (by decide), if_neg hrq, if_neg (bt_nf q72), if_pos q83] <;> first | rfl | simp_all) rfl rfl ⟨c87c, ⟨cg, (c87d (1) (by omega)).trans C1, C1g⟩, (c87d (14) (by omega)).trans C14, cRows0 CR (fun j j1 j2 => c87d j (by omega)), ⟨_, (HK15).fr (fun j j1 j2 => c87d j (by omega))⟩, ⟨_, (HK18).fr (fun j j1 j2 => c87d j (by omega))⟩, ⟨_, (HK21).fr (fun j j1 j2 => c87d j (by omega))⟩, ⟨_, (HK24).fr (fun j j1 j2 => c87d j (by omega))⟩⟩ (fun j hj => c87d j (by omega))
      · have q83 : (q_isRising (S.1 r10)) = true := mb_1.mp q83
        refine mt_aload dX2_merge_28 rfl rfl ?_
        refine mt_getfield mKX1 (i := 3) (by decide) mw_76 dX2_merge_30 ea_82 rfl ?_
        refine mt_aload_n dX2_merge_33 rfl rfl ?_
        refine mt_callV (N := mX1_free) (Rc := rX1_free) (As := []) (st := [.int (nI ((S.1 r10).length))]) dX2_merge_34 (kX1_free hl H66) sX1_free mw_206 mKX1 rfl ea_71 rfl (Nat.le_of_ble_eq_true rfl) ⟨⟨Nat.le_of_ble_eq_true rfl, Nat.le_of_ble_eq_true rfl⟩, Nat.le_of_ble_eq_true rfl, Nat.le_of_ble_eq_true rfl⟩ (fun v88 h89 n90 c91 => ?_) (fun _ _ _ hx => hx.elim)
        obtain ⟨c91a, c91b, c91c⟩ := c91
        rw [c91a, c91b, c91c]
        show mT _ _ _ _ 37 [.ref 0, .int (nI r5), .int (nI r10), .ref (2 + 3 * r5), .ref (2 + 3 * r10)] [.int (nI ((rroom r5) - (S.1 r5).length)), .int (nI ((S.1 r10).length))] _ _ _ _
        refine mt_icmp_le dX2_merge_37 (tgt := 45) rfl (fun q92 => ?_) (fun q92 => ?_)
        · have q92 := Int32.not_lt.mpr q92
          have q92 := (not_congr (nI_ltI (by omega) (by omega))).mp q92
          refine mt_aload_n dX2_merge_45 rfl rfl ?_
          refine mt_getfield mKX2 (i := 1) (by decide) mw_113 dX2_merge_46 C0 rfl ?_
          refine mt_getfield mKX0 (i := 1) (by decide) mw_99 dX2_merge_49 C14 rfl ?_
          refine mt_aload_n dX2_merge_52 rfl rfl ?_
          obtain ⟨f_97, g_97, ea_97, ek_97, es_97, ql_97, qr_97, qk_97, qt_97⟩ := id HK18
          refine mt_callV (N := mX1_become) (Rc := rX1_become) (As := [.ref (2 + 3 * r5)]) (st := []) dX2_merge_53 (kX1_become hl HK18 H66 (by omega) (by first | omega | assumption | (simp only [List.length_append, List.length_cons, List.length_nil, span_len, Nat.sub_zero] at *; omega))) sX1_become mw_210 mKX1 rfl ea_97 rfl (Nat.le_of_ble_eq_true rfl) ⟨⟨Nat.le_of_ble_eq_true rfl, Nat.le_of_ble_eq_true rfl⟩, Nat.le_of_ble_eq_true rfl, Nat.le_of_ble_eq_true rfl⟩ (fun v93 h94 n95 c96 => ?_) (fun _ _ _ hx => hx.elim)
          obtain ⟨c96a, c96b, c96c, c96d⟩ := c96
          rw [c96a, c96b]
          show mT _ _ _ _ 56 [.ref 0, .int (nI r5), .int (nI r10), .ref (2 + 3 * r5), .ref (2 + 3 * r10)] [] _ _ _ _
          refine mt_aload_n dX2_merge_56 rfl rfl ?_
          refine mt_aload dX2_merge_57 rfl rfl ?_
          refine mt_aload_n dX2_merge_59 rfl rfl ?_
          refine mt_getfield mKX2 (i := 1) (by decide) mw_113 dX2_merge_60 ((c96d (0) (by omega)).trans C0) rfl ?_
          refine mt_getfield mKX0 (i := 1) (by decide) mw_99 dX2_merge_63 ((c96d (14) (by omega)).trans C14) rfl ?_
          refine mt_aload_n dX2_merge_66 rfl rfl ?_
          refine mt_getfield mKX1 (i := 2) (by decide) mw_74 dX2_merge_67 ((c96d (2 + 3 * r5) (by omega)).trans ea_71) rfl ?_
          have H98 : rowAt h94 (2 + 3 * r10) (rroom r10) (mb (decide (r10 < 2))) (S.1 r10) := (H77).fr (fun j j1 j2 => c96d j (by omega))
          refine mt_callV (N := mX2_bring) (Rc := rX2_bring) (As := [.ref (2 + 3 * r10), .ref 18, .int (mb (decide (r5 < 2)))]) (st := []) dX2_merge_70 (kX2_bring hl ((c96d (0) (by omega)).trans C0) c96c H98 (by omega) (by omega) (by omega) (by first | omega | assumption | (simp only [List.length_append, List.length_cons, List.length_nil, span_len, Nat.sub_zero] at *; omega))) sX2_bring mw_542 mKX2 rfl ((c96d (0) (by omega)).trans C0) rfl (Nat.le_of_ble_eq_true rfl) ⟨⟨Nat.le_of_ble_eq_true rfl, Nat.le_of_ble_eq_true rfl⟩, Nat.le_of_ble_eq_true rfl, Nat.le_of_ble_eq_true rfl⟩ (fun v99 h100 n101 c102 => ?_) (fun _ _ _ hx => hx.elim)
          obtain ⟨c102a, c102b, c102c, c102d, c102e⟩ := c102
          rw [c102a, c102b]
          have blc102 := bringL_len (xs := S.1 r10) (t := decide (r5 < 2)) (ft := decide (r10 < 2)) (ys := S.1 r5) (g := S.2.1)
          show mT _ _ _ _ 73 [.ref 0, .int (nI r5), .int (nI r10), .ref (2 + 3 * r5), .ref (2 + 3 * r10)] [] _ _ _ _
          refine mt_aload_n dX2_merge_73 rfl rfl ?_
          refine mt_getfield mKX2 (i := 1) (by decide) mw_113 dX2_merge_74 c102d rfl ?_
          refine mt_aload_n dX2_merge_77 rfl rfl ?_
          refine mt_getfield mKX1 (i := 3) (by decide) mw_76 dX2_merge_78 ((c102e (2 + 3 * r5) (by omega)).trans ((c96d (2 + 3 * r5) (by omega)).trans ea_71)) rfl ?_
          have H103 : rowAt h100 21 320 (nI 1) zs21 := ((HK21).fr (fun j j1 j2 => c96d j (by omega))).fr (fun j j1 j2 => c102e j (by omega))
          refine mt_callV (N := mX0_weaveJoined) (Rc := rX0_weaveJoined) (As := [.int (nI ((S.1 r5).length))]) (st := []) dX2_merge_81 (kX0_weaveJoined hl ((c102e (14) (by omega)).trans ((c96d (14) (by omega)).trans C14)) c102c H103 (by omega) (by omega) (by omega)) sX0_weaveJoined mw_212 mKX0 rfl ((c102e (14) (by omega)).trans ((c96d (14) (by omega)).trans C14)) rfl (Nat.le_of_ble_eq_true rfl) ⟨⟨Nat.le_of_ble_eq_true rfl, Nat.le_of_ble_eq_true rfl⟩, Nat.le_of_ble_eq_true rfl, Nat.le_of_ble_eq_true rfl⟩ (fun v104 h105 n106 c107 => ?_) (fun _ _ _ hx => hx.elim)
          have wl201 := weave_len (xs := (bringL (S.1 r10) (decide (r5 < 2)) (decide (r10 < 2)) (S.1 r5) S.2.1).1) (m := (S.1 r5).length) (by omega)
          obtain ⟨c107a, c107b, c107c, c107d⟩ := c107
          rw [c107a, c107b]
          have H108 : rowAt h105 21 320 (nI 1) (weave ((bringL (S.1 r10) (decide (r5 < 2)) (decide (r10 < 2)) (S.1 r5) S.2.1).1) ((S.1 r5).length)) := c107c
          show mT _ _ _ _ 84 [.ref 0, .int (nI r5), .int (nI r10), .ref (2 + 3 * r5), .ref (2 + 3 * r10)] [] _ _ _ _
          refine mt_aload_n dX2_merge_84 rfl rfl ?_
          refine mt_aload_n dX2_merge_85 rfl rfl ?_
          refine mt_getfield mKX2 (i := 1) (by decide) mw_113 dX2_merge_86 ((c107d (0) (by omega)).trans c102d) rfl ?_
          refine mt_getfield mKX0 (i := 2) (by decide) mw_101 dX2_merge_89 ((c107d (14) (by omega)).trans ((c102e (14) (by omega)).trans ((c96d (14) (by omega)).trans C14))) rfl ?_
          have H109 : rowAt h105 (2 + 3 * r5) (rroom r5) (mb (decide (r5 < 2))) (S.1 r5) := (((H66).fr (fun j j1 j2 => c96d j (by omega))).fr (fun j j1 j2 => c102e j (by omega))).fr (fun j j1 j2 => c107d j (by omega))
          refine mt_callV (N := mX1_become) (Rc := rX1_become) (As := [.ref 21]) (st := []) dX2_merge_92 (kX1_become hl H109 H108 (by omega) (by first | omega | assumption | (simp only [List.length_append, List.length_cons, List.length_nil, span_len, Nat.sub_zero] at *; omega))) sX1_become mw_210 mKX1 rfl ((c107d (2 + 3 * r5) (by omega)).trans ((c102e (2 + 3 * r5) (by omega)).trans ((c96d (2 + 3 * r5) (by omega)).trans ea_71))) rfl (Nat.le_of_ble_eq_true rfl) ⟨⟨Nat.le_of_ble_eq_true rfl, Nat.le_of_ble_eq_true rfl⟩, Nat.le_of_ble_eq_true rfl, Nat.le_of_ble_eq_true rfl⟩ (fun v110 h111 n112 c113 => ?_) (fun _ _ _ hx => hx.elim)
          obtain ⟨c113a, c113b, c113c, c113d⟩ := c113
          rw [c113a, c113b]
          show mT _ _ _ _ 95 [.ref 0, .int (nI r5), .int (nI r10), .ref (2 + 3 * r5), .ref (2 + 3 * r10)] [] _ _ _ _
          refine mt_aload_n dX2_merge_95 rfl rfl ?_
          refine mt_aload_n dX2_merge_96 rfl rfl ?_
          obtain ⟨f_114, g_114, ea_114, ek_114, es_114, ql_114, qr_114, qk_114, qt_114⟩ := id c113c
          refine mt_getfield mKX1 (i := 3) (by decide) mw_76 dX2_merge_97 ea_114 rfl ?_
          refine mt_callV (N := mX2_done) (Rc := rX2_done) (As := [.int (nI ((weave ((bringL (S.1 r10) (decide (r5 < 2)) (decide (r10 < 2)) (S.1 r5) S.2.1).1) ((S.1 r5).length)).length))]) (st := []) dX2_merge_100 (kX2_done hl ((c113d (0) (by omega)).trans ((c107d (0) (by omega)).trans c102d))) sX2_done mw_430 mKX2 rfl ((c113d (0) (by omega)).trans ((c107d (0) (by omega)).trans c102d)) rfl (Nat.le_of_ble_eq_true rfl) ⟨⟨Nat.le_of_ble_eq_true rfl, Nat.le_of_ble_eq_true rfl⟩, Nat.le_of_ble_eq_true rfl, Nat.le_of_ble_eq_true rfl⟩ (fun v115 h116 n117 c118 => ?_) (fun _ _ _ hx => hx.elim)
          obtain ⟨c118a, c118b, c118c, c118d⟩ := c118
          rw [c118a, c118b]
          show mT _ _ _ _ 103 [.ref 0, .int (nI r5), .int (nI r10), .ref (2 + 3 * r5), .ref (2 + 3 * r10)] [.int (nI ((weave ((bringL (S.1 r10) (decide (r5 < 2)) (decide (r10 < 2)) (S.1 r5) S.2.1).1) ((S.1 r5).length)).length))] _ _ _ _
          refine mt_ireturn dX2_merge_103 rfl rfl (Nat.le_of_ble_eq_true rfl) (Nat.le_of_ble_eq_true rfl) ?_
          exact cOk.of (x := .int (nI ((weave ((bringL (S.1 r10) (decide (r5 < 2)) (decide (r10 < 2)) (S.1 r5) S.2.1).1) ((S.1 r5).length)).length))) (S' := (fun k => if k = r5 then weave ((bringL (S.1 r10) (decide (r5 < 2)) (decide (r10 < 2)) (S.1 r5) S.2.1).1) ((S.1 r5).length) else S.1 k, (bringL (S.1 r10) (decide (r5 < 2)) (decide (r10 < 2)) (S.1 r5) S.2.1).2, S.2.2.1 + nI 1, S.2.2.2.1, S.2.2.2.2)) (by simp only [sp_merge, dAt_s hr5 (by decide), dAt_s hr10 (by decide), if_neg hrq, if_neg (bt_nf q72), if_neg (bt_nf q83), if_neg q92] <;> first | rfl | simp_all) rfl rfl ⟨c118c, ⟨cg, (c118d (1) (by omega)).trans ((c113d (1) (by omega)).trans ((c107d (1) (by omega)).trans ((c102e (1) (by omega)).trans ((c96d (1) (by omega)).trans C1)))), C1g⟩, (c118d (14) (by omega)).trans ((c113d (14) (by omega)).trans ((c107d (14) (by omega)).trans ((c102e (14) (by omega)).trans ((c96d (14) (by omega)).trans C14)))), cRows CR (by omega) ((c113c).fr (fun j j1 j2 => c118d j (by omega))) (fun j j1 j2 j3 => (c118d j (by omega)).trans ((c113d j (by omega)).trans ((c107d j (by omega)).trans ((c102e j (by omega)).trans (c96d j (by omega)))))), ⟨_, (((((HK15).fr (fun j j1 j2 => c96d j (by omega))).fr (fun j j1 j2 => c102e j (by omega))).fr (fun j j1 j2 => c107d j (by omega))).fr (fun j j1 j2 => c113d j (by omega))).fr (fun j j1 j2 => c118d j (by omega))⟩, ⟨_, (((c102c).fr (fun j j1 j2 => c107d j (by omega))).fr (fun j j1 j2 => c113d j (by omega))).fr (fun j j1 j2 => c118d j (by omega))⟩, ⟨_, ((H108).fr (fun j j1 j2 => c113d j (by omega))).fr (fun j j1 j2 => c118d j (by omega))⟩, ⟨_, (((((HK24).fr (fun j j1 j2 => c96d j (by omega))).fr (fun j j1 j2 => c102e j (by omega))).fr (fun j j1 j2 => c107d j (by omega))).fr (fun j j1 j2 => c113d j (by omega))).fr (fun j j1 j2 => c118d j (by omega))⟩⟩ (fun j hj => (c118d j (by omega)).trans ((c113d j (by omega)).trans ((c107d j (by omega)).trans ((c102e j (by omega)).trans (c96d j (by omega))))))
        · have q92 := Int32.not_le.mp q92
          have q92 := (nI_ltI (by omega) (by omega)).mp q92
          refine mt_aload_n dX2_merge_40 rfl rfl ?_
          refine mt_callV (N := mX2_refused) (Rc := rX2_refused) (As := []) (st := []) dX2_merge_41 (kX2_refused hl C0) sX2_refused mw_446 mKX2 rfl C0 rfl (Nat.le_of_ble_eq_true rfl) ⟨⟨Nat.le_of_ble_eq_true rfl, Nat.le_of_ble_eq_true rfl⟩, Nat.le_of_ble_eq_true rfl, Nat.le_of_ble_eq_true rfl⟩ (fun v119 h120 n121 c122 => ?_) (fun _ _ _ hx => hx.elim)
          obtain ⟨c122a, c122b, c122c, c122d⟩ := c122
          rw [c122a, c122b]
          show mT _ _ _ _ 44 [.ref 0, .int (nI r5), .int (nI r10), .ref (2 + 3 * r5), .ref (2 + 3 * r10)] [.int (-9)] _ _ _ _
          refine mt_ireturn dX2_merge_44 rfl rfl (Nat.le_of_ble_eq_true rfl) (Nat.le_of_ble_eq_true rfl) ?_
          exact cOk.of (x := .int (-9)) (S' := (S.1, S.2.1, S.2.2.1, S.2.2.2.1 + nI 1, S.2.2.2.2)) (by simp only [sp_merge, dAt_s hr5 (by decide), dAt_s hr10 (by decide), if_neg hrq, if_neg (bt_nf q72), if_neg (bt_nf q83), if_pos q92] <;> first | rfl | simp_all) rfl rfl ⟨c122c, ⟨cg, (c122d (1) (by omega)).trans C1, C1g⟩, (c122d (14) (by omega)).trans C14, cRows0 CR (fun j j1 j2 => c122d j (by omega)), ⟨_, (HK15).fr (fun j j1 j2 => c122d j (by omega))⟩, ⟨_, (HK18).fr (fun j j1 j2 => c122d j (by omega))⟩, ⟨_, (HK21).fr (fun j j1 j2 => c122d j (by omega))⟩, ⟨_, (HK24).fr (fun j j1 j2 => c122d j (by omega))⟩⟩ (fun j hj => c122d j (by omega))
