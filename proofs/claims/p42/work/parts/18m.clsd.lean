/-! ===== the class: turn, items that come from elsewhere ===== -/
abbrev rX2_turn : Room := { frames := 7, cells := 1, slots := 6, locals := 111 }
set_option maxRecDepth 100000 in
set_option maxHeartbeats 2000000 in
theorem tX2_turn_26 {l : Launch} {K : mK} {n a b room rr : Nat} {fl fl2 : Int32} {xs r : List mIt} {h0 : mH} (hl : l.stackTraces = false) (hab : b + 3 ≤ a ∨ a + 3 ≤ b) (kk0 : ∀ (h : mH), (rowAt h b 320 fl2 r) → (∀ j, (j < b ∨ b + 3 ≤ j) → h j = h0 j) → mT l mX2_turn rX2_turn K 55 [.ref 0, .int (nI rr), .ref a, .ref b, .int (-1)] [] h n 1 6) : ∀ (N0 : Nat) (d : Nat) (h : mH) (ys : List mIt), d < N0 → (rowAt h a room fl xs) → (rowAt h b 320 fl2 ys) → (∀ j, (j < b ∨ b + 3 ≤ j) → h j = h0 j) → (ys ++ rv xs d = r) → (d ≤ xs.length) → (ys.length + d ≤ 320) → mT l mX2_turn rX2_turn K 26 [.ref 0, .int (nI rr), .ref a, .ref b, .int (mpr d)] [] h n 1 6 := by
  intro N0
  induction N0 with
  | zero => intro d h ys hm; exact absurd hm (Nat.not_lt_zero _)
  | succ N0 ih =>
    intro d h ys hm H H2 hfr hr hd hy
    obtain ⟨f_1, g_1, ea_1, ek_1, es_1, ql_1, qr_1, qk_1, qt_1⟩ := id H
    rcases d with _ | d
    · show mT _ _ _ _ 26 [.ref 0, .int (nI rr), .ref a, .ref b, .int (-1)] [] _ _ _ _
      refine mt_iload dX2_turn_26 rfl ?_
      refine mt_if_lt dX2_turn_28 (tgt := 55) rfl (fun q2 => ?_) (fun q2 => ?_)
      · exact kk0 h (((List.append_nil _).symm.trans hr) ▸ H2) hfr
      · exact (q2 (by decide)).elim
    · rw [mpr_s]
      refine mt_iload dX2_turn_26 rfl ?_
      refine mt_if_lt dX2_turn_28 (tgt := 55) rfl (fun q3 => ?_) (fun q3 => ?_)
      · have q3 := (mI_lt0 (by omega)).mp q3
        exact q3.elim
      · have q3 := (not_congr (mI_lt0 (by omega))).mp q3
        refine mt_aload_n dX2_turn_31 rfl rfl ?_
        refine mt_aload_n dX2_turn_32 rfl rfl ?_
        refine mt_getfield mKX1 (i := 0) (by decide) mw_68 dX2_turn_33 ea_1 rfl ?_
        refine mt_iload dX2_turn_36 rfl ?_
        refine mp_iaload dX2_turn_38 ek_1 rfl (by omega) (by omega) (v := xk xs d) (qk_1 _ (by omega)) ?_
        refine mt_aload_n dX2_turn_39 rfl rfl ?_
        refine mt_getfield mKX1 (i := 1) (by decide) mw_71 dX2_turn_40 ea_1 rfl ?_
        refine mt_iload dX2_turn_43 rfl ?_
        refine mp_iaload dX2_turn_45 es_1 rfl (by omega) (by omega) (v := xt xs d) (qt_1 _ (by omega)) ?_
        obtain ⟨f_8, g_8, ea_8, ek_8, es_8, ql_8, qr_8, qk_8, qt_8⟩ := id H2
        refine mt_callV (N := mX1_append) (Rc := rX1_append) (As := [.int (xk xs d), .int (xt xs d)]) (st := []) dX2_turn_46 (kX1_append hl H2 (by first | omega | assumption | (simp only [List.length_append, List.length_cons, List.length_nil, span_len, Nat.sub_zero] at *; omega))) sX1_append mw_421 mKX1 rfl ea_8 rfl (Nat.le_of_ble_eq_true rfl) ⟨⟨Nat.le_of_ble_eq_true rfl, Nat.le_of_ble_eq_true rfl⟩, Nat.le_of_ble_eq_true rfl, Nat.le_of_ble_eq_true rfl⟩ (fun v4 h5 n6 c7 => ?_) (fun _ _ _ hx => hx.elim)
        obtain ⟨c7a, c7b, c7c, c7d⟩ := c7
        rw [c7a, c7b]
        show mT _ _ _ _ 49 [.ref 0, .int (nI rr), .ref a, .ref b, .int (nI d)] [] _ _ _ _
        refine mp_iinc dX2_turn_49 rfl (v := mpr d) mpr_dec (ls' := [.ref 0, .int (nI rr), .ref a, .ref b, .int (mpr d)]) rfl (by decide) rfl ?_
        refine mt_goto dX2_turn_52 (tgt := 26) rfl ?_
        have H9 : rowAt h5 a room fl xs := (H).fr (fun j j1 j2 => c7d j (by omega))
        exact ih d h5 (ys ++ [(xk xs d, xt xs d)]) (by omega) H9 c7c (fun j hj => (c7d j (by omega)).trans (hfr j hj)) (rv_go.trans hr) (by omega) (by rw [List.length_append]; simp only [List.length_cons, List.length_nil]; omega)
def sp_turn (S : cS) (row : Int32) : Nat × Value × cS := dAt S 4 row fun r => (0, .int (q_otherKeys (S.1 r) (rv (S.1 r) (S.1 r).length)), cAct (cSet S r (rv (S.1 r) (S.1 r).length)))
set_option maxRecDepth 100000 in
set_option maxHeartbeats 2000000 in
theorem kX2_turn {l : Launch} (hl : l.stackTraces = false) {h : mH} {n : Nat} {S : cS} {row : Int32} (C : cAt h S) : mC l mX2_turn rX2_turn [.ref 0, .int row] h n (cOk (sp_turn S row) h n) (cNo (sp_turn S row).1 h n) := by
  obtain ⟨C0, ⟨cg, C1, C1g⟩, C14, CR, ⟨zs15, HK15⟩, ⟨zs18, HK18⟩, ⟨zs21, HK21⟩, ⟨zs24, HK24⟩⟩ := id C
  refine mm_enter hl (by decide +kernel) rfl rfl rfl (Nat.le_of_ble_eq_true rfl) ?_
  show mT _ _ _ _ 0 [.ref 0, .int row, .double 0, .double 0, .double 0] [] _ _ 0 0
  refine mt_aload_n dX2_turn_0 rfl rfl ?_
  refine mt_iload_n dX2_turn_1 rfl ?_
  refine mt_callV (N := mX2_rowOf) (Rc := rX2_rowOf) (As := [.int row]) (st := []) dX2_turn_2 (kX2_rowOf hl C) sX2_rowOf mw_230 mKX2 rfl C0 rfl (Nat.le_of_ble_eq_true rfl) ⟨⟨Nat.le_of_ble_eq_true rfl, Nat.le_of_ble_eq_true rfl⟩, Nat.le_of_ble_eq_true rfl, Nat.le_of_ble_eq_true rfl⟩ (fun v1 h2 n3 c4 => ?_) (fun E h9 n9 hx => mt_out rfl (by obtain ⟨rfl, hq, rfl, rfl⟩ := hx; exact cNo.i (by simp only [sp_turn, dAt_n hq])) (Nat.le_of_ble_eq_true rfl) (Nat.le_of_ble_eq_true rfl))
  obtain ⟨r5, hr5, rfl, c4a, c4b, c4c⟩ := c4
  rw [c4a, c4b, c4c]
  have hLr5 := (CR r5 hr5).len
  show mT _ _ _ _ 5 [.ref 0, .int (nI r5), .double 0, .double 0, .double 0] [.ref (2 + 3 * r5)] _ _ _ _
  refine mp_astore_n dX2_turn_5 (ls' := [.ref 0, .int (nI r5), .ref (2 + 3 * r5), .double 0, .double 0]) rfl rfl (by decide) rfl ?_
  refine mt_aload_n dX2_turn_6 rfl rfl ?_
  refine mt_getfield mKX2 (i := 1) (by decide) mw_113 dX2_turn_7 C0 rfl ?_
  refine mt_getfield mKX0 (i := 2) (by decide) mw_101 dX2_turn_10 C14 rfl ?_
  refine mp_astore_n dX2_turn_13 (ls' := [.ref 0, .int (nI r5), .ref (2 + 3 * r5), .ref 21, .double 0]) rfl rfl (by decide) rfl ?_
  refine mt_aload_n dX2_turn_14 rfl rfl ?_
  obtain ⟨f_10, g_10, ea_10, ek_10, es_10, ql_10, qr_10, qk_10, qt_10⟩ := id HK21
  refine mt_callV (N := mX1_empty) (Rc := rX1_empty) (As := []) (st := []) dX2_turn_15 (kX1_empty hl HK21) sX1_empty mw_407 mKX1 rfl ea_10 rfl (Nat.le_of_ble_eq_true rfl) ⟨⟨Nat.le_of_ble_eq_true rfl, Nat.le_of_ble_eq_true rfl⟩, Nat.le_of_ble_eq_true rfl, Nat.le_of_ble_eq_true rfl⟩ (fun v6 h7 n8 c9 => ?_) (fun _ _ _ hx => hx.elim)
  obtain ⟨c9a, c9b, c9c, c9d⟩ := c9
  rw [c9a, c9b]
  show mT _ _ _ _ 18 [.ref 0, .int (nI r5), .ref (2 + 3 * r5), .ref 21, .double 0] [] _ _ _ _
  refine mt_aload_n dX2_turn_18 rfl rfl ?_
  obtain ⟨f_11, g_11, ea_11, ek_11, es_11, ql_11, qr_11, qk_11, qt_11⟩ := id (CR r5 (by omega)).fr (fun j j1 j2 => c9d j (by omega))
  refine mt_getfield mKX1 (i := 3) (by decide) mw_76 dX2_turn_19 ea_11 rfl ?_
  refine mt_iconst dX2_turn_22 (v := nI 1) rfl ?_
  refine mp_isub dX2_turn_23 (v := mpr ((S.1 r5).length)) rfl ?_
  refine mp_istore dX2_turn_24 (ls' := [.ref 0, .int (nI r5), .ref (2 + 3 * r5), .ref 21, .int (mpr ((S.1 r5).length))]) rfl (by decide) rfl ?_
  have H12 : rowAt h7 (2 + 3 * r5) (rroom r5) (mb (decide (r5 < 2))) (S.1 r5) := (CR r5 (by omega)).fr (fun j j1 j2 => c9d j (by omega))
  refine tX2_turn_26 hl (by omega) (fun h_13 z14 z15 => ?_) (((S.1 r5).length) + 1) ((S.1 r5).length) h7 ([]) (Nat.lt_succ_self _) H12 c9c (fun _ _ => rfl) rfl (Nat.le_refl _) (by simp only [List.length_nil]; omega)
  have rl9 := rv_len (xs := S.1 r5) (d := (S.1 r5).length)
  refine mt_aload_n dX2_turn_55 rfl rfl ?_
  refine mt_aload_n dX2_turn_56 rfl rfl ?_
  have H16 : rowAt h_13 (2 + 3 * r5) (rroom r5) (mb (decide (r5 < 2))) (S.1 r5) := (H12).fr (fun j j1 j2 => z15 j (by omega))
  refine mt_callV (N := mX1_otherKeys) (Rc := rX1_otherKeys) (As := [.ref 21]) (st := []) dX2_turn_57 (kX1_otherKeys hl H16 z14) sX1_otherKeys mw_510 mKX1 rfl ((z15 (2 + 3 * r5) (by omega)).trans ea_11) rfl (Nat.le_of_ble_eq_true rfl) ⟨⟨Nat.le_of_ble_eq_true rfl, Nat.le_of_ble_eq_true rfl⟩, Nat.le_of_ble_eq_true rfl, Nat.le_of_ble_eq_true rfl⟩ (fun v17 h18 n19 c20 => ?_) (fun _ _ _ hx => hx.elim)
  obtain ⟨c20a, c20b, c20c⟩ := c20
  rw [c20a, c20b, c20c]
  show mT _ _ _ _ 60 [.ref 0, .int (nI r5), .ref (2 + 3 * r5), .ref 21, .int (-1)] [.int (q_otherKeys (S.1 r5) (rv (S.1 r5) (S.1 r5).length))] _ _ _ _
  refine mp_istore dX2_turn_60 (ls' := [.ref 0, .int (nI r5), .ref (2 + 3 * r5), .ref 21, .int (q_otherKeys (S.1 r5) (rv (S.1 r5) (S.1 r5).length))]) rfl (by decide) rfl ?_
  refine mt_aload_n dX2_turn_62 rfl rfl ?_
  refine mt_aload_n dX2_turn_63 rfl rfl ?_
  refine mt_callV (N := mX1_become) (Rc := rX1_become) (As := [.ref 21]) (st := []) dX2_turn_64 (kX1_become hl H16 z14 (by omega) (by first | omega | assumption | (simp only [List.length_append, List.length_cons, List.length_nil, span_len, Nat.sub_zero] at *; omega))) sX1_become mw_210 mKX1 rfl ((z15 (2 + 3 * r5) (by omega)).trans ea_11) rfl (Nat.le_of_ble_eq_true rfl) ⟨⟨Nat.le_of_ble_eq_true rfl, Nat.le_of_ble_eq_true rfl⟩, Nat.le_of_ble_eq_true rfl, Nat.le_of_ble_eq_true rfl⟩ (fun v21 h22 n23 c24 => ?_) (fun _ _ _ hx => hx.elim)
  obtain ⟨c24a, c24b, c24c, c24d⟩ := c24
  rw [c24a, c24b]
  show mT _ _ _ _ 67 [.ref 0, .int (nI r5), .ref (2 + 3 * r5), .ref 21, .int (q_otherKeys (S.1 r5) (rv (S.1 r5) (S.1 r5).length))] [] _ _ _ _
  refine mt_aload_n dX2_turn_67 rfl rfl ?_
  refine mt_iload dX2_turn_68 rfl ?_
  refine mt_callV (N := mX2_done) (Rc := rX2_done) (As := [.int (q_otherKeys (S.1 r5) (rv (S.1 r5) (S.1 r5).length))]) (st := []) dX2_turn_70 (kX2_done hl ((c24d (0) (by omega)).trans ((z15 (0) (by omega)).trans ((c9d (0) (by omega)).trans C0)))) sX2_done mw_430 mKX2 rfl ((c24d (0) (by omega)).trans ((z15 (0) (by omega)).trans ((c9d (0) (by omega)).trans C0))) rfl (Nat.le_of_ble_eq_true rfl) ⟨⟨Nat.le_of_ble_eq_true rfl, Nat.le_of_ble_eq_true rfl⟩, Nat.le_of_ble_eq_true rfl, Nat.le_of_ble_eq_true rfl⟩ (fun v25 h26 n27 c28 => ?_) (fun _ _ _ hx => hx.elim)
  obtain ⟨c28a, c28b, c28c, c28d⟩ := c28
  rw [c28a, c28b]
  show mT _ _ _ _ 73 [.ref 0, .int (nI r5), .ref (2 + 3 * r5), .ref 21, .int (q_otherKeys (S.1 r5) (rv (S.1 r5) (S.1 r5).length))] [.int (q_otherKeys (S.1 r5) (rv (S.1 r5) (S.1 r5).length))] _ _ _ _
  refine mt_ireturn dX2_turn_73 rfl rfl (Nat.le_of_ble_eq_true rfl) (Nat.le_of_ble_eq_true rfl) ?_
  exact cOk.of (x := .int (q_otherKeys (S.1 r5) (rv (S.1 r5) (S.1 r5).length))) (S' := (fun k => if k = r5 then rv (S.1 r5) (S.1 r5).length else S.1 k, S.2.1, S.2.2.1 + nI 1, S.2.2.2.1, S.2.2.2.2)) (by simp only [sp_turn, dAt_s hr5 (by decide)] <;> first | rfl | simp_all) rfl rfl ⟨c28c, ⟨cg, (c28d (1) (by omega)).trans ((c24d (1) (by omega)).trans ((z15 (1) (by omega)).trans ((c9d (1) (by omega)).trans C1))), C1g⟩, (c28d (14) (by omega)).trans ((c24d (14) (by omega)).trans ((z15 (14) (by omega)).trans ((c9d (14) (by omega)).trans C14))), cRows CR (by omega) ((c24c).fr (fun j j1 j2 => c28d j (by omega))) (fun j j1 j2 j3 => (c28d j (by omega)).trans ((c24d j (by omega)).trans ((z15 j (by omega)).trans (c9d j (by omega))))), ⟨_, ((((HK15).fr (fun j j1 j2 => c9d j (by omega))).fr (fun j j1 j2 => z15 j (by omega))).fr (fun j j1 j2 => c24d j (by omega))).fr (fun j j1 j2 => c28d j (by omega))⟩, ⟨_, ((((HK18).fr (fun j j1 j2 => c9d j (by omega))).fr (fun j j1 j2 => z15 j (by omega))).fr (fun j j1 j2 => c24d j (by omega))).fr (fun j j1 j2 => c28d j (by omega))⟩, ⟨_, ((z14).fr (fun j j1 j2 => c24d j (by omega))).fr (fun j j1 j2 => c28d j (by omega))⟩, ⟨_, ((((HK24).fr (fun j j1 j2 => c9d j (by omega))).fr (fun j j1 j2 => z15 j (by omega))).fr (fun j j1 j2 => c24d j (by omega))).fr (fun j j1 j2 => c28d j (by omega))⟩⟩ (fun j hj => (c28d j (by omega)).trans ((c24d j (by omega)).trans ((z15 j (by omega)).trans (c9d j (by omega)))))
abbrev rX2_stampOfComer : Room := { frames := 1, cells := 0, slots := 0, locals := 21 }
set_option maxRecDepth 100000 in
set_option maxHeartbeats 2000000 in
theorem kX2_stampOfComer {l : Launch} (hl : l.stackTraces = false) {h : mH} {n r1 r14 : Nat} {g ac rf kn : Int32} {b room i : Nat} {t ft : Bool} {xs : List mIt} (C0 : h 0 = .inr (.inr (4, [.ref r1, .ref r14, .int g, .int ac, .int rf, .int kn]))) (H : rowAt h b room (mb ft) xs) (hi : i < xs.length) : mC l mX2_stampOfComer rX2_stampOfComer [.ref 0, .ref b, .int (nI i), .int (mb (t))] h n (fun v h' n' => v = some (.int (cst t ft (xt xs i) g)) ∧ n' = n ∧ h' 0 = .inr (.inr (4, [.ref r1, .ref r14, .int (cgv t ft g), .int ac, .int rf, .int kn])) ∧ ∀ j, j ≠ 0 → h' j = h j) (mNX) := by
  obtain ⟨f_1, g_1, ea_1, ek_1, es_1, ql_1, qr_1, qk_1, qt_1⟩ := id H
  refine mm_enter hl (by decide +kernel) rfl rfl rfl (Nat.le_of_ble_eq_true rfl) ?_
  show mT _ _ _ _ 0 [.ref 0, .ref b, .int (nI i), .int (mb (t))] [] _ _ 0 0
  refine mt_iload_n dX2_stampOfComer_0 rfl ?_
  refine mt_if_ne dX2_stampOfComer_1 (tgt := 6) rfl (fun q2 => ?_) (fun q2 => ?_)
  · have q2 : t = true := mb_1.mp q2
    refine mt_aload_n dX2_stampOfComer_6 rfl rfl ?_
    refine mt_getfield mKX1 (i := 2) (by decide) mw_74 dX2_stampOfComer_7 ea_1 rfl ?_
    refine mt_if_eq dX2_stampOfComer_10 (tgt := 22) rfl (fun q3 => ?_) (fun q3 => ?_)
    · have q3 : ft = false := mb_0.mp q3
      refine mt_aload_n dX2_stampOfComer_22 rfl rfl ?_
      refine mt_callV (N := mX2_nextStamp) (Rc := rX2_nextStamp) (As := []) (st := []) dX2_stampOfComer_23 (kX2_nextStamp hl C0) sX2_nextStamp mw_417 mKX2 rfl C0 rfl (Nat.le_of_ble_eq_true rfl) ⟨⟨Nat.le_of_ble_eq_true rfl, Nat.le_of_ble_eq_true rfl⟩, Nat.le_of_ble_eq_true rfl, Nat.le_of_ble_eq_true rfl⟩ (fun v4 h5 n6 c7 => ?_) (fun _ _ _ hx => hx.elim)
      obtain ⟨c7a, c7b, c7c, c7d⟩ := c7
      rw [c7a, c7b]
      show mT _ _ _ _ 26 [.ref 0, .ref b, .int (nI i), .int (mb (t))] [.int g] _ _ _ _
      refine mt_ireturn dX2_stampOfComer_26 rfl rfl (Nat.le_of_ble_eq_true rfl) (Nat.le_of_ble_eq_true rfl) ?_
      exact ⟨by simp [cst, cgv, q2, q3], rfl, by simp only [cgv]; simp only [if_true, if_false, Bool.false_eq_true, q2, q3]; exact c7c, fun j hj => c7d j (by omega)⟩
    · have q3 : ft = true := mb_1.mp q3
      refine mt_aload_n dX2_stampOfComer_13 rfl rfl ?_
      refine mt_getfield mKX1 (i := 1) (by decide) mw_71 dX2_stampOfComer_14 ea_1 rfl ?_
      refine mt_iload_n dX2_stampOfComer_17 rfl ?_
      refine mp_iaload dX2_stampOfComer_18 es_1 rfl (by omega) (by omega) (v := xt xs i) (qt_1 _ (by omega)) ?_
      refine mt_goto dX2_stampOfComer_19 (tgt := 26) rfl ?_
      refine mt_ireturn dX2_stampOfComer_26 rfl rfl (Nat.le_of_ble_eq_true rfl) (Nat.le_of_ble_eq_true rfl) ?_
      exact ⟨by simp [cst, cgv, q2, q3], rfl, by simp only [cgv]; simp only [if_true, if_false, Bool.false_eq_true, q2, q3]; exact C0, fun j hj => rfl⟩
  · have q2 : t = false := mb_0.mp q2
    refine mt_iconst dX2_stampOfComer_4 (v := -1) rfl ?_
    refine mt_ireturn dX2_stampOfComer_5 rfl rfl (Nat.le_of_ble_eq_true rfl) (Nat.le_of_ble_eq_true rfl) ?_
    exact ⟨by simp [cst, cgv, q2], rfl, by simp only [cgv]; simp only [if_true, if_false, Bool.false_eq_true, q2]; exact C0, fun j hj => rfl⟩
abbrev rX2_bring : Room := { frames := 2, cells := 0, slots := 0, locals := 44 }
set_option maxRecDepth 100000 in
set_option maxHeartbeats 2000000 in
theorem tX2_bring_9 {l : Launch} {K : mK} {n a b room room2 r1 r14 : Nat} {fl ac rf kn : Int32} {t ft : Bool} {xs : List mIt} {r : List mIt × Int32} {h0 : mH} (hl : l.stackTraces = false) (h0a : 0 < a) (h0b : 0 < b) (hab : b + 3 ≤ a ∨ a + 3 ≤ b) (kk0 : ∀ (i : Nat) (h : mH) (ys : List mIt) (g : Int32), (rowAt h a room fl ys) → (h 0 = .inr (.inr (4, [.ref r1, .ref r14, .int g, .int ac, .int rf, .int kn]))) → (∀ j, ((j < a ∨ a + 3 ≤ j) ∧ j ≠ 0) → h j = h0 j) → ((ys, g) = r) → mT l mX2_bring rX2_bring K 41 [.ref 0, .ref b, .ref a, .int (mb (t)), .int (nI xs.length), .int (nI i)] [] h n 0 0) : ∀ (N0 : Nat) (i : Nat) (h : mH) (ys : List mIt) (g : Int32), (xs.length - i) < N0 → (h 0 = .inr (.inr (4, [.ref r1, .ref r14, .int g, .int ac, .int rf, .int kn]))) → (rowAt h a room fl ys) → (rowAt h b room2 (mb ft) xs) → (∀ j, ((j < a ∨ a + 3 ≤ j) ∧ j ≠ 0) → h j = h0 j) → (mlp (stBring xs t ft) (xs.length - i) i (ys, g) = r) → (i ≤ xs.length) → (ys.length + (xs.length - i) ≤ room) → mT l mX2_bring rX2_bring K 9 [.ref 0, .ref b, .ref a, .int (mb (t)), .int (nI xs.length), .int (nI i)] [] h n 0 0 := by
  intro N0
  induction N0 with
  | zero => intro i h ys g hm; exact absurd hm (Nat.not_lt_zero _)
  | succ N0 ih =>
    intro i h ys g hm C0 H H2 hfr hr hi hro
    obtain ⟨f_1, g_1, ea_1, ek_1, es_1, ql_1, qr_1, qk_1, qt_1⟩ := id H2
    refine mt_iload dX2_bring_9 rfl ?_
    refine mt_iload dX2_bring_11 rfl ?_
    refine mt_icmp_ge dX2_bring_13 (tgt := 41) rfl (fun q2 => ?_) (fun q2 => ?_)
    · have q2 := Int32.not_lt.mpr q2
      have q2 := (not_congr (nI_ltI (by omega) (by omega))).mp q2
      exact kk0 i h ys g H C0 hfr ((mlp_end (f := stBring xs t ft) (by omega)).symm.trans hr)
    · have q2 := Int32.not_le.mp q2
      have q2 := (nI_ltI (by omega) (by omega)).mp q2
      refine mt_aload_n dX2_bring_16 rfl rfl ?_
      refine mt_aload_n dX2_bring_17 rfl rfl ?_
      refine mt_getfield mKX1 (i := 0) (by decide) mw_68 dX2_bring_18 ea_1 rfl ?_
      refine mt_iload dX2_bring_21 rfl ?_
      refine mp_iaload dX2_bring_23 ek_1 rfl (by omega) (by omega) (v := xk xs i) (qk_1 _ (by omega)) ?_
      refine mt_aload_n dX2_bring_24 rfl rfl ?_
      refine mt_aload_n dX2_bring_25 rfl rfl ?_
      refine mt_iload dX2_bring_26 rfl ?_
      refine mt_iload_n dX2_bring_28 rfl ?_
      refine mt_callV (N := mX2_stampOfComer) (Rc := rX2_stampOfComer) (As := [.ref b, .int (nI i), .int (mb (t))]) (st := [.int (xk xs i), .ref a]) dX2_bring_29 (kX2_stampOfComer hl C0 H2 (by first | omega | (simp only [List.length_append]; omega))) sX2_stampOfComer mw_546 mKX2 rfl C0 rfl (Nat.le_of_ble_eq_true rfl) ⟨⟨Nat.le_of_ble_eq_true rfl, Nat.le_of_ble_eq_true rfl⟩, Nat.le_of_ble_eq_true rfl, Nat.le_of_ble_eq_true rfl⟩ (fun v3 h4 n5 c6 => ?_) (fun _ _ _ hx => hx.elim)
      obtain ⟨c6a, c6b, c6c, c6d⟩ := c6
      rw [c6a, c6b]
      show mT _ _ _ _ 32 [.ref 0, .ref b, .ref a, .int (mb (t)), .int (nI xs.length), .int (nI i)] [.int (cst t ft (xt xs i) g), .int (xk xs i), .ref a] _ _ _ _
      have H7 : rowAt h4 a room fl ys := (H).fr (fun j j1 j2 => c6d j (by omega))
      obtain ⟨f_12, g_12, ea_12, ek_12, es_12, ql_12, qr_12, qk_12, qt_12⟩ := id H7
      refine mt_callV (N := mX1_append) (Rc := rX1_append) (As := [.int (xk xs i), .int (cst t ft (xt xs i) g)]) (st := []) dX2_bring_32 (kX1_append hl H7 (by first | omega | assumption | (simp only [List.length_append, List.length_cons, List.length_nil, span_len, Nat.sub_zero] at *; omega))) sX1_append mw_421 mKX1 rfl ea_12 rfl (Nat.le_of_ble_eq_true rfl) ⟨⟨Nat.le_of_ble_eq_true rfl, Nat.le_of_ble_eq_true rfl⟩, Nat.le_of_ble_eq_true rfl, Nat.le_of_ble_eq_true rfl⟩ (fun v8 h9 n10 c11 => ?_) (fun _ _ _ hx => hx.elim)
      obtain ⟨c11a, c11b, c11c, c11d⟩ := c11
      rw [c11a, c11b]
      show mT _ _ _ _ 35 [.ref 0, .ref b, .ref a, .int (mb (t)), .int (nI xs.length), .int (nI i)] [] _ _ _ _
      refine mp_iinc dX2_bring_35 rfl (v := nI (i + 1)) mI_inc (ls' := [.ref 0, .ref b, .ref a, .int (mb (t)), .int (nI xs.length), .int (nI (i + 1))]) rfl (by decide) rfl ?_
      refine mt_goto dX2_bring_38 (tgt := 9) rfl ?_
      have H13 : rowAt h9 b room2 (mb (ft)) xs := ((H2).fr (fun j j1 j2 => c6d j (by omega))).fr (fun j j1 j2 => c11d j (by omega))
      exact ih (i + 1) h9 (ys ++ [(xk xs i, cst t ft (xt xs i) g)]) (cgv t ft g) (by omega) ((c11d (0) (by omega)).trans c6c) c11c H13 (fun j hj => ((c11d j (by omega)).trans (c6d j (by omega))).trans (hfr j hj)) ((mlp_go (f := stBring xs t ft) (by omega) rfl).symm.trans hr) (by omega) (by rw [List.length_append]; simp only [List.length_cons, List.length_nil]; omega)
set_option maxRecDepth 100000 in
set_option maxHeartbeats 2000000 in
theorem kX2_bring {l : Launch} (hl : l.stackTraces = false) {h : mH} {n a b room room2 r1 r14 : Nat} {fl g ac rf kn : Int32} {t ft : Bool} {xs ys : List mIt} (C0 : h 0 = .inr (.inr (4, [.ref r1, .ref r14, .int g, .int ac, .int rf, .int kn]))) (H : rowAt h a room fl ys) (H2 : rowAt h b room2 (mb ft) xs) (h0a : 0 < a) (h0b : 0 < b) (hab : b + 3 ≤ a ∨ a + 3 ≤ b) (hro : ys.length + xs.length ≤ room) : mC l mX2_bring rX2_bring [.ref 0, .ref b, .ref a, .int (mb (t))] h n (fun v h' n' => v = none ∧ n' = n ∧ rowAt h' a room fl (bringL xs t ft ys g).1 ∧ h' 0 = .inr (.inr (4, [.ref r1, .ref r14, .int (bringL xs t ft ys g).2, .int ac, .int rf, .int kn])) ∧ ∀ j, ((j < a ∨ a + 3 ≤ j) ∧ j ≠ 0) → h' j = h j) (mNX) := by
  obtain ⟨f_1, g_1, ea_1, ek_1, es_1, ql_1, qr_1, qk_1, qt_1⟩ := id H2
  refine mm_enter hl (by decide +kernel) rfl rfl rfl (Nat.le_of_ble_eq_true rfl) ?_
  show mT _ _ _ _ 0 [.ref 0, .ref b, .ref a, .int (mb (t)), .double 0, .double 0] [] _ _ 0 0
  refine mt_aload_n dX2_bring_0 rfl rfl ?_
  refine mt_getfield mKX1 (i := 3) (by decide) mw_76 dX2_bring_1 ea_1 rfl ?_
  refine mp_istore dX2_bring_4 (ls' := [.ref 0, .ref b, .ref a, .int (mb (t)), .int (nI xs.length), .double 0]) rfl (by decide) rfl ?_
  refine mt_iconst dX2_bring_6 (v := nI 0) rfl ?_
  refine mp_istore dX2_bring_7 (ls' := [.ref 0, .ref b, .ref a, .int (mb (t)), .int (nI xs.length), .int (nI 0)]) rfl (by decide) rfl ?_
  refine tX2_bring_9 hl h0a h0b hab (fun i_2 h_3 ys_4 g_5 z6 z7 z8 z9 => ?_) (xs.length - 0 + 1) 0 h ys g (Nat.lt_succ_self _) C0 H H2 (fun _ _ => rfl) rfl (by omega) (by omega)
  refine mt_return dX2_bring_41 rfl (Nat.le_of_ble_eq_true rfl) (Nat.le_of_ble_eq_true rfl) ?_
  exact ⟨rfl, rfl, (congrArg Prod.fst z9) ▸ z6, z7.trans (congrArg (fun q : List mIt × Int32 => (Sum.inr (Sum.inr (4, [.ref r1, .ref r14, .int q.2, .int ac, .int rf, .int kn])) : mE)) z9), z8⟩
set_option maxRecDepth 100000 in
set_option maxHeartbeats 2000000 in
theorem tX2_bring_self {l : Launch} {K : mK} {n a room r1 r14 : Nat} {ac rf kn : Int32} {t : Bool} {xs : List mIt} {r : List mIt × Int32} {h0 : mH} (hl : l.stackTraces = false) (h0a : 0 < a) (kk0 : ∀ (i : Nat) (h : mH) (zs : List mIt) (g : Int32), (rowAt h a room (mb t) (xs ++ zs)) → (h 0 = .inr (.inr (4, [.ref r1, .ref r14, .int g, .int ac, .int rf, .int kn]))) → (∀ j, ((j < a ∨ a + 3 ≤ j) ∧ j ≠ 0) → h j = h0 j) → ((xs ++ zs, g) = r) → mT l mX2_bring rX2_bring K 41 [.ref 0, .ref a, .ref a, .int (mb (t)), .int (nI xs.length), .int (nI i)] [] h n 0 0) : ∀ (N0 : Nat) (i : Nat) (h : mH) (zs : List mIt) (g : Int32), (xs.length - i) < N0 → (h 0 = .inr (.inr (4, [.ref r1, .ref r14, .int g, .int ac, .int rf, .int kn]))) → (rowAt h a room (mb t) (xs ++ zs)) → (∀ j, ((j < a ∨ a + 3 ≤ j) ∧ j ≠ 0) → h j = h0 j) → (mlp (stBring xs t t) (xs.length - i) i (xs ++ zs, g) = r) → (i ≤ xs.length) → (xs.length + zs.length + (xs.length - i) ≤ room) → mT l mX2_bring rX2_bring K 9 [.ref 0, .ref a, .ref a, .int (mb (t)), .int (nI xs.length), .int (nI i)] [] h n 0 0 := by
  intro N0
  induction N0 with
  | zero => intro i h zs g hm; exact absurd hm (Nat.not_lt_zero _)
  | succ N0 ih =>
    intro i h zs g hm C0 H hfr hr hi hro
    obtain ⟨f_1, g_1, ea_1, ek_1, es_1, ql_1, qr_1, qk_1, qt_1⟩ := id H
    have hlen : (xs ++ zs).length = xs.length + zs.length := List.length_append
    refine mt_iload dX2_bring_9 rfl ?_
    refine mt_iload dX2_bring_11 rfl ?_
    refine mt_icmp_ge dX2_bring_13 (tgt := 41) rfl (fun q2 => ?_) (fun q2 => ?_)
    · have q2 := Int32.not_lt.mpr q2
      have q2 := (not_congr (nI_ltI (by omega) (by omega))).mp q2
      exact kk0 i h zs g H C0 hfr ((mlp_end (f := stBring xs t t) (by omega)).symm.trans hr)
    · have q2 := Int32.not_le.mp q2
      have q2 := (nI_ltI (by omega) (by omega)).mp q2
      refine mt_aload_n dX2_bring_16 rfl rfl ?_
      refine mt_aload_n dX2_bring_17 rfl rfl ?_
      refine mt_getfield mKX1 (i := 0) (by decide) mw_68 dX2_bring_18 ea_1 rfl ?_
      refine mt_iload dX2_bring_21 rfl ?_
      refine mp_iaload dX2_bring_23 ek_1 rfl (by omega) (by omega) (v := xk (xs ++ zs) i) (qk_1 _ (by omega)) ?_
      refine mt_aload_n dX2_bring_24 rfl rfl ?_
      refine mt_aload_n dX2_bring_25 rfl rfl ?_
      refine mt_iload dX2_bring_26 rfl ?_
      refine mt_iload_n dX2_bring_28 rfl ?_
      refine mt_callV (N := mX2_stampOfComer) (Rc := rX2_stampOfComer) (As := [.ref a, .int (nI i), .int (mb (t))]) (st := [.int (xk (xs ++ zs) i), .ref a]) dX2_bring_29 (kX2_stampOfComer hl C0 H (by first | omega | (simp only [List.length_append]; omega))) sX2_stampOfComer mw_546 mKX2 rfl C0 rfl (Nat.le_of_ble_eq_true rfl) ⟨⟨Nat.le_of_ble_eq_true rfl, Nat.le_of_ble_eq_true rfl⟩, Nat.le_of_ble_eq_true rfl, Nat.le_of_ble_eq_true rfl⟩ (fun v3 h4 n5 c6 => ?_) (fun _ _ _ hx => hx.elim)
      obtain ⟨c6a, c6b, c6c, c6d⟩ := c6
      rw [c6a, c6b]
      show mT _ _ _ _ 32 [.ref 0, .ref a, .ref a, .int (mb (t)), .int (nI xs.length), .int (nI i)] [.int (cst t t (xt (xs ++ zs) i) g), .int (xk (xs ++ zs) i), .ref a] _ _ _ _
      have H7 : rowAt h4 a room (mb (t)) (xs ++ zs) := (H).fr (fun j j1 j2 => c6d j (by omega))
      refine mt_callV (N := mX1_append) (Rc := rX1_append) (As := [.int (xk (xs ++ zs) i), .int (cst t t (xt (xs ++ zs) i) g)]) (st := []) dX2_bring_32 (kX1_append hl H7 (by first | omega | assumption | (simp only [List.length_append, List.length_cons, List.length_nil, span_len, Nat.sub_zero] at *; omega))) sX1_append mw_421 mKX1 rfl ((c6d (a) (by omega)).trans ea_1) rfl (Nat.le_of_ble_eq_true rfl) ⟨⟨Nat.le_of_ble_eq_true rfl, Nat.le_of_ble_eq_true rfl⟩, Nat.le_of_ble_eq_true rfl, Nat.le_of_ble_eq_true rfl⟩ (fun v8 h9 n10 c11 => ?_) (fun _ _ _ hx => hx.elim)
      obtain ⟨c11a, c11b, c11c, c11d⟩ := c11
      rw [c11a, c11b]
      show mT _ _ _ _ 35 [.ref 0, .ref a, .ref a, .int (mb (t)), .int (nI xs.length), .int (nI i)] [] _ _ _ _
      refine mp_iinc dX2_bring_35 rfl (v := nI (i + 1)) mI_inc (ls' := [.ref 0, .ref a, .ref a, .int (mb (t)), .int (nI xs.length), .int (nI (i + 1))]) rfl (by decide) rfl ?_
      refine mt_goto dX2_bring_38 (tgt := 9) rfl ?_
      exact ih (i + 1) h9 (zs ++ [(xk (xs ++ zs) i, cst t t (xt (xs ++ zs) i) g)]) (cgv t t g) (by omega) ((c11d (0) (by omega)).trans c6c) ((List.append_assoc xs zs _) ▸ c11c) (fun j hj => ((c11d j (by omega)).trans (c6d j (by omega))).trans (hfr j hj)) ((mlp_go (f := stBring xs t t) (by omega) (by simp only [stBring, xk_app_lt (show i < xs.length by omega), xt_app_lt (show i < xs.length by omega), List.append_assoc])).symm.trans hr) (by omega) (by rw [List.length_append]; simp only [List.length_cons, List.length_nil]; omega)
set_option maxRecDepth 100000 in
set_option maxHeartbeats 2000000 in
theorem kX2_bring_self {l : Launch} (hl : l.stackTraces = false) {h : mH} {n a room r1 r14 : Nat} {g ac rf kn : Int32} {t : Bool} {xs : List mIt} (C0 : h 0 = .inr (.inr (4, [.ref r1, .ref r14, .int g, .int ac, .int rf, .int kn]))) (H : rowAt h a room (mb t) xs) (h0a : 0 < a) (hro : xs.length + xs.length ≤ room) : mC l mX2_bring rX2_bring [.ref 0, .ref a, .ref a, .int (mb (t))] h n (fun v h' n' => v = none ∧ n' = n ∧ rowAt h' a room (mb t) (bringL xs t t xs g).1 ∧ h' 0 = .inr (.inr (4, [.ref r1, .ref r14, .int (bringL xs t t xs g).2, .int ac, .int rf, .int kn])) ∧ ∀ j, ((j < a ∨ a + 3 ≤ j) ∧ j ≠ 0) → h' j = h j) (mNX) := by
  obtain ⟨f_1, g_1, ea_1, ek_1, es_1, ql_1, qr_1, qk_1, qt_1⟩ := id H
  refine mm_enter hl (by decide +kernel) rfl rfl rfl (Nat.le_of_ble_eq_true rfl) ?_
  show mT _ _ _ _ 0 [.ref 0, .ref a, .ref a, .int (mb (t)), .double 0, .double 0] [] _ _ 0 0
  refine mt_aload_n dX2_bring_0 rfl rfl ?_
  refine mt_getfield mKX1 (i := 3) (by decide) mw_76 dX2_bring_1 ea_1 rfl ?_
  refine mp_istore dX2_bring_4 (ls' := [.ref 0, .ref a, .ref a, .int (mb (t)), .int (nI xs.length), .double 0]) rfl (by decide) rfl ?_
  refine mt_iconst dX2_bring_6 (v := nI 0) rfl ?_
  refine mp_istore dX2_bring_7 (ls' := [.ref 0, .ref a, .ref a, .int (mb (t)), .int (nI xs.length), .int (nI 0)]) rfl (by decide) rfl ?_
  refine tX2_bring_self hl h0a (fun i_2 h_3 zs_4 g_5 z6 z7 z8 z9 => ?_) (xs.length - 0 + 1) 0 h ([]) g (Nat.lt_succ_self _) C0 ((List.append_nil xs).symm ▸ H) (fun _ _ => rfl) (by rw [List.append_nil]) (by omega) (by simp only [List.length_nil]; omega)
  refine mt_return dX2_bring_41 rfl (Nat.le_of_ble_eq_true rfl) (Nat.le_of_ble_eq_true rfl) ?_
  exact ⟨rfl, rfl, (congrArg Prod.fst z9) ▸ z6, z7.trans (congrArg (fun q : List mIt × Int32 => (Sum.inr (Sum.inr (4, [.ref r1, .ref r14, .int q.2, .int ac, .int rf, .int kn])) : mE)) z9), z8⟩
def sp_copy (S : cS) (row : Int32) (into : Int32) : Nat × Value × cS := dAt S 4 row fun r => dAt S 4 into fun q => if r = q then (0, .int (nI (S.1 q).length), cAct S) else if rroom q < (S.1 r).length then (0, .int (-9), cRef S) else (0, .int (nI (bringL (S.1 r) (decide (q < 2)) (decide (r < 2)) [] S.2.1).1.length), cAct (cGiv (cSet S q (bringL (S.1 r) (decide (q < 2)) (decide (r < 2)) [] S.2.1).1) (bringL (S.1 r) (decide (q < 2)) (decide (r < 2)) [] S.2.1).2))
abbrev rX2_copy : Room := { frames := 7, cells := 2, slots := 12, locals := 111 }
set_option maxRecDepth 100000 in
set_option maxHeartbeats 2000000 in
theorem kX2_copy {l : Launch} (hl : l.stackTraces = false) {h : mH} {n : Nat} {S : cS} {row : Int32} {into : Int32} (C : cAt h S) : mC l mX2_copy rX2_copy [.ref 0, .int row, .int into] h n (cOk (sp_copy S row into) h n) (cNo (sp_copy S row into).1 h n) := by
  obtain ⟨C0, ⟨cg, C1, C1g⟩, C14, CR, ⟨zs15, HK15⟩, ⟨zs18, HK18⟩, ⟨zs21, HK21⟩, ⟨zs24, HK24⟩⟩ := id C
  refine mm_enter hl (by decide +kernel) rfl rfl rfl (Nat.le_of_ble_eq_true rfl) ?_
  show mT _ _ _ _ 0 [.ref 0, .int row, .int into, .double 0, .double 0] [] _ _ 0 0
  refine mt_aload_n dX2_copy_0 rfl rfl ?_
  refine mt_iload_n dX2_copy_1 rfl ?_
  refine mt_callV (N := mX2_rowOf) (Rc := rX2_rowOf) (As := [.int row]) (st := []) dX2_copy_2 (kX2_rowOf hl C) sX2_rowOf mw_230 mKX2 rfl C0 rfl (Nat.le_of_ble_eq_true rfl) ⟨⟨Nat.le_of_ble_eq_true rfl, Nat.le_of_ble_eq_true rfl⟩, Nat.le_of_ble_eq_true rfl, Nat.le_of_ble_eq_true rfl⟩ (fun v1 h2 n3 c4 => ?_) (fun E h9 n9 hx => mt_out rfl (by obtain ⟨rfl, hq, rfl, rfl⟩ := hx; exact cNo.i (by simp only [sp_copy, dAt_n hq])) (Nat.le_of_ble_eq_true rfl) (Nat.le_of_ble_eq_true rfl))
  obtain ⟨r5, hr5, rfl, c4a, c4b, c4c⟩ := c4
  rw [c4a, c4b, c4c]
  have hLr5 := (CR r5 hr5).len
  show mT _ _ _ _ 5 [.ref 0, .int (nI r5), .int into, .double 0, .double 0] [.ref (2 + 3 * r5)] _ _ _ _
  refine mp_astore_n dX2_copy_5 (ls' := [.ref 0, .int (nI r5), .int into, .ref (2 + 3 * r5), .double 0]) rfl rfl (by decide) rfl ?_
  refine mt_aload_n dX2_copy_6 rfl rfl ?_
  refine mt_iload_n dX2_copy_7 rfl ?_
  refine mt_callV (N := mX2_rowOf) (Rc := rX2_rowOf) (As := [.int into]) (st := []) dX2_copy_8 (kX2_rowOf hl C) sX2_rowOf mw_230 mKX2 rfl C0 rfl (Nat.le_of_ble_eq_true rfl) ⟨⟨Nat.le_of_ble_eq_true rfl, Nat.le_of_ble_eq_true rfl⟩, Nat.le_of_ble_eq_true rfl, Nat.le_of_ble_eq_true rfl⟩ (fun v6 h7 n8 c9 => ?_) (fun E h9 n9 hx => mt_out rfl (by obtain ⟨rfl, hq, rfl, rfl⟩ := hx; exact cNo.i (by simp only [sp_copy, dAt_n hq, dAt_s hr5 (by decide)])) (Nat.le_of_ble_eq_true rfl) (Nat.le_of_ble_eq_true rfl))
  obtain ⟨r10, hr10, rfl, c9a, c9b, c9c⟩ := c9
  rw [c9a, c9b, c9c]
  have hLr10 := (CR r10 hr10).len
  show mT _ _ _ _ 11 [.ref 0, .int (nI r5), .int (nI r10), .ref (2 + 3 * r5), .double 0] [.ref (2 + 3 * r10)] _ _ _ _
  by_cases hrq : r5 = r10
  · rw [← hrq]
    refine mp_astore dX2_copy_11 (ls' := [.ref 0, .int (nI r5), .int (nI r5), .ref (2 + 3 * r5), .ref (2 + 3 * r5)]) rfl rfl (by decide) rfl ?_
    refine mt_aload_n dX2_copy_13 rfl rfl ?_
    refine mt_aload dX2_copy_14 rfl rfl ?_
    refine mt_acmp_ne dX2_copy_16 (tgt := 29) rfl (fun q11 => ?_) (fun q11 => ?_)
    · exact absurd rfl q11
    · refine mt_aload_n dX2_copy_19 rfl rfl ?_
      refine mt_aload dX2_copy_20 rfl rfl ?_
      obtain ⟨f_12, g_12, ea_12, ek_12, es_12, ql_12, qr_12, qk_12, qt_12⟩ := id CR r5 (by omega)
      refine mt_getfield mKX1 (i := 3) (by decide) mw_76 dX2_copy_22 ea_12 rfl ?_
      refine mt_callV (N := mX2_done) (Rc := rX2_done) (As := [.int (nI ((S.1 r5).length))]) (st := []) dX2_copy_25 (kX2_done hl C0) sX2_done mw_430 mKX2 rfl C0 rfl (Nat.le_of_ble_eq_true rfl) ⟨⟨Nat.le_of_ble_eq_true rfl, Nat.le_of_ble_eq_true rfl⟩, Nat.le_of_ble_eq_true rfl, Nat.le_of_ble_eq_true rfl⟩ (fun v13 h14 n15 c16 => ?_) (fun _ _ _ hx => hx.elim)
      obtain ⟨c16a, c16b, c16c, c16d⟩ := c16
      rw [c16a, c16b]
      show mT _ _ _ _ 28 [.ref 0, .int (nI r5), .int (nI r5), .ref (2 + 3 * r5), .ref (2 + 3 * r5)] [.int (nI ((S.1 r5).length))] _ _ _ _
      refine mt_ireturn dX2_copy_28 rfl rfl (Nat.le_of_ble_eq_true rfl) (Nat.le_of_ble_eq_true rfl) ?_
      exact cOk.of (x := .int (nI ((S.1 r5).length))) (S' := (S.1, S.2.1, S.2.2.1 + nI 1, S.2.2.2.1, S.2.2.2.2)) (by simp only [sp_copy, dAt_s hr5 (by decide), dAt_s hr10 (by decide), eq_self, if_true] <;> first | rfl | simp_all) rfl rfl ⟨c16c, ⟨cg, (c16d (1) (by omega)).trans C1, C1g⟩, (c16d (14) (by omega)).trans C14, cRows0 CR (fun j j1 j2 => c16d j (by omega)), ⟨_, (HK15).fr (fun j j1 j2 => c16d j (by omega))⟩, ⟨_, (HK18).fr (fun j j1 j2 => c16d j (by omega))⟩, ⟨_, (HK21).fr (fun j j1 j2 => c16d j (by omega))⟩, ⟨_, (HK24).fr (fun j j1 j2 => c16d j (by omega))⟩⟩ (fun j hj => c16d j (by omega))
  · refine mp_astore dX2_copy_11 (ls' := [.ref 0, .int (nI r5), .int (nI r10), .ref (2 + 3 * r5), .ref (2 + 3 * r10)]) rfl rfl (by decide) rfl ?_
    refine mt_aload_n dX2_copy_13 rfl rfl ?_
    refine mt_aload dX2_copy_14 rfl rfl ?_
    refine mt_acmp_ne dX2_copy_16 (tgt := 29) rfl (fun q17 => ?_) (fun q17 => ?_)
    · refine mt_aload_n dX2_copy_29 rfl rfl ?_
      obtain ⟨f_18, g_18, ea_18, ek_18, es_18, ql_18, qr_18, qk_18, qt_18⟩ := id CR r5 (by omega)
      refine mt_getfield mKX1 (i := 3) (by decide) mw_76 dX2_copy_30 ea_18 rfl ?_
      refine mt_aload dX2_copy_33 rfl rfl ?_
      have H19 : rowAt h (2 + 3 * r10) (rroom r10) (mb (decide (r10 < 2))) (S.1 r10) := CR r10 (by omega)
      obtain ⟨f_24, g_24, ea_24, ek_24, es_24, ql_24, qr_24, qk_24, qt_24⟩ := id H19
      refine mt_callV (N := mX1_room) (Rc := rX1_room) (As := []) (st := [.int (nI ((S.1 r5).length))]) dX2_copy_35 (kX1_room hl H19) sX1_room mw_403 mKX1 rfl ea_24 rfl (Nat.le_of_ble_eq_true rfl) ⟨⟨Nat.le_of_ble_eq_true rfl, Nat.le_of_ble_eq_true rfl⟩, Nat.le_of_ble_eq_true rfl, Nat.le_of_ble_eq_true rfl⟩ (fun v20 h21 n22 c23 => ?_) (fun _ _ _ hx => hx.elim)
      obtain ⟨c23a, c23b, c23c⟩ := c23
      rw [c23a, c23b, c23c]
      show mT _ _ _ _ 38 [.ref 0, .int (nI r5), .int (nI r10), .ref (2 + 3 * r5), .ref (2 + 3 * r10)] [.int (nI (rroom r10)), .int (nI ((S.1 r5).length))] _ _ _ _
      refine mt_icmp_le dX2_copy_38 (tgt := 46) rfl (fun q25 => ?_) (fun q25 => ?_)
      · have q25 := Int32.not_lt.mpr q25
        have q25 := (not_congr (nI_ltI (by omega) (by omega))).mp q25
        refine mt_aload dX2_copy_46 rfl rfl ?_
        refine mt_callV (N := mX1_empty) (Rc := rX1_empty) (As := []) (st := []) dX2_copy_48 (kX1_empty hl H19) sX1_empty mw_407 mKX1 rfl ea_24 rfl (Nat.le_of_ble_eq_true rfl) ⟨⟨Nat.le_of_ble_eq_true rfl, Nat.le_of_ble_eq_true rfl⟩, Nat.le_of_ble_eq_true rfl, Nat.le_of_ble_eq_true rfl⟩ (fun v26 h27 n28 c29 => ?_) (fun _ _ _ hx => hx.elim)
        obtain ⟨c29a, c29b, c29c, c29d⟩ := c29
        rw [c29a, c29b]
        show mT _ _ _ _ 51 [.ref 0, .int (nI r5), .int (nI r10), .ref (2 + 3 * r5), .ref (2 + 3 * r10)] [] _ _ _ _
        refine mt_aload_n dX2_copy_51 rfl rfl ?_
        refine mt_aload_n dX2_copy_52 rfl rfl ?_
        refine mt_aload dX2_copy_53 rfl rfl ?_
        refine mt_aload dX2_copy_55 rfl rfl ?_
        obtain ⟨f_30, g_30, ea_30, ek_30, es_30, ql_30, qr_30, qk_30, qt_30⟩ := id c29c
        refine mt_getfield mKX1 (i := 2) (by decide) mw_74 dX2_copy_57 ea_30 rfl ?_
        have H31 : rowAt h27 (2 + 3 * r5) (rroom r5) (mb (decide (r5 < 2))) (S.1 r5) := (CR r5 (by omega)).fr (fun j j1 j2 => c29d j (by omega))
        refine mt_callV (N := mX2_bring) (Rc := rX2_bring) (As := [.ref (2 + 3 * r5), .ref (2 + 3 * r10), .int (mb (decide (r10 < 2)))]) (st := []) dX2_copy_60 (kX2_bring hl ((c29d (0) (by omega)).trans C0) c29c H31 (by omega) (by omega) (by omega) (by first | omega | assumption | (simp only [List.length_append, List.length_cons, List.length_nil, span_len, Nat.sub_zero] at *; omega))) sX2_bring mw_542 mKX2 rfl ((c29d (0) (by omega)).trans C0) rfl (Nat.le_of_ble_eq_true rfl) ⟨⟨Nat.le_of_ble_eq_true rfl, Nat.le_of_ble_eq_true rfl⟩, Nat.le_of_ble_eq_true rfl, Nat.le_of_ble_eq_true rfl⟩ (fun v32 h33 n34 c35 => ?_) (fun _ _ _ hx => hx.elim)
        obtain ⟨c35a, c35b, c35c, c35d, c35e⟩ := c35
        rw [c35a, c35b]
        have blc35 := bringL_len (xs := S.1 r5) (t := decide (r10 < 2)) (ft := decide (r5 < 2)) (ys := []) (g := S.2.1)
        show mT _ _ _ _ 63 [.ref 0, .int (nI r5), .int (nI r10), .ref (2 + 3 * r5), .ref (2 + 3 * r10)] [] _ _ _ _
        refine mt_aload_n dX2_copy_63 rfl rfl ?_
        refine mt_aload dX2_copy_64 rfl rfl ?_
        obtain ⟨f_36, g_36, ea_36, ek_36, es_36, ql_36, qr_36, qk_36, qt_36⟩ := id c35c
        refine mt_getfield mKX1 (i := 3) (by decide) mw_76 dX2_copy_66 ea_36 rfl ?_
        refine mt_callV (N := mX2_done) (Rc := rX2_done) (As := [.int (nI (((bringL (S.1 r5) (decide (r10 < 2)) (decide (r5 < 2)) ([]) S.2.1).1).length))]) (st := []) dX2_copy_69 (kX2_done hl c35d) sX2_done mw_430 mKX2 rfl c35d rfl (Nat.le_of_ble_eq_true rfl) ⟨⟨Nat.le_of_ble_eq_true rfl, Nat.le_of_ble_eq_true rfl⟩, Nat.le_of_ble_eq_true rfl, Nat.le_of_ble_eq_true rfl⟩ (fun v37 h38 n39 c40 => ?_) (fun _ _ _ hx => hx.elim)
        obtain ⟨c40a, c40b, c40c, c40d⟩ := c40
        rw [c40a, c40b]
        show mT _ _ _ _ 72 [.ref 0, .int (nI r5), .int (nI r10), .ref (2 + 3 * r5), .ref (2 + 3 * r10)] [.int (nI (((bringL (S.1 r5) (decide (r10 < 2)) (decide (r5 < 2)) ([]) S.2.1).1).length))] _ _ _ _
        refine mt_ireturn dX2_copy_72 rfl rfl (Nat.le_of_ble_eq_true rfl) (Nat.le_of_ble_eq_true rfl) ?_
        exact cOk.of (x := .int (nI (((bringL (S.1 r5) (decide (r10 < 2)) (decide (r5 < 2)) ([]) S.2.1).1).length))) (S' := (fun k => if k = r10 then (bringL (S.1 r5) (decide (r10 < 2)) (decide (r5 < 2)) ([]) S.2.1).1 else S.1 k, (bringL (S.1 r5) (decide (r10 < 2)) (decide (r5 < 2)) ([]) S.2.1).2, S.2.2.1 + nI 1, S.2.2.2.1, S.2.2.2.2)) (by simp only [sp_copy, dAt_s hr5 (by decide), dAt_s hr10 (by decide), if_neg hrq, if_neg q25] <;> first | rfl | simp_all) rfl rfl ⟨c40c, ⟨cg, (c40d (1) (by omega)).trans ((c35e (1) (by omega)).trans ((c29d (1) (by omega)).trans C1)), C1g⟩, (c40d (14) (by omega)).trans ((c35e (14) (by omega)).trans ((c29d (14) (by omega)).trans C14)), cRows CR (by omega) ((c35c).fr (fun j j1 j2 => c40d j (by omega))) (fun j j1 j2 j3 => (c40d j (by omega)).trans ((c35e j (by omega)).trans (c29d j (by omega)))), ⟨_, (((HK15).fr (fun j j1 j2 => c29d j (by omega))).fr (fun j j1 j2 => c35e j (by omega))).fr (fun j j1 j2 => c40d j (by omega))⟩, ⟨_, (((HK18).fr (fun j j1 j2 => c29d j (by omega))).fr (fun j j1 j2 => c35e j (by omega))).fr (fun j j1 j2 => c40d j (by omega))⟩, ⟨_, (((HK21).fr (fun j j1 j2 => c29d j (by omega))).fr (fun j j1 j2 => c35e j (by omega))).fr (fun j j1 j2 => c40d j (by omega))⟩, ⟨_, (((HK24).fr (fun j j1 j2 => c29d j (by omega))).fr (fun j j1 j2 => c35e j (by omega))).fr (fun j j1 j2 => c40d j (by omega))⟩⟩ (fun j hj => (c40d j (by omega)).trans ((c35e j (by omega)).trans (c29d j (by omega))))
      · have q25 := Int32.not_le.mp q25
        have q25 := (nI_ltI (by omega) (by omega)).mp q25
        refine mt_aload_n dX2_copy_41 rfl rfl ?_
        refine mt_callV (N := mX2_refused) (Rc := rX2_refused) (As := []) (st := []) dX2_copy_42 (kX2_refused hl C0) sX2_refused mw_446 mKX2 rfl C0 rfl (Nat.le_of_ble_eq_true rfl) ⟨⟨Nat.le_of_ble_eq_true rfl, Nat.le_of_ble_eq_true rfl⟩, Nat.le_of_ble_eq_true rfl, Nat.le_of_ble_eq_true rfl⟩ (fun v41 h42 n43 c44 => ?_) (fun _ _ _ hx => hx.elim)
        obtain ⟨c44a, c44b, c44c, c44d⟩ := c44
        rw [c44a, c44b]
        show mT _ _ _ _ 45 [.ref 0, .int (nI r5), .int (nI r10), .ref (2 + 3 * r5), .ref (2 + 3 * r10)] [.int (-9)] _ _ _ _
        refine mt_ireturn dX2_copy_45 rfl rfl (Nat.le_of_ble_eq_true rfl) (Nat.le_of_ble_eq_true rfl) ?_
        exact cOk.of (x := .int (-9)) (S' := (S.1, S.2.1, S.2.2.1, S.2.2.2.1 + nI 1, S.2.2.2.2)) (by simp only [sp_copy, dAt_s hr5 (by decide), dAt_s hr10 (by decide), if_neg hrq, if_pos q25] <;> first | rfl | simp_all) rfl rfl ⟨c44c, ⟨cg, (c44d (1) (by omega)).trans C1, C1g⟩, (c44d (14) (by omega)).trans C14, cRows0 CR (fun j j1 j2 => c44d j (by omega)), ⟨_, (HK15).fr (fun j j1 j2 => c44d j (by omega))⟩, ⟨_, (HK18).fr (fun j j1 j2 => c44d j (by omega))⟩, ⟨_, (HK21).fr (fun j j1 j2 => c44d j (by omega))⟩, ⟨_, (HK24).fr (fun j j1 j2 => c44d j (by omega))⟩⟩ (fun j hj => c44d j (by omega))
    · exact absurd q17 (by omega)
def sp_join (S : cS) (row : Int32) (other : Int32) : Nat × Value × cS := dAt S 4 row fun r => dAt S 4 other fun q => if rroom r - (S.1 r).length < (S.1 q).length then (0, .int (-9), cRef S) else (0, .int (nI (bringL (S.1 q) (decide (r < 2)) (decide (q < 2)) (S.1 r) S.2.1).1.length), cAct (cGiv (cSet S r (bringL (S.1 q) (decide (r < 2)) (decide (q < 2)) (S.1 r) S.2.1).1) (bringL (S.1 q) (decide (r < 2)) (decide (q < 2)) (S.1 r) S.2.1).2))
abbrev rX2_join : Room := { frames := 7, cells := 2, slots := 12, locals := 111 }
set_option maxRecDepth 100000 in
set_option maxHeartbeats 2000000 in
theorem kX2_join {l : Launch} (hl : l.stackTraces = false) {h : mH} {n : Nat} {S : cS} {row : Int32} {other : Int32} (C : cAt h S) : mC l mX2_join rX2_join [.ref 0, .int row, .int other] h n (cOk (sp_join S row other) h n) (cNo (sp_join S row other).1 h n) := by
  obtain ⟨C0, ⟨cg, C1, C1g⟩, C14, CR, ⟨zs15, HK15⟩, ⟨zs18, HK18⟩, ⟨zs21, HK21⟩, ⟨zs24, HK24⟩⟩ := id C
  refine mm_enter hl (by decide +kernel) rfl rfl rfl (Nat.le_of_ble_eq_true rfl) ?_
  show mT _ _ _ _ 0 [.ref 0, .int row, .int other, .double 0, .double 0] [] _ _ 0 0
  refine mt_aload_n dX2_join_0 rfl rfl ?_
  refine mt_iload_n dX2_join_1 rfl ?_
  refine mt_callV (N := mX2_rowOf) (Rc := rX2_rowOf) (As := [.int row]) (st := []) dX2_join_2 (kX2_rowOf hl C) sX2_rowOf mw_230 mKX2 rfl C0 rfl (Nat.le_of_ble_eq_true rfl) ⟨⟨Nat.le_of_ble_eq_true rfl, Nat.le_of_ble_eq_true rfl⟩, Nat.le_of_ble_eq_true rfl, Nat.le_of_ble_eq_true rfl⟩ (fun v1 h2 n3 c4 => ?_) (fun E h9 n9 hx => mt_out rfl (by obtain ⟨rfl, hq, rfl, rfl⟩ := hx; exact cNo.i (by simp only [sp_join, dAt_n hq])) (Nat.le_of_ble_eq_true rfl) (Nat.le_of_ble_eq_true rfl))
  obtain ⟨r5, hr5, rfl, c4a, c4b, c4c⟩ := c4
  rw [c4a, c4b, c4c]
  have hLr5 := (CR r5 hr5).len
  show mT _ _ _ _ 5 [.ref 0, .int (nI r5), .int other, .double 0, .double 0] [.ref (2 + 3 * r5)] _ _ _ _
  refine mp_astore_n dX2_join_5 (ls' := [.ref 0, .int (nI r5), .int other, .ref (2 + 3 * r5), .double 0]) rfl rfl (by decide) rfl ?_
  refine mt_aload_n dX2_join_6 rfl rfl ?_
  refine mt_iload_n dX2_join_7 rfl ?_
  refine mt_callV (N := mX2_rowOf) (Rc := rX2_rowOf) (As := [.int other]) (st := []) dX2_join_8 (kX2_rowOf hl C) sX2_rowOf mw_230 mKX2 rfl C0 rfl (Nat.le_of_ble_eq_true rfl) ⟨⟨Nat.le_of_ble_eq_true rfl, Nat.le_of_ble_eq_true rfl⟩, Nat.le_of_ble_eq_true rfl, Nat.le_of_ble_eq_true rfl⟩ (fun v6 h7 n8 c9 => ?_) (fun E h9 n9 hx => mt_out rfl (by obtain ⟨rfl, hq, rfl, rfl⟩ := hx; exact cNo.i (by simp only [sp_join, dAt_n hq, dAt_s hr5 (by decide)])) (Nat.le_of_ble_eq_true rfl) (Nat.le_of_ble_eq_true rfl))
  obtain ⟨r10, hr10, rfl, c9a, c9b, c9c⟩ := c9
  rw [c9a, c9b, c9c]
  have hLr10 := (CR r10 hr10).len
  show mT _ _ _ _ 11 [.ref 0, .int (nI r5), .int (nI r10), .ref (2 + 3 * r5), .double 0] [.ref (2 + 3 * r10)] _ _ _ _
  by_cases hrq : r5 = r10
  · rw [← hrq]
    refine mp_astore dX2_join_11 (ls' := [.ref 0, .int (nI r5), .int (nI r5), .ref (2 + 3 * r5), .ref (2 + 3 * r5)]) rfl rfl (by decide) rfl ?_
    refine mt_aload dX2_join_13 rfl rfl ?_
    obtain ⟨f_11, g_11, ea_11, ek_11, es_11, ql_11, qr_11, qk_11, qt_11⟩ := id CR r5 (by omega)
    refine mt_getfield mKX1 (i := 3) (by decide) mw_76 dX2_join_15 ea_11 rfl ?_
    refine mt_aload_n dX2_join_18 rfl rfl ?_
    have H12 : rowAt h (2 + 3 * r5) (rroom r5) (mb (decide (r5 < 2))) (S.1 r5) := CR r5 (by omega)
    refine mt_callV (N := mX1_free) (Rc := rX1_free) (As := []) (st := [.int (nI ((S.1 r5).length))]) dX2_join_19 (kX1_free hl H12) sX1_free mw_206 mKX1 rfl ea_11 rfl (Nat.le_of_ble_eq_true rfl) ⟨⟨Nat.le_of_ble_eq_true rfl, Nat.le_of_ble_eq_true rfl⟩, Nat.le_of_ble_eq_true rfl, Nat.le_of_ble_eq_true rfl⟩ (fun v13 h14 n15 c16 => ?_) (fun _ _ _ hx => hx.elim)
    obtain ⟨c16a, c16b, c16c⟩ := c16
    rw [c16a, c16b, c16c]
    show mT _ _ _ _ 22 [.ref 0, .int (nI r5), .int (nI r5), .ref (2 + 3 * r5), .ref (2 + 3 * r5)] [.int (nI ((rroom r5) - (S.1 r5).length)), .int (nI ((S.1 r5).length))] _ _ _ _
    refine mt_icmp_le dX2_join_22 (tgt := 30) rfl (fun q17 => ?_) (fun q17 => ?_)
    · have q17 := Int32.not_lt.mpr q17
      have q17 := (not_congr (nI_ltI (by omega) (by omega))).mp q17
      refine mt_aload_n dX2_join_30 rfl rfl ?_
      refine mt_aload dX2_join_31 rfl rfl ?_
      refine mt_aload_n dX2_join_33 rfl rfl ?_
      refine mt_aload_n dX2_join_34 rfl rfl ?_
      refine mt_getfield mKX1 (i := 2) (by decide) mw_74 dX2_join_35 ea_11 rfl ?_
      refine mt_callV (N := mX2_bring) (Rc := rX2_bring) (As := [.ref (2 + 3 * r5), .ref (2 + 3 * r5), .int (mb (decide (r5 < 2)))]) (st := []) dX2_join_38 (kX2_bring_self hl C0 H12 (by omega) (by first | omega | assumption | (simp only [List.length_append, List.length_cons, List.length_nil, span_len, Nat.sub_zero] at *; omega))) sX2_bring mw_542 mKX2 rfl C0 rfl (Nat.le_of_ble_eq_true rfl) ⟨⟨Nat.le_of_ble_eq_true rfl, Nat.le_of_ble_eq_true rfl⟩, Nat.le_of_ble_eq_true rfl, Nat.le_of_ble_eq_true rfl⟩ (fun v18 h19 n20 c21 => ?_) (fun _ _ _ hx => hx.elim)
      obtain ⟨c21a, c21b, c21c, c21d, c21e⟩ := c21
      rw [c21a, c21b]
      have blc21 := bringL_len (xs := S.1 r5) (t := decide (r5 < 2)) (ft := decide (r5 < 2)) (ys := S.1 r5) (g := S.2.1)
      show mT _ _ _ _ 41 [.ref 0, .int (nI r5), .int (nI r5), .ref (2 + 3 * r5), .ref (2 + 3 * r5)] [] _ _ _ _
      refine mt_aload_n dX2_join_41 rfl rfl ?_
      refine mt_aload_n dX2_join_42 rfl rfl ?_
      obtain ⟨f_22, g_22, ea_22, ek_22, es_22, ql_22, qr_22, qk_22, qt_22⟩ := id c21c
      refine mt_getfield mKX1 (i := 3) (by decide) mw_76 dX2_join_43 ea_22 rfl ?_
      refine mt_callV (N := mX2_done) (Rc := rX2_done) (As := [.int (nI (((bringL (S.1 r5) (decide (r5 < 2)) (decide (r5 < 2)) (S.1 r5) S.2.1).1).length))]) (st := []) dX2_join_46 (kX2_done hl c21d) sX2_done mw_430 mKX2 rfl c21d rfl (Nat.le_of_ble_eq_true rfl) ⟨⟨Nat.le_of_ble_eq_true rfl, Nat.le_of_ble_eq_true rfl⟩, Nat.le_of_ble_eq_true rfl, Nat.le_of_ble_eq_true rfl⟩ (fun v23 h24 n25 c26 => ?_) (fun _ _ _ hx => hx.elim)
      obtain ⟨c26a, c26b, c26c, c26d⟩ := c26
      rw [c26a, c26b]
      show mT _ _ _ _ 49 [.ref 0, .int (nI r5), .int (nI r5), .ref (2 + 3 * r5), .ref (2 + 3 * r5)] [.int (nI (((bringL (S.1 r5) (decide (r5 < 2)) (decide (r5 < 2)) (S.1 r5) S.2.1).1).length))] _ _ _ _
      refine mt_ireturn dX2_join_49 rfl rfl (Nat.le_of_ble_eq_true rfl) (Nat.le_of_ble_eq_true rfl) ?_
      exact cOk.of (x := .int (nI (((bringL (S.1 r5) (decide (r5 < 2)) (decide (r5 < 2)) (S.1 r5) S.2.1).1).length))) (S' := (fun k => if k = r5 then (bringL (S.1 r5) (decide (r5 < 2)) (decide (r5 < 2)) (S.1 r5) S.2.1).1 else S.1 k, (bringL (S.1 r5) (decide (r5 < 2)) (decide (r5 < 2)) (S.1 r5) S.2.1).2, S.2.2.1 + nI 1, S.2.2.2.1, S.2.2.2.2)) (by simp only [sp_join, dAt_s hr5 (by decide), dAt_s hr10 (by decide), eq_self, if_true, if_neg q17] <;> first | rfl | simp_all) rfl rfl ⟨c26c, ⟨cg, (c26d (1) (by omega)).trans ((c21e (1) (by omega)).trans C1), C1g⟩, (c26d (14) (by omega)).trans ((c21e (14) (by omega)).trans C14), cRows CR (by omega) ((c21c).fr (fun j j1 j2 => c26d j (by omega))) (fun j j1 j2 j3 => (c26d j (by omega)).trans (c21e j (by omega))), ⟨_, ((HK15).fr (fun j j1 j2 => c21e j (by omega))).fr (fun j j1 j2 => c26d j (by omega))⟩, ⟨_, ((HK18).fr (fun j j1 j2 => c21e j (by omega))).fr (fun j j1 j2 => c26d j (by omega))⟩, ⟨_, ((HK21).fr (fun j j1 j2 => c21e j (by omega))).fr (fun j j1 j2 => c26d j (by omega))⟩, ⟨_, ((HK24).fr (fun j j1 j2 => c21e j (by omega))).fr (fun j j1 j2 => c26d j (by omega))⟩⟩ (fun j hj => (c26d j (by omega)).trans (c21e j (by omega)))
    · have q17 := Int32.not_le.mp q17
      have q17 := (nI_ltI (by omega) (by omega)).mp q17
      refine mt_aload_n dX2_join_25 rfl rfl ?_
      refine mt_callV (N := mX2_refused) (Rc := rX2_refused) (As := []) (st := []) dX2_join_26 (kX2_refused hl C0) sX2_refused mw_446 mKX2 rfl C0 rfl (Nat.le_of_ble_eq_true rfl) ⟨⟨Nat.le_of_ble_eq_true rfl, Nat.le_of_ble_eq_true rfl⟩, Nat.le_of_ble_eq_true rfl, Nat.le_of_ble_eq_true rfl⟩ (fun v27 h28 n29 c30 => ?_) (fun _ _ _ hx => hx.elim)
      obtain ⟨c30a, c30b, c30c, c30d⟩ := c30
      rw [c30a, c30b]
      show mT _ _ _ _ 29 [.ref 0, .int (nI r5), .int (nI r5), .ref (2 + 3 * r5), .ref (2 + 3 * r5)] [.int (-9)] _ _ _ _
      refine mt_ireturn dX2_join_29 rfl rfl (Nat.le_of_ble_eq_true rfl) (Nat.le_of_ble_eq_true rfl) ?_
      exact cOk.of (x := .int (-9)) (S' := (S.1, S.2.1, S.2.2.1, S.2.2.2.1 + nI 1, S.2.2.2.2)) (by simp only [sp_join, dAt_s hr5 (by decide), dAt_s hr10 (by decide), eq_self, if_true, if_pos q17] <;> first | rfl | simp_all) rfl rfl ⟨c30c, ⟨cg, (c30d (1) (by omega)).trans C1, C1g⟩, (c30d (14) (by omega)).trans C14, cRows0 CR (fun j j1 j2 => c30d j (by omega)), ⟨_, (HK15).fr (fun j j1 j2 => c30d j (by omega))⟩, ⟨_, (HK18).fr (fun j j1 j2 => c30d j (by omega))⟩, ⟨_, (HK21).fr (fun j j1 j2 => c30d j (by omega))⟩, ⟨_, (HK24).fr (fun j j1 j2 => c30d j (by omega))⟩⟩ (fun j hj => c30d j (by omega))
  · refine mp_astore dX2_join_11 (ls' := [.ref 0, .int (nI r5), .int (nI r10), .ref (2 + 3 * r5), .ref (2 + 3 * r10)]) rfl rfl (by decide) rfl ?_
    refine mt_aload dX2_join_13 rfl rfl ?_
    obtain ⟨f_31, g_31, ea_31, ek_31, es_31, ql_31, qr_31, qk_31, qt_31⟩ := id CR r10 (by omega)
    refine mt_getfield mKX1 (i := 3) (by decide) mw_76 dX2_join_15 ea_31 rfl ?_
    refine mt_aload_n dX2_join_18 rfl rfl ?_
    have H32 : rowAt h (2 + 3 * r5) (rroom r5) (mb (decide (r5 < 2))) (S.1 r5) := CR r5 (by omega)
    obtain ⟨f_37, g_37, ea_37, ek_37, es_37, ql_37, qr_37, qk_37, qt_37⟩ := id H32
    refine mt_callV (N := mX1_free) (Rc := rX1_free) (As := []) (st := [.int (nI ((S.1 r10).length))]) dX2_join_19 (kX1_free hl H32) sX1_free mw_206 mKX1 rfl ea_37 rfl (Nat.le_of_ble_eq_true rfl) ⟨⟨Nat.le_of_ble_eq_true rfl, Nat.le_of_ble_eq_true rfl⟩, Nat.le_of_ble_eq_true rfl, Nat.le_of_ble_eq_true rfl⟩ (fun v33 h34 n35 c36 => ?_) (fun _ _ _ hx => hx.elim)
    obtain ⟨c36a, c36b, c36c⟩ := c36
    rw [c36a, c36b, c36c]
    show mT _ _ _ _ 22 [.ref 0, .int (nI r5), .int (nI r10), .ref (2 + 3 * r5), .ref (2 + 3 * r10)] [.int (nI ((rroom r5) - (S.1 r5).length)), .int (nI ((S.1 r10).length))] _ _ _ _
    refine mt_icmp_le dX2_join_22 (tgt := 30) rfl (fun q38 => ?_) (fun q38 => ?_)
    · have q38 := Int32.not_lt.mpr q38
      have q38 := (not_congr (nI_ltI (by omega) (by omega))).mp q38
      refine mt_aload_n dX2_join_30 rfl rfl ?_
      refine mt_aload dX2_join_31 rfl rfl ?_
      refine mt_aload_n dX2_join_33 rfl rfl ?_
      refine mt_aload_n dX2_join_34 rfl rfl ?_
      refine mt_getfield mKX1 (i := 2) (by decide) mw_74 dX2_join_35 ea_37 rfl ?_
      have H39 : rowAt h (2 + 3 * r10) (rroom r10) (mb (decide (r10 < 2))) (S.1 r10) := CR r10 (by omega)
      refine mt_callV (N := mX2_bring) (Rc := rX2_bring) (As := [.ref (2 + 3 * r10), .ref (2 + 3 * r5), .int (mb (decide (r5 < 2)))]) (st := []) dX2_join_38 (kX2_bring hl C0 H32 H39 (by omega) (by omega) (by omega) (by first | omega | assumption | (simp only [List.length_append, List.length_cons, List.length_nil, span_len, Nat.sub_zero] at *; omega))) sX2_bring mw_542 mKX2 rfl C0 rfl (Nat.le_of_ble_eq_true rfl) ⟨⟨Nat.le_of_ble_eq_true rfl, Nat.le_of_ble_eq_true rfl⟩, Nat.le_of_ble_eq_true rfl, Nat.le_of_ble_eq_true rfl⟩ (fun v40 h41 n42 c43 => ?_) (fun _ _ _ hx => hx.elim)
      obtain ⟨c43a, c43b, c43c, c43d, c43e⟩ := c43
      rw [c43a, c43b]
      have blc43 := bringL_len (xs := S.1 r10) (t := decide (r5 < 2)) (ft := decide (r10 < 2)) (ys := S.1 r5) (g := S.2.1)
      show mT _ _ _ _ 41 [.ref 0, .int (nI r5), .int (nI r10), .ref (2 + 3 * r5), .ref (2 + 3 * r10)] [] _ _ _ _
      refine mt_aload_n dX2_join_41 rfl rfl ?_
      refine mt_aload_n dX2_join_42 rfl rfl ?_
      obtain ⟨f_44, g_44, ea_44, ek_44, es_44, ql_44, qr_44, qk_44, qt_44⟩ := id c43c
      refine mt_getfield mKX1 (i := 3) (by decide) mw_76 dX2_join_43 ea_44 rfl ?_
      refine mt_callV (N := mX2_done) (Rc := rX2_done) (As := [.int (nI (((bringL (S.1 r10) (decide (r5 < 2)) (decide (r10 < 2)) (S.1 r5) S.2.1).1).length))]) (st := []) dX2_join_46 (kX2_done hl c43d) sX2_done mw_430 mKX2 rfl c43d rfl (Nat.le_of_ble_eq_true rfl) ⟨⟨Nat.le_of_ble_eq_true rfl, Nat.le_of_ble_eq_true rfl⟩, Nat.le_of_ble_eq_true rfl, Nat.le_of_ble_eq_true rfl⟩ (fun v45 h46 n47 c48 => ?_) (fun _ _ _ hx => hx.elim)
      obtain ⟨c48a, c48b, c48c, c48d⟩ := c48
      rw [c48a, c48b]
      show mT _ _ _ _ 49 [.ref 0, .int (nI r5), .int (nI r10), .ref (2 + 3 * r5), .ref (2 + 3 * r10)] [.int (nI (((bringL (S.1 r10) (decide (r5 < 2)) (decide (r10 < 2)) (S.1 r5) S.2.1).1).length))] _ _ _ _
      refine mt_ireturn dX2_join_49 rfl rfl (Nat.le_of_ble_eq_true rfl) (Nat.le_of_ble_eq_true rfl) ?_
      exact cOk.of (x := .int (nI (((bringL (S.1 r10) (decide (r5 < 2)) (decide (r10 < 2)) (S.1 r5) S.2.1).1).length))) (S' := (fun k => if k = r5 then (bringL (S.1 r10) (decide (r5 < 2)) (decide (r10 < 2)) (S.1 r5) S.2.1).1 else S.1 k, (bringL (S.1 r10) (decide (r5 < 2)) (decide (r10 < 2)) (S.1 r5) S.2.1).2, S.2.2.1 + nI 1, S.2.2.2.1, S.2.2.2.2)) (by simp only [sp_join, dAt_s hr5 (by decide), dAt_s hr10 (by decide), if_neg hrq, if_neg q38] <;> first | rfl | simp_all) rfl rfl ⟨c48c, ⟨cg, (c48d (1) (by omega)).trans ((c43e (1) (by omega)).trans C1), C1g⟩, (c48d (14) (by omega)).trans ((c43e (14) (by omega)).trans C14), cRows CR (by omega) ((c43c).fr (fun j j1 j2 => c48d j (by omega))) (fun j j1 j2 j3 => (c48d j (by omega)).trans (c43e j (by omega))), ⟨_, ((HK15).fr (fun j j1 j2 => c43e j (by omega))).fr (fun j j1 j2 => c48d j (by omega))⟩, ⟨_, ((HK18).fr (fun j j1 j2 => c43e j (by omega))).fr (fun j j1 j2 => c48d j (by omega))⟩, ⟨_, ((HK21).fr (fun j j1 j2 => c43e j (by omega))).fr (fun j j1 j2 => c48d j (by omega))⟩, ⟨_, ((HK24).fr (fun j j1 j2 => c43e j (by omega))).fr (fun j j1 j2 => c48d j (by omega))⟩⟩ (fun j hj => (c48d j (by omega)).trans (c43e j (by omega)))
    · have q38 := Int32.not_le.mp q38
      have q38 := (nI_ltI (by omega) (by omega)).mp q38
      refine mt_aload_n dX2_join_25 rfl rfl ?_
      refine mt_callV (N := mX2_refused) (Rc := rX2_refused) (As := []) (st := []) dX2_join_26 (kX2_refused hl C0) sX2_refused mw_446 mKX2 rfl C0 rfl (Nat.le_of_ble_eq_true rfl) ⟨⟨Nat.le_of_ble_eq_true rfl, Nat.le_of_ble_eq_true rfl⟩, Nat.le_of_ble_eq_true rfl, Nat.le_of_ble_eq_true rfl⟩ (fun v49 h50 n51 c52 => ?_) (fun _ _ _ hx => hx.elim)
      obtain ⟨c52a, c52b, c52c, c52d⟩ := c52
      rw [c52a, c52b]
      show mT _ _ _ _ 29 [.ref 0, .int (nI r5), .int (nI r10), .ref (2 + 3 * r5), .ref (2 + 3 * r10)] [.int (-9)] _ _ _ _
      refine mt_ireturn dX2_join_29 rfl rfl (Nat.le_of_ble_eq_true rfl) (Nat.le_of_ble_eq_true rfl) ?_
      exact cOk.of (x := .int (-9)) (S' := (S.1, S.2.1, S.2.2.1, S.2.2.2.1 + nI 1, S.2.2.2.2)) (by simp only [sp_join, dAt_s hr5 (by decide), dAt_s hr10 (by decide), if_neg hrq, if_pos q38] <;> first | rfl | simp_all) rfl rfl ⟨c52c, ⟨cg, (c52d (1) (by omega)).trans C1, C1g⟩, (c52d (14) (by omega)).trans C14, cRows0 CR (fun j j1 j2 => c52d j (by omega)), ⟨_, (HK15).fr (fun j j1 j2 => c52d j (by omega))⟩, ⟨_, (HK18).fr (fun j j1 j2 => c52d j (by omega))⟩, ⟨_, (HK21).fr (fun j j1 j2 => c52d j (by omega))⟩, ⟨_, (HK24).fr (fun j j1 j2 => c52d j (by omega))⟩⟩ (fun j hj => c52d j (by omega))
def sp_merge (S : cS) (row : Int32) (other : Int32) : Nat × Value × cS := dAt S 4 row fun r => dAt S 4 other fun q => if q_isRising (S.1 r) = false then (0, .int (-9), cRef S) else if q_isRising (S.1 q) = false then (0, .int (-9), cRef S) else if rroom r - (S.1 r).length < (S.1 q).length then (0, .int (-9), cRef S) else (0, .int (nI (weave (bringL (S.1 q) (decide (r < 2)) (decide (q < 2)) (S.1 r) S.2.1).1 (S.1 r).length).length), cAct (cGiv (cSet S r (weave (bringL (S.1 q) (decide (r < 2)) (decide (q < 2)) (S.1 r) S.2.1).1 (S.1 r).length)) (bringL (S.1 q) (decide (r < 2)) (decide (q < 2)) (S.1 r) S.2.1).2))
abbrev rX2_merge : Room := { frames := 7, cells := 2, slots := 12, locals := 111 }
set_option maxRecDepth 100000 in
set_option maxHeartbeats 2000000 in
theorem kX2_merge {l : Launch} (hl : l.stackTraces = false) {h : mH} {n : Nat} {S : cS} {row : Int32} {other : Int32} (C : cAt h S) : mC l mX2_merge rX2_merge [.ref 0, .int row, .int other] h n (cOk (sp_merge S row other) h n) (cNo (sp_merge S row other).1 h n) := by
  obtain ⟨C0, ⟨cg, C1, C1g⟩, C14, CR, ⟨zs15, HK15⟩, ⟨zs18, HK18⟩, ⟨zs21, HK21⟩, ⟨zs24, HK24⟩⟩ := id C
  refine mm_enter hl (by decide +kernel) rfl rfl rfl (Nat.le_of_ble_eq_true rfl) ?_
  show mT _ _ _ _ 0 [.ref 0, .int row, .int other, .double 0, .double 0] [] _ _ 0 0
  refine mt_aload_n dX2_merge_0 rfl rfl ?_
  refine mt_iload_n dX2_merge_1 rfl ?_
  refine mt_callV (N := mX2_rowOf) (Rc := rX2_rowOf) (As := [.int row]) (st := []) dX2_merge_2 (kX2_rowOf hl C) sX2_rowOf mw_230 mKX2 rfl C0 rfl (Nat.le_of_ble_eq_true rfl) ⟨⟨Nat.le_of_ble_eq_true rfl, Nat.le_of_ble_eq_true rfl⟩, Nat.le_of_ble_eq_true rfl, Nat.le_of_ble_eq_true rfl⟩ (fun v1 h2 n3 c4 => ?_) (fun E h9 n9 hx => mt_out rfl (by obtain ⟨rfl, hq, rfl, rfl⟩ := hx; exact cNo.i (by simp only [sp_merge, dAt_n hq])) (Nat.le_of_ble_eq_true rfl) (Nat.le_of_ble_eq_true rfl))
  obtain ⟨r5, hr5, rfl, c4a, c4b, c4c⟩ := c4
  rw [c4a, c4b, c4c]
  have hLr5 := (CR r5 hr5).len
  show mT _ _ _ _ 5 [.ref 0, .int (nI r5), .int other, .double 0, .double 0] [.ref (2 + 3 * r5)] _ _ _ _
  refine mp_astore_n dX2_merge_5 (ls' := [.ref 0, .int (nI r5), .int other, .ref (2 + 3 * r5), .double 0]) rfl rfl (by decide) rfl ?_
  refine mt_aload_n dX2_merge_6 rfl rfl ?_
  refine mt_iload_n dX2_merge_7 rfl ?_
  refine mt_callV (N := mX2_rowOf) (Rc := rX2_rowOf) (As := [.int other]) (st := []) dX2_merge_8 (kX2_rowOf hl C) sX2_rowOf mw_230 mKX2 rfl C0 rfl (Nat.le_of_ble_eq_true rfl) ⟨⟨Nat.le_of_ble_eq_true rfl, Nat.le_of_ble_eq_true rfl⟩, Nat.le_of_ble_eq_true rfl, Nat.le_of_ble_eq_true rfl⟩ (fun v6 h7 n8 c9 => ?_) (fun E h9 n9 hx => mt_out rfl (by obtain ⟨rfl, hq, rfl, rfl⟩ := hx; exact cNo.i (by simp only [sp_merge, dAt_n hq, dAt_s hr5 (by decide)])) (Nat.le_of_ble_eq_true rfl) (Nat.le_of_ble_eq_true rfl))
  obtain ⟨r10, hr10, rfl, c9a, c9b, c9c⟩ := c9
  rw [c9a, c9b, c9c]
  have hLr10 := (CR r10 hr10).len
  show mT _ _ _ _ 11 [.ref 0, .int (nI r5), .int (nI r10), .ref (2 + 3 * r5), .double 0] [.ref (2 + 3 * r10)] _ _ _ _
  by_cases hrq : r5 = r10
  · rw [← hrq]
    refine mp_astore dX2_merge_11 (ls' := [.ref 0, .int (nI r5), .int (nI r5), .ref (2 + 3 * r5), .ref (2 + 3 * r5)]) rfl rfl (by decide) rfl ?_
    refine mt_aload_n dX2_merge_13 rfl rfl ?_
    have H11 : rowAt h (2 + 3 * r5) (rroom r5) (mb (decide (r5 < 2))) (S.1 r5) := CR r5 (by omega)
    obtain ⟨f_16, g_16, ea_16, ek_16, es_16, ql_16, qr_16, qk_16, qt_16⟩ := id H11
    refine mt_callV (N := mX1_isRising) (Rc := rX1_isRising) (As := []) (st := []) dX2_merge_14 (kX1_isRising hl H11) sX1_isRising mw_182 mKX1 rfl ea_16 rfl (Nat.le_of_ble_eq_true rfl) ⟨⟨Nat.le_of_ble_eq_true rfl, Nat.le_of_ble_eq_true rfl⟩, Nat.le_of_ble_eq_true rfl, Nat.le_of_ble_eq_true rfl⟩ (fun v12 h13 n14 c15 => ?_) (fun _ _ _ hx => hx.elim)
    obtain ⟨c15a, c15b, c15c⟩ := c15
    rw [c15a, c15b, c15c]
    show mT _ _ _ _ 17 [.ref 0, .int (nI r5), .int (nI r5), .ref (2 + 3 * r5), .ref (2 + 3 * r5)] [.int (mb (q_isRising (S.1 r5)))] _ _ _ _
    refine mt_if_eq dX2_merge_17 (tgt := 40) rfl (fun q17 => ?_) (fun q17 => ?_)
    · have q17 : (q_isRising (S.1 r5)) = false := mb_0.mp q17
      refine mt_aload_n dX2_merge_40 rfl rfl ?_
      refine mt_callV (N := mX2_refused) (Rc := rX2_refused) (As := []) (st := []) dX2_merge_41 (kX2_refused hl C0) sX2_refused mw_446 mKX2 rfl C0 rfl (Nat.le_of_ble_eq_true rfl) ⟨⟨Nat.le_of_ble_eq_true rfl, Nat.le_of_ble_eq_true rfl⟩, Nat.le_of_ble_eq_true rfl, Nat.le_of_ble_eq_true rfl⟩ (fun v18 h19 n20 c21 => ?_) (fun _ _ _ hx => hx.elim)
      obtain ⟨c21a, c21b, c21c, c21d⟩ := c21
      rw [c21a, c21b]
      show mT _ _ _ _ 44 [.ref 0, .int (nI r5), .int (nI r5), .ref (2 + 3 * r5), .ref (2 + 3 * r5)] [.int (-9)] _ _ _ _
      refine mt_ireturn dX2_merge_44 rfl rfl (Nat.le_of_ble_eq_true rfl) (Nat.le_of_ble_eq_true rfl) ?_
      exact cOk.of (x := .int (-9)) (S' := (S.1, S.2.1, S.2.2.1, S.2.2.2.1 + nI 1, S.2.2.2.2)) (by simp only [sp_merge, dAt_s hr5 (by decide), dAt_s hr10 (by decide), eq_self, if_true, if_pos q17] <;> first | rfl | simp_all) rfl rfl ⟨c21c, ⟨cg, (c21d (1) (by omega)).trans C1, C1g⟩, (c21d (14) (by omega)).trans C14, cRows0 CR (fun j j1 j2 => c21d j (by omega)), ⟨_, (HK15).fr (fun j j1 j2 => c21d j (by omega))⟩, ⟨_, (HK18).fr (fun j j1 j2 => c21d j (by omega))⟩, ⟨_, (HK21).fr (fun j j1 j2 => c21d j (by omega))⟩, ⟨_, (HK24).fr (fun j j1 j2 => c21d j (by omega))⟩⟩ (fun j hj => c21d j (by omega))
    · have q17 : (q_isRising (S.1 r5)) = true := mb_1.mp q17
      refine mt_aload dX2_merge_20 rfl rfl ?_
      refine mt_callV (N := mX1_isRising) (Rc := rX1_isRising) (As := []) (st := []) dX2_merge_22 (kX1_isRising hl H11) sX1_isRising mw_182 mKX1 rfl ea_16 rfl (Nat.le_of_ble_eq_true rfl) ⟨⟨Nat.le_of_ble_eq_true rfl, Nat.le_of_ble_eq_true rfl⟩, Nat.le_of_ble_eq_true rfl, Nat.le_of_ble_eq_true rfl⟩ (fun v22 h23 n24 c25 => ?_) (fun _ _ _ hx => hx.elim)
      obtain ⟨c25a, c25b, c25c⟩ := c25
      rw [c25a, c25b, c25c]
      show mT _ _ _ _ 25 [.ref 0, .int (nI r5), .int (nI r5), .ref (2 + 3 * r5), .ref (2 + 3 * r5)] [.int (mb (q_isRising (S.1 r5)))] _ _ _ _
      refine mt_if_eq dX2_merge_25 (tgt := 40) rfl (fun q26 => ?_) (fun q26 => ?_)
      · have q26 : (q_isRising (S.1 r5)) = false := mb_0.mp q26
        refine mt_aload_n dX2_merge_40 rfl rfl ?_
        refine mt_callV (N := mX2_refused) (Rc := rX2_refused) (As := []) (st := []) dX2_merge_41 (kX2_refused hl C0) sX2_refused mw_446 mKX2 rfl C0 rfl (Nat.le_of_ble_eq_true rfl) ⟨⟨Nat.le_of_ble_eq_true rfl, Nat.le_of_ble_eq_true rfl⟩, Nat.le_of_ble_eq_true rfl, Nat.le_of_ble_eq_true rfl⟩ (fun v27 h28 n29 c30 => ?_) (fun _ _ _ hx => hx.elim)
        obtain ⟨c30a, c30b, c30c, c30d⟩ := c30
        rw [c30a, c30b]
        show mT _ _ _ _ 44 [.ref 0, .int (nI r5), .int (nI r5), .ref (2 + 3 * r5), .ref (2 + 3 * r5)] [.int (-9)] _ _ _ _
        refine mt_ireturn dX2_merge_44 rfl rfl (Nat.le_of_ble_eq_true rfl) (Nat.le_of_ble_eq_true rfl) ?_
        exact cOk.of (x := .int (-9)) (S' := (S.1, S.2.1, S.2.2.1, S.2.2.2.1 + nI 1, S.2.2.2.2)) (by simp only [sp_merge, dAt_s hr5 (by decide), dAt_s hr10 (by decide), eq_self, if_true, if_neg (bt_nf q17), if_pos q26] <;> first | rfl | simp_all) rfl rfl ⟨c30c, ⟨cg, (c30d (1) (by omega)).trans C1, C1g⟩, (c30d (14) (by omega)).trans C14, cRows0 CR (fun j j1 j2 => c30d j (by omega)), ⟨_, (HK15).fr (fun j j1 j2 => c30d j (by omega))⟩, ⟨_, (HK18).fr (fun j j1 j2 => c30d j (by omega))⟩, ⟨_, (HK21).fr (fun j j1 j2 => c30d j (by omega))⟩, ⟨_, (HK24).fr (fun j j1 j2 => c30d j (by omega))⟩⟩ (fun j hj => c30d j (by omega))
      · have q26 : (q_isRising (S.1 r5)) = true := mb_1.mp q26
        refine mt_aload dX2_merge_28 rfl rfl ?_
        refine mt_getfield mKX1 (i := 3) (by decide) mw_76 dX2_merge_30 ea_16 rfl ?_
        refine mt_aload_n dX2_merge_33 rfl rfl ?_
        refine mt_callV (N := mX1_free) (Rc := rX1_free) (As := []) (st := [.int (nI ((S.1 r5).length))]) dX2_merge_34 (kX1_free hl H11) sX1_free mw_206 mKX1 rfl ea_16 rfl (Nat.le_of_ble_eq_true rfl) ⟨⟨Nat.le_of_ble_eq_true rfl, Nat.le_of_ble_eq_true rfl⟩, Nat.le_of_ble_eq_true rfl, Nat.le_of_ble_eq_true rfl⟩ (fun v31 h32 n33 c34 => ?_) (fun _ _ _ hx => hx.elim)
        obtain ⟨c34a, c34b, c34c⟩ := c34
        rw [c34a, c34b, c34c]
        show mT _ _ _ _ 37 [.ref 0, .int (nI r5), .int (nI r5), .ref (2 + 3 * r5), .ref (2 + 3 * r5)] [.int (nI ((rroom r5) - (S.1 r5).length)), .int (nI ((S.1 r5).length))] _ _ _ _
        refine mt_icmp_le dX2_merge_37 (tgt := 45) rfl (fun q35 => ?_) (fun q35 => ?_)
        · have q35 := Int32.not_lt.mpr q35
          have q35 := (not_congr (nI_ltI (by omega) (by omega))).mp q35
          refine mt_aload_n dX2_merge_45 rfl rfl ?_
          refine mt_getfield mKX2 (i := 1) (by decide) mw_113 dX2_merge_46 C0 rfl ?_
          refine mt_getfield mKX0 (i := 1) (by decide) mw_99 dX2_merge_49 C14 rfl ?_
          refine mt_aload_n dX2_merge_52 rfl rfl ?_
          obtain ⟨f_40, g_40, ea_40, ek_40, es_40, ql_40, qr_40, qk_40, qt_40⟩ := id HK18
          refine mt_callV (N := mX1_become) (Rc := rX1_become) (As := [.ref (2 + 3 * r5)]) (st := []) dX2_merge_53 (kX1_become hl HK18 H11 (by omega) (by first | omega | assumption | (simp only [List.length_append, List.length_cons, List.length_nil, span_len, Nat.sub_zero] at *; omega))) sX1_become mw_210 mKX1 rfl ea_40 rfl (Nat.le_of_ble_eq_true rfl) ⟨⟨Nat.le_of_ble_eq_true rfl, Nat.le_of_ble_eq_true rfl⟩, Nat.le_of_ble_eq_true rfl, Nat.le_of_ble_eq_true rfl⟩ (fun v36 h37 n38 c39 => ?_) (fun _ _ _ hx => hx.elim)
          obtain ⟨c39a, c39b, c39c, c39d⟩ := c39
          rw [c39a, c39b]
          show mT _ _ _ _ 56 [.ref 0, .int (nI r5), .int (nI r5), .ref (2 + 3 * r5), .ref (2 + 3 * r5)] [] _ _ _ _
          refine mt_aload_n dX2_merge_56 rfl rfl ?_
          refine mt_aload dX2_merge_57 rfl rfl ?_
          refine mt_aload_n dX2_merge_59 rfl rfl ?_
          refine mt_getfield mKX2 (i := 1) (by decide) mw_113 dX2_merge_60 ((c39d (0) (by omega)).trans C0) rfl ?_
          refine mt_getfield mKX0 (i := 1) (by decide) mw_99 dX2_merge_63 ((c39d (14) (by omega)).trans C14) rfl ?_
          refine mt_aload_n dX2_merge_66 rfl rfl ?_
          refine mt_getfield mKX1 (i := 2) (by decide) mw_74 dX2_merge_67 ((c39d (2 + 3 * r5) (by omega)).trans ea_16) rfl ?_
          have H41 : rowAt h37 (2 + 3 * r5) (rroom r5) (mb (decide (r5 < 2))) (S.1 r5) := (H11).fr (fun j j1 j2 => c39d j (by omega))
          refine mt_callV (N := mX2_bring) (Rc := rX2_bring) (As := [.ref (2 + 3 * r5), .ref 18, .int (mb (decide (r5 < 2)))]) (st := []) dX2_merge_70 (kX2_bring hl ((c39d (0) (by omega)).trans C0) c39c H41 (by omega) (by omega) (by omega) (by first | omega | assumption | (simp only [List.length_append, List.length_cons, List.length_nil, span_len, Nat.sub_zero] at *; omega))) sX2_bring mw_542 mKX2 rfl ((c39d (0) (by omega)).trans C0) rfl (Nat.le_of_ble_eq_true rfl) ⟨⟨Nat.le_of_ble_eq_true rfl, Nat.le_of_ble_eq_true rfl⟩, Nat.le_of_ble_eq_true rfl, Nat.le_of_ble_eq_true rfl⟩ (fun v42 h43 n44 c45 => ?_) (fun _ _ _ hx => hx.elim)
          obtain ⟨c45a, c45b, c45c, c45d, c45e⟩ := c45
          rw [c45a, c45b]
          have blc45 := bringL_len (xs := S.1 r5) (t := decide (r5 < 2)) (ft := decide (r5 < 2)) (ys := S.1 r5) (g := S.2.1)
          show mT _ _ _ _ 73 [.ref 0, .int (nI r5), .int (nI r5), .ref (2 + 3 * r5), .ref (2 + 3 * r5)] [] _ _ _ _
          refine mt_aload_n dX2_merge_73 rfl rfl ?_
          refine mt_getfield mKX2 (i := 1) (by decide) mw_113 dX2_merge_74 c45d rfl ?_
          refine mt_aload_n dX2_merge_77 rfl rfl ?_
          refine mt_getfield mKX1 (i := 3) (by decide) mw_76 dX2_merge_78 ((c45e (2 + 3 * r5) (by omega)).trans ((c39d (2 + 3 * r5) (by omega)).trans ea_16)) rfl ?_
          have H46 : rowAt h43 21 320 (nI 1) zs21 := ((HK21).fr (fun j j1 j2 => c39d j (by omega))).fr (fun j j1 j2 => c45e j (by omega))
          refine mt_callV (N := mX0_weaveJoined) (Rc := rX0_weaveJoined) (As := [.int (nI ((S.1 r5).length))]) (st := []) dX2_merge_81 (kX0_weaveJoined hl ((c45e (14) (by omega)).trans ((c39d (14) (by omega)).trans C14)) c45c H46 (by omega) (by omega) (by omega)) sX0_weaveJoined mw_212 mKX0 rfl ((c45e (14) (by omega)).trans ((c39d (14) (by omega)).trans C14)) rfl (Nat.le_of_ble_eq_true rfl) ⟨⟨Nat.le_of_ble_eq_true rfl, Nat.le_of_ble_eq_true rfl⟩, Nat.le_of_ble_eq_true rfl, Nat.le_of_ble_eq_true rfl⟩ (fun v47 h48 n49 c50 => ?_) (fun _ _ _ hx => hx.elim)
          have wl95 := weave_len (xs := (bringL (S.1 r5) (decide (r5 < 2)) (decide (r5 < 2)) (S.1 r5) S.2.1).1) (m := (S.1 r5).length) (by omega)
          obtain ⟨c50a, c50b, c50c, c50d⟩ := c50
          rw [c50a, c50b]
          have H51 : rowAt h48 21 320 (nI 1) (weave ((bringL (S.1 r5) (decide (r5 < 2)) (decide (r5 < 2)) (S.1 r5) S.2.1).1) ((S.1 r5).length)) := c50c
          show mT _ _ _ _ 84 [.ref 0, .int (nI r5), .int (nI r5), .ref (2 + 3 * r5), .ref (2 + 3 * r5)] [] _ _ _ _
          refine mt_aload_n dX2_merge_84 rfl rfl ?_
          refine mt_aload_n dX2_merge_85 rfl rfl ?_
          refine mt_getfield mKX2 (i := 1) (by decide) mw_113 dX2_merge_86 ((c50d (0) (by omega)).trans c45d) rfl ?_
          refine mt_getfield mKX0 (i := 2) (by decide) mw_101 dX2_merge_89 ((c50d (14) (by omega)).trans ((c45e (14) (by omega)).trans ((c39d (14) (by omega)).trans C14))) rfl ?_
          have H52 : rowAt h48 (2 + 3 * r5) (rroom r5) (mb (decide (r5 < 2))) (S.1 r5) := ((H41).fr (fun j j1 j2 => c45e j (by omega))).fr (fun j j1 j2 => c50d j (by omega))
          refine mt_callV (N := mX1_become) (Rc := rX1_become) (As := [.ref 21]) (st := []) dX2_merge_92 (kX1_become hl H52 H51 (by omega) (by first | omega | assumption | (simp only [List.length_append, List.length_cons, List.length_nil, span_len, Nat.sub_zero] at *; omega))) sX1_become mw_210 mKX1 rfl ((c50d (2 + 3 * r5) (by omega)).trans ((c45e (2 + 3 * r5) (by omega)).trans ((c39d (2 + 3 * r5) (by omega)).trans ea_16))) rfl (Nat.le_of_ble_eq_true rfl) ⟨⟨Nat.le_of_ble_eq_true rfl, Nat.le_of_ble_eq_true rfl⟩, Nat.le_of_ble_eq_true rfl, Nat.le_of_ble_eq_true rfl⟩ (fun v53 h54 n55 c56 => ?_) (fun _ _ _ hx => hx.elim)
          obtain ⟨c56a, c56b, c56c, c56d⟩ := c56
          rw [c56a, c56b]
          show mT _ _ _ _ 95 [.ref 0, .int (nI r5), .int (nI r5), .ref (2 + 3 * r5), .ref (2 + 3 * r5)] [] _ _ _ _
          refine mt_aload_n dX2_merge_95 rfl rfl ?_
          refine mt_aload_n dX2_merge_96 rfl rfl ?_
          obtain ⟨f_57, g_57, ea_57, ek_57, es_57, ql_57, qr_57, qk_57, qt_57⟩ := id c56c
          refine mt_getfield mKX1 (i := 3) (by decide) mw_76 dX2_merge_97 ea_57 rfl ?_
          refine mt_callV (N := mX2_done) (Rc := rX2_done) (As := [.int (nI ((weave ((bringL (S.1 r5) (decide (r5 < 2)) (decide (r5 < 2)) (S.1 r5) S.2.1).1) ((S.1 r5).length)).length))]) (st := []) dX2_merge_100 (kX2_done hl ((c56d (0) (by omega)).trans ((c50d (0) (by omega)).trans c45d))) sX2_done mw_430 mKX2 rfl ((c56d (0) (by omega)).trans ((c50d (0) (by omega)).trans c45d)) rfl (Nat.le_of_ble_eq_true rfl) ⟨⟨Nat.le_of_ble_eq_true rfl, Nat.le_of_ble_eq_true rfl⟩, Nat.le_of_ble_eq_true rfl, Nat.le_of_ble_eq_true rfl⟩ (fun v58 h59 n60 c61 => ?_) (fun _ _ _ hx => hx.elim)
          obtain ⟨c61a, c61b, c61c, c61d⟩ := c61
          rw [c61a, c61b]
          show mT _ _ _ _ 103 [.ref 0, .int (nI r5), .int (nI r5), .ref (2 + 3 * r5), .ref (2 + 3 * r5)] [.int (nI ((weave ((bringL (S.1 r5) (decide (r5 < 2)) (decide (r5 < 2)) (S.1 r5) S.2.1).1) ((S.1 r5).length)).length))] _ _ _ _
          refine mt_ireturn dX2_merge_103 rfl rfl (Nat.le_of_ble_eq_true rfl) (Nat.le_of_ble_eq_true rfl) ?_
          exact cOk.of (x := .int (nI ((weave ((bringL (S.1 r5) (decide (r5 < 2)) (decide (r5 < 2)) (S.1 r5) S.2.1).1) ((S.1 r5).length)).length))) (S' := (fun k => if k = r5 then weave ((bringL (S.1 r5) (decide (r5 < 2)) (decide (r5 < 2)) (S.1 r5) S.2.1).1) ((S.1 r5).length) else S.1 k, (bringL (S.1 r5) (decide (r5 < 2)) (decide (r5 < 2)) (S.1 r5) S.2.1).2, S.2.2.1 + nI 1, S.2.2.2.1, S.2.2.2.2)) (by simp only [sp_merge, dAt_s hr5 (by decide), dAt_s hr10 (by decide), eq_self, if_true, if_neg (bt_nf q17), if_neg (bt_nf q26), if_neg q35] <;> first | rfl | simp_all) rfl rfl ⟨c61c, ⟨cg, (c61d (1) (by omega)).trans ((c56d (1) (by omega)).trans ((c50d (1) (by omega)).trans ((c45e (1) (by omega)).trans ((c39d (1) (by omega)).trans C1)))), C1g⟩, (c61d (14) (by omega)).trans ((c56d (14) (by omega)).trans ((c50d (14) (by omega)).trans ((c45e (14) (by omega)).trans ((c39d (14) (by omega)).trans C14)))), cRows CR (by omega) ((c56c).fr (fun j j1 j2 => c61d j (by omega))) (fun j j1 j2 j3 => (c61d j (by omega)).trans ((c56d j (by omega)).trans ((c50d j (by omega)).trans ((c45e j (by omega)).trans (c39d j (by omega)))))), ⟨_, (((((HK15).fr (fun j j1 j2 => c39d j (by omega))).fr (fun j j1 j2 => c45e j (by omega))).fr (fun j j1 j2 => c50d j (by omega))).fr (fun j j1 j2 => c56d j (by omega))).fr (fun j j1 j2 => c61d j (by omega))⟩, ⟨_, (((c45c).fr (fun j j1 j2 => c50d j (by omega))).fr (fun j j1 j2 => c56d j (by omega))).fr (fun j j1 j2 => c61d j (by omega))⟩, ⟨_, ((H51).fr (fun j j1 j2 => c56d j (by omega))).fr (fun j j1 j2 => c61d j (by omega))⟩, ⟨_, (((((HK24).fr (fun j j1 j2 => c39d j (by omega))).fr (fun j j1 j2 => c45e j (by omega))).fr (fun j j1 j2 => c50d j (by omega))).fr (fun j j1 j2 => c56d j (by omega))).fr (fun j j1 j2 => c61d j (by omega))⟩⟩ (fun j hj => (c61d j (by omega)).trans ((c56d j (by omega)).trans ((c50d j (by omega)).trans ((c45e j (by omega)).trans (c39d j (by omega))))))
        · have q35 := Int32.not_le.mp q35
          have q35 := (nI_ltI (by omega) (by omega)).mp q35
          refine mt_aload_n dX2_merge_40 rfl rfl ?_
          refine mt_callV (N := mX2_refused) (Rc := rX2_refused) (As := []) (st := []) dX2_merge_41 (kX2_refused hl C0) sX2_refused mw_446 mKX2 rfl C0 rfl (Nat.le_of_ble_eq_true rfl) ⟨⟨Nat.le_of_ble_eq_true rfl, Nat.le_of_ble_eq_true rfl⟩, Nat.le_of_ble_eq_true rfl, Nat.le_of_ble_eq_true rfl⟩ (fun v62 h63 n64 c65 => ?_) (fun _ _ _ hx => hx.elim)
          obtain ⟨c65a, c65b, c65c, c65d⟩ := c65
          rw [c65a, c65b]
          show mT _ _ _ _ 44 [.ref 0, .int (nI r5), .int (nI r5), .ref (2 + 3 * r5), .ref (2 + 3 * r5)] [.int (-9)] _ _ _ _
          refine mt_ireturn dX2_merge_44 rfl rfl (Nat.le_of_ble_eq_true rfl) (Nat.le_of_ble_eq_true rfl) ?_
          exact cOk.of (x := .int (-9)) (S' := (S.1, S.2.1, S.2.2.1, S.2.2.2.1 + nI 1, S.2.2.2.2)) (by simp only [sp_merge, dAt_s hr5 (by decide), dAt_s hr10 (by decide), eq_self, if_true, if_neg (bt_nf q17), if_neg (bt_nf q26), if_pos q35] <;> first | rfl | simp_all) rfl rfl ⟨c65c, ⟨cg, (c65d (1) (by omega)).trans C1, C1g⟩, (c65d (14) (by omega)).trans C14, cRows0 CR (fun j j1 j2 => c65d j (by omega)), ⟨_, (HK15).fr (fun j j1 j2 => c65d j (by omega))⟩, ⟨_, (HK18).fr (fun j j1 j2 => c65d j (by omega))⟩, ⟨_, (HK21).fr (fun j j1 j2 => c65d j (by omega))⟩, ⟨_, (HK24).fr (fun j j1 j2 => c65d j (by omega))⟩⟩ (fun j hj => c65d j (by omega))
  · refine mp_astore dX2_merge_11 (ls' := [.ref 0, .int (nI r5), .int (nI r10), .ref (2 + 3 * r5), .ref (2 + 3 * r10)]) rfl rfl (by decide) rfl ?_
    refine mt_aload_n dX2_merge_13 rfl rfl ?_
    have H66 : rowAt h (2 + 3 * r5) (rroom r5) (mb (decide (r5 < 2))) (S.1 r5) := CR r5 (by omega)
    obtain ⟨f_71, g_71, ea_71, ek_71, es_71, ql_71, qr_71, qk_71, qt_71⟩ := id H66
    refine mt_callV (N := mX1_isRising) (Rc := rX1_isRising) (As := []) (st := []) dX2_merge_14 (kX1_isRising hl H66) sX1_isRising mw_182 mKX1 rfl ea_71 rfl (Nat.le_of_ble_eq_true rfl) ⟨⟨Nat.le_of_ble_eq_true rfl, Nat.le_of_ble_eq_true rfl⟩, Nat.le_of_ble_eq_true rfl, Nat.le_of_ble_eq_true rfl⟩ (fun v67 h68 n69 c70 => ?_) (fun _ _ _ hx => hx.elim)
    obtain ⟨c70a, c70b, c70c⟩ := c70
    rw [c70a, c70b, c70c]
    show mT _ _ _ _ 17 [.ref 0, .int (nI r5), .int (nI r10), .ref (2 + 3 * r5), .ref (2 + 3 * r10)] [.int (mb (q_isRising (S.1 r5)))] _ _ _ _
    refine mt_if_eq dX2_merge_17 (tgt := 40) rfl (fun q72 => ?_) (fun q72 => ?_)
    · have q72 : (q_isRising (S.1 r5)) = false := mb_0.mp q72
      refine mt_aload_n dX2_merge_40 rfl rfl ?_
      refine mt_callV (N := mX2_refused) (Rc := rX2_refused) (As := []) (st := []) dX2_merge_41 (kX2_refused hl C0) sX2_refused mw_446 mKX2 rfl C0 rfl (Nat.le_of_ble_eq_true rfl) ⟨⟨Nat.le_of_ble_eq_true rfl, Nat.le_of_ble_eq_true rfl⟩, Nat.le_of_ble_eq_true rfl, Nat.le_of_ble_eq_true rfl⟩ (fun v73 h74 n75 c76 => ?_) (fun _ _ _ hx => hx.elim)
      obtain ⟨c76a, c76b, c76c, c76d⟩ := c76
      rw [c76a, c76b]
      show mT _ _ _ _ 44 [.ref 0, .int (nI r5), .int (nI r10), .ref (2 + 3 * r5), .ref (2 + 3 * r10)] [.int (-9)] _ _ _ _
      refine mt_ireturn dX2_merge_44 rfl rfl (Nat.le_of_ble_eq_true rfl) (Nat.le_of_ble_eq_true rfl) ?_
      exact cOk.of (x := .int (-9)) (S' := (S.1, S.2.1, S.2.2.1, S.2.2.2.1 + nI 1, S.2.2.2.2)) (by simp only [sp_merge, dAt_s hr5 (by decide), dAt_s hr10 (by decide), if_neg hrq, if_pos q72] <;> first | rfl | simp_all) rfl rfl ⟨c76c, ⟨cg, (c76d (1) (by omega)).trans C1, C1g⟩, (c76d (14) (by omega)).trans C14, cRows0 CR (fun j j1 j2 => c76d j (by omega)), ⟨_, (HK15).fr (fun j j1 j2 => c76d j (by omega))⟩, ⟨_, (HK18).fr (fun j j1 j2 => c76d j (by omega))⟩, ⟨_, (HK21).fr (fun j j1 j2 => c76d j (by omega))⟩, ⟨_, (HK24).fr (fun j j1 j2 => c76d j (by omega))⟩⟩ (fun j hj => c76d j (by omega))
    · have q72 : (q_isRising (S.1 r5)) = true := mb_1.mp q72
      refine mt_aload dX2_merge_20 rfl rfl ?_
      have H77 : rowAt h (2 + 3 * r10) (rroom r10) (mb (decide (r10 < 2))) (S.1 r10) := CR r10 (by omega)
      obtain ⟨f_82, g_82, ea_82, ek_82, es_82, ql_82, qr_82, qk_82, qt_82⟩ := id H77
      refine mt_callV (N := mX1_isRising) (Rc := rX1_isRising) (As := []) (st := []) dX2_merge_22 (kX1_isRising hl H77) sX1_isRising mw_182 mKX1 rfl ea_82 rfl (Nat.le_of_ble_eq_true rfl) ⟨⟨Nat.le_of_ble_eq_true rfl, Nat.le_of_ble_eq_true rfl⟩, Nat.le_of_ble_eq_true rfl, Nat.le_of_ble_eq_true rfl⟩ (fun v78 h79 n80 c81 => ?_) (fun _ _ _ hx => hx.elim)
      obtain ⟨c81a, c81b, c81c⟩ := c81
      rw [c81a, c81b, c81c]
      show mT _ _ _ _ 25 [.ref 0, .int (nI r5), .int (nI r10), .ref (2 + 3 * r5), .ref (2 + 3 * r10)] [.int (mb (q_isRising (S.1 r10)))] _ _ _ _
      refine mt_if_eq dX2_merge_25 (tgt := 40) rfl (fun q83 => ?_) (fun q83 => ?_)
      · have q83 : (q_isRising (S.1 r10)) = false := mb_0.mp q83
        refine mt_aload_n dX2_merge_40 rfl rfl ?_
        refine mt_callV (N := mX2_refused) (Rc := rX2_refused) (As := []) (st := []) dX2_merge_41 (kX2_refused hl C0) sX2_refused mw_446 mKX2 rfl C0 rfl (Nat.le_of_ble_eq_true rfl) ⟨⟨Nat.le_of_ble_eq_true rfl, Nat.le_of_ble_eq_true rfl⟩, Nat.le_of_ble_eq_true rfl, Nat.le_of_ble_eq_true rfl⟩ (fun v84 h85 n86 c87 => ?_) (fun _ _ _ hx => hx.elim)
        obtain ⟨c87a, c87b, c87c, c87d⟩ := c87
        rw [c87a, c87b]
        show mT _ _ _ _ 44 [.ref 0, .int (nI r5), .int (nI r10), .ref (2 + 3 * r5), .ref (2 + 3 * r10)] [.int (-9)] _ _ _ _
        refine mt_ireturn dX2_merge_44 rfl rfl (Nat.le_of_ble_eq_true rfl) (Nat.le_of_ble_eq_true rfl) ?_
        exact cOk.of (x := .int (-9)) (S' := (S.1, S.2.1, S.2.2.1, S.2.2.2.1 + nI 1, S.2.2.2.2)) (by simp only [sp_merge, dAt_s hr5 (by decide), dAt_s hr10 (by decide), if_neg hrq, if_neg (bt_nf q72), if_pos q83] <;> first | rfl | simp_all) rfl rfl ⟨c87c, ⟨cg, (c87d (1) (by omega)).trans C1, C1g⟩, (c87d (14) (by omega)).trans C14, cRows0 CR (fun j j1 j2 => c87d j (by omega)), ⟨_, (HK15).fr (fun j j1 j2 => c87d j (by omega))⟩, ⟨_, (HK18).fr (fun j j1 j2 => c87d j (by omega))⟩, ⟨_, (HK21).fr (fun j j1 j2 => c87d j (by omega))⟩, ⟨_, (HK24).fr (fun j j1 j2 => c87d j (by omega))⟩⟩ (fun j hj => c87d j (by omega))
      · have q83 : (q_isRising (S.1 r10)) = true := mb_1.mp q83
        refine mt_aload dX2_merge_28 rfl rfl ?_
        refine mt_getfield mKX1 (i := 3) (by decide) mw_76 dX2_merge_30 ea_82 rfl ?_
        refine mt_aload_n dX2_merge_33 rfl rfl ?_
        refine mt_callV (N := mX1_free) (Rc := rX1_free) (As := []) (st := [.int (nI ((S.1 r10).length))]) dX2_merge_34 (kX1_free hl H66) sX1_free mw_206 mKX1 rfl ea_71 rfl (Nat.le_of_ble_eq_true rfl) ⟨⟨Nat.le_of_ble_eq_true rfl, Nat.le_of_ble_eq_true rfl⟩, Nat.le_of_ble_eq_true rfl, Nat.le_of_ble_eq_true rfl⟩ (fun v88 h89 n90 c91 => ?_) (fun _ _ _ hx => hx.elim)
        obtain ⟨c91a, c91b, c91c⟩ := c91
        rw [c91a, c91b, c91c]
        show mT _ _ _ _ 37 [.ref 0, .int (nI r5), .int (nI r10), .ref (2 + 3 * r5), .ref (2 + 3 * r10)] [.int (nI ((rroom r5) - (S.1 r5).length)), .int (nI ((S.1 r10).length))] _ _ _ _
        refine mt_icmp_le dX2_merge_37 (tgt := 45) rfl (fun q92 => ?_) (fun q92 => ?_)
        · have q92 := Int32.not_lt.mpr q92
          have q92 := (not_congr (nI_ltI (by omega) (by omega))).mp q92
          refine mt_aload_n dX2_merge_45 rfl rfl ?_
          refine mt_getfield mKX2 (i := 1) (by decide) mw_113 dX2_merge_46 C0 rfl ?_
          refine mt_getfield mKX0 (i := 1) (by decide) mw_99 dX2_merge_49 C14 rfl ?_
          refine mt_aload_n dX2_merge_52 rfl rfl ?_
          obtain ⟨f_97, g_97, ea_97, ek_97, es_97, ql_97, qr_97, qk_97, qt_97⟩ := id HK18
          refine mt_callV (N := mX1_become) (Rc := rX1_become) (As := [.ref (2 + 3 * r5)]) (st := []) dX2_merge_53 (kX1_become hl HK18 H66 (by omega) (by first | omega | assumption | (simp only [List.length_append, List.length_cons, List.length_nil, span_len, Nat.sub_zero] at *; omega))) sX1_become mw_210 mKX1 rfl ea_97 rfl (Nat.le_of_ble_eq_true rfl) ⟨⟨Nat.le_of_ble_eq_true rfl, Nat.le_of_ble_eq_true rfl⟩, Nat.le_of_ble_eq_true rfl, Nat.le_of_ble_eq_true rfl⟩ (fun v93 h94 n95 c96 => ?_) (fun _ _ _ hx => hx.elim)
          obtain ⟨c96a, c96b, c96c, c96d⟩ := c96
          rw [c96a, c96b]
          show mT _ _ _ _ 56 [.ref 0, .int (nI r5), .int (nI r10), .ref (2 + 3 * r5), .ref (2 + 3 * r10)] [] _ _ _ _
          refine mt_aload_n dX2_merge_56 rfl rfl ?_
          refine mt_aload dX2_merge_57 rfl rfl ?_
          refine mt_aload_n dX2_merge_59 rfl rfl ?_
          refine mt_getfield mKX2 (i := 1) (by decide) mw_113 dX2_merge_60 ((c96d (0) (by omega)).trans C0) rfl ?_
          refine mt_getfield mKX0 (i := 1) (by decide) mw_99 dX2_merge_63 ((c96d (14) (by omega)).trans C14) rfl ?_
          refine mt_aload_n dX2_merge_66 rfl rfl ?_
          refine mt_getfield mKX1 (i := 2) (by decide) mw_74 dX2_merge_67 ((c96d (2 + 3 * r5) (by omega)).trans ea_71) rfl ?_
          have H98 : rowAt h94 (2 + 3 * r10) (rroom r10) (mb (decide (r10 < 2))) (S.1 r10) := (H77).fr (fun j j1 j2 => c96d j (by omega))
          refine mt_callV (N := mX2_bring) (Rc := rX2_bring) (As := [.ref (2 + 3 * r10), .ref 18, .int (mb (decide (r5 < 2)))]) (st := []) dX2_merge_70 (kX2_bring hl ((c96d (0) (by omega)).trans C0) c96c H98 (by omega) (by omega) (by omega) (by first | omega | assumption | (simp only [List.length_append, List.length_cons, List.length_nil, span_len, Nat.sub_zero] at *; omega))) sX2_bring mw_542 mKX2 rfl ((c96d (0) (by omega)).trans C0) rfl (Nat.le_of_ble_eq_true rfl) ⟨⟨Nat.le_of_ble_eq_true rfl, Nat.le_of_ble_eq_true rfl⟩, Nat.le_of_ble_eq_true rfl, Nat.le_of_ble_eq_true rfl⟩ (fun v99 h100 n101 c102 => ?_) (fun _ _ _ hx => hx.elim)
          obtain ⟨c102a, c102b, c102c, c102d, c102e⟩ := c102
          rw [c102a, c102b]
          have blc102 := bringL_len (xs := S.1 r10) (t := decide (r5 < 2)) (ft := decide (r10 < 2)) (ys := S.1 r5) (g := S.2.1)
          show mT _ _ _ _ 73 [.ref 0, .int (nI r5), .int (nI r10), .ref (2 + 3 * r5), .ref (2 + 3 * r10)] [] _ _ _ _
          refine mt_aload_n dX2_merge_73 rfl rfl ?_
          refine mt_getfield mKX2 (i := 1) (by decide) mw_113 dX2_merge_74 c102d rfl ?_
          refine mt_aload_n dX2_merge_77 rfl rfl ?_
          refine mt_getfield mKX1 (i := 3) (by decide) mw_76 dX2_merge_78 ((c102e (2 + 3 * r5) (by omega)).trans ((c96d (2 + 3 * r5) (by omega)).trans ea_71)) rfl ?_
          have H103 : rowAt h100 21 320 (nI 1) zs21 := ((HK21).fr (fun j j1 j2 => c96d j (by omega))).fr (fun j j1 j2 => c102e j (by omega))
          refine mt_callV (N := mX0_weaveJoined) (Rc := rX0_weaveJoined) (As := [.int (nI ((S.1 r5).length))]) (st := []) dX2_merge_81 (kX0_weaveJoined hl ((c102e (14) (by omega)).trans ((c96d (14) (by omega)).trans C14)) c102c H103 (by omega) (by omega) (by omega)) sX0_weaveJoined mw_212 mKX0 rfl ((c102e (14) (by omega)).trans ((c96d (14) (by omega)).trans C14)) rfl (Nat.le_of_ble_eq_true rfl) ⟨⟨Nat.le_of_ble_eq_true rfl, Nat.le_of_ble_eq_true rfl⟩, Nat.le_of_ble_eq_true rfl, Nat.le_of_ble_eq_true rfl⟩ (fun v104 h105 n106 c107 => ?_) (fun _ _ _ hx => hx.elim)
          have wl201 := weave_len (xs := (bringL (S.1 r10) (decide (r5 < 2)) (decide (r10 < 2)) (S.1 r5) S.2.1).1) (m := (S.1 r5).length) (by omega)
          obtain ⟨c107a, c107b, c107c, c107d⟩ := c107
          rw [c107a, c107b]
          have H108 : rowAt h105 21 320 (nI 1) (weave ((bringL (S.1 r10) (decide (r5 < 2)) (decide (r10 < 2)) (S.1 r5) S.2.1).1) ((S.1 r5).length)) := c107c
          show mT _ _ _ _ 84 [.ref 0, .int (nI r5), .int (nI r10), .ref (2 + 3 * r5), .ref (2 + 3 * r10)] [] _ _ _ _
          refine mt_aload_n dX2_merge_84 rfl rfl ?_
          refine mt_aload_n dX2_merge_85 rfl rfl ?_
          refine mt_getfield mKX2 (i := 1) (by decide) mw_113 dX2_merge_86 ((c107d (0) (by omega)).trans c102d) rfl ?_
          refine mt_getfield mKX0 (i := 2) (by decide) mw_101 dX2_merge_89 ((c107d (14) (by omega)).trans ((c102e (14) (by omega)).trans ((c96d (14) (by omega)).trans C14))) rfl ?_
          have H109 : rowAt h105 (2 + 3 * r5) (rroom r5) (mb (decide (r5 < 2))) (S.1 r5) := (((H66).fr (fun j j1 j2 => c96d j (by omega))).fr (fun j j1 j2 => c102e j (by omega))).fr (fun j j1 j2 => c107d j (by omega))
          refine mt_callV (N := mX1_become) (Rc := rX1_become) (As := [.ref 21]) (st := []) dX2_merge_92 (kX1_become hl H109 H108 (by omega) (by first | omega | assumption | (simp only [List.length_append, List.length_cons, List.length_nil, span_len, Nat.sub_zero] at *; omega))) sX1_become mw_210 mKX1 rfl ((c107d (2 + 3 * r5) (by omega)).trans ((c102e (2 + 3 * r5) (by omega)).trans ((c96d (2 + 3 * r5) (by omega)).trans ea_71))) rfl (Nat.le_of_ble_eq_true rfl) ⟨⟨Nat.le_of_ble_eq_true rfl, Nat.le_of_ble_eq_true rfl⟩, Nat.le_of_ble_eq_true rfl, Nat.le_of_ble_eq_true rfl⟩ (fun v110 h111 n112 c113 => ?_) (fun _ _ _ hx => hx.elim)
          obtain ⟨c113a, c113b, c113c, c113d⟩ := c113
          rw [c113a, c113b]
          show mT _ _ _ _ 95 [.ref 0, .int (nI r5), .int (nI r10), .ref (2 + 3 * r5), .ref (2 + 3 * r10)] [] _ _ _ _
          refine mt_aload_n dX2_merge_95 rfl rfl ?_
          refine mt_aload_n dX2_merge_96 rfl rfl ?_
          obtain ⟨f_114, g_114, ea_114, ek_114, es_114, ql_114, qr_114, qk_114, qt_114⟩ := id c113c
          refine mt_getfield mKX1 (i := 3) (by decide) mw_76 dX2_merge_97 ea_114 rfl ?_
          refine mt_callV (N := mX2_done) (Rc := rX2_done) (As := [.int (nI ((weave ((bringL (S.1 r10) (decide (r5 < 2)) (decide (r10 < 2)) (S.1 r5) S.2.1).1) ((S.1 r5).length)).length))]) (st := []) dX2_merge_100 (kX2_done hl ((c113d (0) (by omega)).trans ((c107d (0) (by omega)).trans c102d))) sX2_done mw_430 mKX2 rfl ((c113d (0) (by omega)).trans ((c107d (0) (by omega)).trans c102d)) rfl (Nat.le_of_ble_eq_true rfl) ⟨⟨Nat.le_of_ble_eq_true rfl, Nat.le_of_ble_eq_true rfl⟩, Nat.le_of_ble_eq_true rfl, Nat.le_of_ble_eq_true rfl⟩ (fun v115 h116 n117 c118 => ?_) (fun _ _ _ hx => hx.elim)
          obtain ⟨c118a, c118b, c118c, c118d⟩ := c118
          rw [c118a, c118b]
          show mT _ _ _ _ 103 [.ref 0, .int (nI r5), .int (nI r10), .ref (2 + 3 * r5), .ref (2 + 3 * r10)] [.int (nI ((weave ((bringL (S.1 r10) (decide (r5 < 2)) (decide (r10 < 2)) (S.1 r5) S.2.1).1) ((S.1 r5).length)).length))] _ _ _ _
          refine mt_ireturn dX2_merge_103 rfl rfl (Nat.le_of_ble_eq_true rfl) (Nat.le_of_ble_eq_true rfl) ?_
          exact cOk.of (x := .int (nI ((weave ((bringL (S.1 r10) (decide (r5 < 2)) (decide (r10 < 2)) (S.1 r5) S.2.1).1) ((S.1 r5).length)).length))) (S' := (fun k => if k = r5 then weave ((bringL (S.1 r10) (decide (r5 < 2)) (decide (r10 < 2)) (S.1 r5) S.2.1).1) ((S.1 r5).length) else S.1 k, (bringL (S.1 r10) (decide (r5 < 2)) (decide (r10 < 2)) (S.1 r5) S.2.1).2, S.2.2.1 + nI 1, S.2.2.2.1, S.2.2.2.2)) (by simp only [sp_merge, dAt_s hr5 (by decide), dAt_s hr10 (by decide), if_neg hrq, if_neg (bt_nf q72), if_neg (bt_nf q83), if_neg q92] <;> first | rfl | simp_all) rfl rfl ⟨c118c, ⟨cg, (c118d (1) (by omega)).trans ((c113d (1) (by omega)).trans ((c107d (1) (by omega)).trans ((c102e (1) (by omega)).trans ((c96d (1) (by omega)).trans C1)))), C1g⟩, (c118d (14) (by omega)).trans ((c113d (14) (by omega)).trans ((c107d (14) (by omega)).trans ((c102e (14) (by omega)).trans ((c96d (14) (by omega)).trans C14)))), cRows CR (by omega) ((c113c).fr (fun j j1 j2 => c118d j (by omega))) (fun j j1 j2 j3 => (c118d j (by omega)).trans ((c113d j (by omega)).trans ((c107d j (by omega)).trans ((c102e j (by omega)).trans (c96d j (by omega)))))), ⟨_, (((((HK15).fr (fun j j1 j2 => c96d j (by omega))).fr (fun j j1 j2 => c102e j (by omega))).fr (fun j j1 j2 => c107d j (by omega))).fr (fun j j1 j2 => c113d j (by omega))).fr (fun j j1 j2 => c118d j (by omega))⟩, ⟨_, (((c102c).fr (fun j j1 j2 => c107d j (by omega))).fr (fun j j1 j2 => c113d j (by omega))).fr (fun j j1 j2 => c118d j (by omega))⟩, ⟨_, ((H108).fr (fun j j1 j2 => c113d j (by omega))).fr (fun j j1 j2 => c118d j (by omega))⟩, ⟨_, (((((HK24).fr (fun j j1 j2 => c96d j (by omega))).fr (fun j j1 j2 => c102e j (by omega))).fr (fun j j1 j2 => c107d j (by omega))).fr (fun j j1 j2 => c113d j (by omega))).fr (fun j j1 j2 => c118d j (by omega))⟩⟩ (fun j hj => (c118d j (by omega)).trans ((c113d j (by omega)).trans ((c107d j (by omega)).trans ((c102e j (by omega)).trans (c96d j (by omega))))))
        · have q92 := Int32.not_le.mp q92
          have q92 := (nI_ltI (by omega) (by omega)).mp q92
          refine mt_aload_n dX2_merge_40 rfl rfl ?_
          refine mt_callV (N := mX2_refused) (Rc := rX2_refused) (As := []) (st := []) dX2_merge_41 (kX2_refused hl C0) sX2_refused mw_446 mKX2 rfl C0 rfl (Nat.le_of_ble_eq_true rfl) ⟨⟨Nat.le_of_ble_eq_true rfl, Nat.le_of_ble_eq_true rfl⟩, Nat.le_of_ble_eq_true rfl, Nat.le_of_ble_eq_true rfl⟩ (fun v119 h120 n121 c122 => ?_) (fun _ _ _ hx => hx.elim)
          obtain ⟨c122a, c122b, c122c, c122d⟩ := c122
          rw [c122a, c122b]
          show mT _ _ _ _ 44 [.ref 0, .int (nI r5), .int (nI r10), .ref (2 + 3 * r5), .ref (2 + 3 * r10)] [.int (-9)] _ _ _ _
          refine mt_ireturn dX2_merge_44 rfl rfl (Nat.le_of_ble_eq_true rfl) (Nat.le_of_ble_eq_true rfl) ?_
          exact cOk.of (x := .int (-9)) (S' := (S.1, S.2.1, S.2.2.1, S.2.2.2.1 + nI 1, S.2.2.2.2)) (by simp only [sp_merge, dAt_s hr5 (by decide), dAt_s hr10 (by decide), if_neg hrq, if_neg (bt_nf q72), if_neg (bt_nf q83), if_pos q92] <;> first | rfl | simp_all) rfl rfl ⟨c122c, ⟨cg, (c122d (1) (by omega)).trans C1, C1g⟩, (c122d (14) (by omega)).trans C14, cRows0 CR (fun j j1 j2 => c122d j (by omega)), ⟨_, (HK15).fr (fun j j1 j2 => c122d j (by omega))⟩, ⟨_, (HK18).fr (fun j j1 j2 => c122d j (by omega))⟩, ⟨_, (HK21).fr (fun j j1 j2 => c122d j (by omega))⟩, ⟨_, (HK24).fr (fun j j1 j2 => c122d j (by omega))⟩⟩ (fun j hj => c122d j (by omega))

/-! ===== the class: what is asked of places and rows ===== -/
def sp_many (S : cS) (row : Int32) : Nat × Value × cS := dAt S 4 row fun r => (0, .int (nI (S.1 r).length), S)
abbrev rX2_many : Room := { frames := 7, cells := 1, slots := 6, locals := 111 }
set_option maxRecDepth 100000 in
set_option maxHeartbeats 2000000 in
theorem kX2_many {l : Launch} (hl : l.stackTraces = false) {h : mH} {n : Nat} {S : cS} {row : Int32} (C : cAt h S) : mC l mX2_many rX2_many [.ref 0, .int row] h n (cOk (sp_many S row) h n) (cNo (sp_many S row).1 h n) := by
  obtain ⟨C0, ⟨cg, C1, C1g⟩, C14, CR, ⟨zs15, HK15⟩, ⟨zs18, HK18⟩, ⟨zs21, HK21⟩, ⟨zs24, HK24⟩⟩ := id C
  refine mm_enter hl (by decide +kernel) rfl rfl rfl (Nat.le_of_ble_eq_true rfl) ?_
  show mT _ _ _ _ 0 [.ref 0, .int row] [] _ _ 0 0
  refine mt_aload_n dX2_many_0 rfl rfl ?_
  refine mt_iload_n dX2_many_1 rfl ?_
  refine mt_callV (N := mX2_rowOf) (Rc := rX2_rowOf) (As := [.int row]) (st := []) dX2_many_2 (kX2_rowOf hl C) sX2_rowOf mw_230 mKX2 rfl C0 rfl (Nat.le_of_ble_eq_true rfl) ⟨⟨Nat.le_of_ble_eq_true rfl, Nat.le_of_ble_eq_true rfl⟩, Nat.le_of_ble_eq_true rfl, Nat.le_of_ble_eq_true rfl⟩ (fun v1 h2 n3 c4 => ?_) (fun E h9 n9 hx => mt_out rfl (by obtain ⟨rfl, hq, rfl, rfl⟩ := hx; exact cNo.i (by simp only [sp_many, dAt_n hq])) (Nat.le_of_ble_eq_true rfl) (Nat.le_of_ble_eq_true rfl))
  obtain ⟨r5, hr5, rfl, c4a, c4b, c4c⟩ := c4
  rw [c4a, c4b, c4c]
  have hLr5 := (CR r5 hr5).len
  show mT _ _ _ _ 5 [.ref 0, .int (nI r5)] [.ref (2 + 3 * r5)] _ _ _ _
  obtain ⟨f_6, g_6, ea_6, ek_6, es_6, ql_6, qr_6, qk_6, qt_6⟩ := id CR r5 (by omega)
  refine mt_getfield mKX1 (i := 3) (by decide) mw_76 dX2_many_5 ea_6 rfl ?_
  refine mt_ireturn dX2_many_8 rfl rfl (Nat.le_of_ble_eq_true rfl) (Nat.le_of_ble_eq_true rfl) ?_
  exact cOk.of (x := .int (nI ((S.1 r5).length))) (S' := (S.1, S.2.1, S.2.2.1, S.2.2.2.1, S.2.2.2.2)) (by simp only [sp_many, dAt_s hr5 (by decide)] <;> first | rfl | simp_all) rfl rfl ⟨C0, ⟨cg, C1, C1g⟩, C14, CR, ⟨_, HK15⟩, ⟨_, HK18⟩, ⟨_, HK21⟩, ⟨_, HK24⟩⟩ (fun j hj => rfl)
def sp_isSorted (S : cS) (row : Int32) : Nat × Value × cS := dAt S 4 row fun r => (0, .int (mb (q_isRising (S.1 r))), S)
abbrev rX2_isSorted : Room := { frames := 7, cells := 1, slots := 6, locals := 111 }
set_option maxRecDepth 100000 in
set_option maxHeartbeats 2000000 in
theorem kX2_isSorted {l : Launch} (hl : l.stackTraces = false) {h : mH} {n : Nat} {S : cS} {row : Int32} (C : cAt h S) : mC l mX2_isSorted rX2_isSorted [.ref 0, .int row] h n (cOk (sp_isSorted S row) h n) (cNo (sp_isSorted S row).1 h n) := by
  obtain ⟨C0, ⟨cg, C1, C1g⟩, C14, CR, ⟨zs15, HK15⟩, ⟨zs18, HK18⟩, ⟨zs21, HK21⟩, ⟨zs24, HK24⟩⟩ := id C
  refine mm_enter hl (by decide +kernel) rfl rfl rfl (Nat.le_of_ble_eq_true rfl) ?_
  show mT _ _ _ _ 0 [.ref 0, .int row] [] _ _ 0 0
  refine mt_aload_n dX2_isSorted_0 rfl rfl ?_
  refine mt_iload_n dX2_isSorted_1 rfl ?_
  refine mt_callV (N := mX2_rowOf) (Rc := rX2_rowOf) (As := [.int row]) (st := []) dX2_isSorted_2 (kX2_rowOf hl C) sX2_rowOf mw_230 mKX2 rfl C0 rfl (Nat.le_of_ble_eq_true rfl) ⟨⟨Nat.le_of_ble_eq_true rfl, Nat.le_of_ble_eq_true rfl⟩, Nat.le_of_ble_eq_true rfl, Nat.le_of_ble_eq_true rfl⟩ (fun v1 h2 n3 c4 => ?_) (fun E h9 n9 hx => mt_out rfl (by obtain ⟨rfl, hq, rfl, rfl⟩ := hx; exact cNo.i (by simp only [sp_isSorted, dAt_n hq])) (Nat.le_of_ble_eq_true rfl) (Nat.le_of_ble_eq_true rfl))
  obtain ⟨r5, hr5, rfl, c4a, c4b, c4c⟩ := c4
  rw [c4a, c4b, c4c]
  have hLr5 := (CR r5 hr5).len
  show mT _ _ _ _ 5 [.ref 0, .int (nI r5)] [.ref (2 + 3 * r5)] _ _ _ _
  have H6 : rowAt h (2 + 3 * r5) (rroom r5) (mb (decide (r5 < 2))) (S.1 r5) := CR r5 (by omega)
  obtain ⟨f_11, g_11, ea_11, ek_11, es_11, ql_11, qr_11, qk_11, qt_11⟩ := id H6
  refine mt_callV (N := mX1_isRising) (Rc := rX1_isRising) (As := []) (st := []) dX2_isSorted_5 (kX1_isRising hl H6) sX1_isRising mw_182 mKX1 rfl ea_11 rfl (Nat.le_of_ble_eq_true rfl) ⟨⟨Nat.le_of_ble_eq_true rfl, Nat.le_of_ble_eq_true rfl⟩, Nat.le_of_ble_eq_true rfl, Nat.le_of_ble_eq_true rfl⟩ (fun v7 h8 n9 c10 => ?_) (fun _ _ _ hx => hx.elim)
  obtain ⟨c10a, c10b, c10c⟩ := c10
  rw [c10a, c10b, c10c]
  show mT _ _ _ _ 8 [.ref 0, .int (nI r5)] [.int (mb (q_isRising (S.1 r5)))] _ _ _ _
  refine mt_ireturn dX2_isSorted_8 rfl narrow_mb (Nat.le_of_ble_eq_true rfl) (Nat.le_of_ble_eq_true rfl) ?_
  exact cOk.of (x := .int (mb (q_isRising (S.1 r5)))) (S' := (S.1, S.2.1, S.2.2.1, S.2.2.2.1, S.2.2.2.2)) (by simp only [sp_isSorted, dAt_s hr5 (by decide)] <;> first | rfl | simp_all) rfl rfl ⟨C0, ⟨cg, C1, C1g⟩, C14, CR, ⟨_, HK15⟩, ⟨_, HK18⟩, ⟨_, HK21⟩, ⟨_, HK24⟩⟩ (fun j hj => rfl)
def sp_isFalling (S : cS) (row : Int32) : Nat × Value × cS := dAt S 4 row fun r => (0, .int (mb (q_fallsThroughout (S.1 r))), S)
abbrev rX2_isFalling : Room := { frames := 7, cells := 1, slots := 6, locals := 111 }
set_option maxRecDepth 100000 in
set_option maxHeartbeats 2000000 in
theorem kX2_isFalling {l : Launch} (hl : l.stackTraces = false) {h : mH} {n : Nat} {S : cS} {row : Int32} (C : cAt h S) : mC l mX2_isFalling rX2_isFalling [.ref 0, .int row] h n (cOk (sp_isFalling S row) h n) (cNo (sp_isFalling S row).1 h n) := by
  obtain ⟨C0, ⟨cg, C1, C1g⟩, C14, CR, ⟨zs15, HK15⟩, ⟨zs18, HK18⟩, ⟨zs21, HK21⟩, ⟨zs24, HK24⟩⟩ := id C
  refine mm_enter hl (by decide +kernel) rfl rfl rfl (Nat.le_of_ble_eq_true rfl) ?_
  show mT _ _ _ _ 0 [.ref 0, .int row] [] _ _ 0 0
  refine mt_aload_n dX2_isFalling_0 rfl rfl ?_
  refine mt_iload_n dX2_isFalling_1 rfl ?_
  refine mt_callV (N := mX2_rowOf) (Rc := rX2_rowOf) (As := [.int row]) (st := []) dX2_isFalling_2 (kX2_rowOf hl C) sX2_rowOf mw_230 mKX2 rfl C0 rfl (Nat.le_of_ble_eq_true rfl) ⟨⟨Nat.le_of_ble_eq_true rfl, Nat.le_of_ble_eq_true rfl⟩, Nat.le_of_ble_eq_true rfl, Nat.le_of_ble_eq_true rfl⟩ (fun v1 h2 n3 c4 => ?_) (fun E h9 n9 hx => mt_out rfl (by obtain ⟨rfl, hq, rfl, rfl⟩ := hx; exact cNo.i (by simp only [sp_isFalling, dAt_n hq])) (Nat.le_of_ble_eq_true rfl) (Nat.le_of_ble_eq_true rfl))
  obtain ⟨r5, hr5, rfl, c4a, c4b, c4c⟩ := c4
  rw [c4a, c4b, c4c]
  have hLr5 := (CR r5 hr5).len
  show mT _ _ _ _ 5 [.ref 0, .int (nI r5)] [.ref (2 + 3 * r5)] _ _ _ _
  have H6 : rowAt h (2 + 3 * r5) (rroom r5) (mb (decide (r5 < 2))) (S.1 r5) := CR r5 (by omega)
  obtain ⟨f_11, g_11, ea_11, ek_11, es_11, ql_11, qr_11, qk_11, qt_11⟩ := id H6
  refine mt_callV (N := mX1_fallsThroughout) (Rc := rX1_fallsThroughout) (As := []) (st := []) dX2_isFalling_5 (kX1_fallsThroughout hl H6) sX1_fallsThroughout mw_913 mKX1 rfl ea_11 rfl (Nat.le_of_ble_eq_true rfl) ⟨⟨Nat.le_of_ble_eq_true rfl, Nat.le_of_ble_eq_true rfl⟩, Nat.le_of_ble_eq_true rfl, Nat.le_of_ble_eq_true rfl⟩ (fun v7 h8 n9 c10 => ?_) (fun _ _ _ hx => hx.elim)
  obtain ⟨c10a, c10b, c10c⟩ := c10
  rw [c10a, c10b, c10c]
  show mT _ _ _ _ 8 [.ref 0, .int (nI r5)] [.int (mb (q_fallsThroughout (S.1 r5)))] _ _ _ _
  refine mt_ireturn dX2_isFalling_8 rfl narrow_mb (Nat.le_of_ble_eq_true rfl) (Nat.le_of_ble_eq_true rfl) ?_
  exact cOk.of (x := .int (mb (q_fallsThroughout (S.1 r5)))) (S' := (S.1, S.2.1, S.2.2.1, S.2.2.2.1, S.2.2.2.2)) (by simp only [sp_isFalling, dAt_s hr5 (by decide)] <;> first | rfl | simp_all) rfl rfl ⟨C0, ⟨cg, C1, C1g⟩, C14, CR, ⟨_, HK15⟩, ⟨_, HK18⟩, ⟨_, HK21⟩, ⟨_, HK24⟩⟩ (fun j hj => rfl)
def sp_isKept (S : cS) (row : Int32) : Nat × Value × cS := dAt S 4 row fun r => (0, .int (mb (q_keepsStamps (S.1 r))), S)
abbrev rX2_isKept : Room := { frames := 7, cells := 1, slots := 6, locals := 111 }
set_option maxRecDepth 100000 in
set_option maxHeartbeats 2000000 in
theorem kX2_isKept {l : Launch} (hl : l.stackTraces = false) {h : mH} {n : Nat} {S : cS} {row : Int32} (C : cAt h S) : mC l mX2_isKept rX2_isKept [.ref 0, .int row] h n (cOk (sp_isKept S row) h n) (cNo (sp_isKept S row).1 h n) := by
  obtain ⟨C0, ⟨cg, C1, C1g⟩, C14, CR, ⟨zs15, HK15⟩, ⟨zs18, HK18⟩, ⟨zs21, HK21⟩, ⟨zs24, HK24⟩⟩ := id C
  refine mm_enter hl (by decide +kernel) rfl rfl rfl (Nat.le_of_ble_eq_true rfl) ?_
  show mT _ _ _ _ 0 [.ref 0, .int row] [] _ _ 0 0
  refine mt_aload_n dX2_isKept_0 rfl rfl ?_
  refine mt_iload_n dX2_isKept_1 rfl ?_
  refine mt_callV (N := mX2_rowOf) (Rc := rX2_rowOf) (As := [.int row]) (st := []) dX2_isKept_2 (kX2_rowOf hl C) sX2_rowOf mw_230 mKX2 rfl C0 rfl (Nat.le_of_ble_eq_true rfl) ⟨⟨Nat.le_of_ble_eq_true rfl, Nat.le_of_ble_eq_true rfl⟩, Nat.le_of_ble_eq_true rfl, Nat.le_of_ble_eq_true rfl⟩ (fun v1 h2 n3 c4 => ?_) (fun E h9 n9 hx => mt_out rfl (by obtain ⟨rfl, hq, rfl, rfl⟩ := hx; exact cNo.i (by simp only [sp_isKept, dAt_n hq])) (Nat.le_of_ble_eq_true rfl) (Nat.le_of_ble_eq_true rfl))
  obtain ⟨r5, hr5, rfl, c4a, c4b, c4c⟩ := c4
  rw [c4a, c4b, c4c]
  have hLr5 := (CR r5 hr5).len
  show mT _ _ _ _ 5 [.ref 0, .int (nI r5)] [.ref (2 + 3 * r5)] _ _ _ _
  have H6 : rowAt h (2 + 3 * r5) (rroom r5) (mb (decide (r5 < 2))) (S.1 r5) := CR r5 (by omega)
  obtain ⟨f_11, g_11, ea_11, ek_11, es_11, ql_11, qr_11, qk_11, qt_11⟩ := id H6
  refine mt_callV (N := mX1_keepsStamps) (Rc := rX1_keepsStamps) (As := []) (st := []) dX2_isKept_5 (kX1_keepsStamps hl H6) sX1_keepsStamps mw_924 mKX1 rfl ea_11 rfl (Nat.le_of_ble_eq_true rfl) ⟨⟨Nat.le_of_ble_eq_true rfl, Nat.le_of_ble_eq_true rfl⟩, Nat.le_of_ble_eq_true rfl, Nat.le_of_ble_eq_true rfl⟩ (fun v7 h8 n9 c10 => ?_) (fun _ _ _ hx => hx.elim)
  obtain ⟨c10a, c10b, c10c⟩ := c10
  rw [c10a, c10b, c10c]
  show mT _ _ _ _ 8 [.ref 0, .int (nI r5)] [.int (mb (q_keepsStamps (S.1 r5)))] _ _ _ _
  refine mt_ireturn dX2_isKept_8 rfl narrow_mb (Nat.le_of_ble_eq_true rfl) (Nat.le_of_ble_eq_true rfl) ?_
  exact cOk.of (x := .int (mb (q_keepsStamps (S.1 r5)))) (S' := (S.1, S.2.1, S.2.2.1, S.2.2.2.1, S.2.2.2.2)) (by simp only [sp_isKept, dAt_s hr5 (by decide)] <;> first | rfl | simp_all) rfl rfl ⟨C0, ⟨cg, C1, C1g⟩, C14, CR, ⟨_, HK15⟩, ⟨_, HK18⟩, ⟨_, HK21⟩, ⟨_, HK24⟩⟩ (fun j hj => rfl)
def sp_right (S : cS) (row : Int32) : Nat × Value × cS := dAt S 4 row fun r => (0, .int (q_rightPairs (S.1 r)), S)
abbrev rX2_right : Room := { frames := 7, cells := 1, slots := 6, locals := 111 }
set_option maxRecDepth 100000 in
set_option maxHeartbeats 2000000 in
theorem kX2_right {l : Launch} (hl : l.stackTraces = false) {h : mH} {n : Nat} {S : cS} {row : Int32} (C : cAt h S) : mC l mX2_right rX2_right [.ref 0, .int row] h n (cOk (sp_right S row) h n) (cNo (sp_right S row).1 h n) := by
  obtain ⟨C0, ⟨cg, C1, C1g⟩, C14, CR, ⟨zs15, HK15⟩, ⟨zs18, HK18⟩, ⟨zs21, HK21⟩, ⟨zs24, HK24⟩⟩ := id C
  refine mm_enter hl (by decide +kernel) rfl rfl rfl (Nat.le_of_ble_eq_true rfl) ?_
  show mT _ _ _ _ 0 [.ref 0, .int row] [] _ _ 0 0
  refine mt_aload_n dX2_right_0 rfl rfl ?_
  refine mt_iload_n dX2_right_1 rfl ?_
  refine mt_callV (N := mX2_rowOf) (Rc := rX2_rowOf) (As := [.int row]) (st := []) dX2_right_2 (kX2_rowOf hl C) sX2_rowOf mw_230 mKX2 rfl C0 rfl (Nat.le_of_ble_eq_true rfl) ⟨⟨Nat.le_of_ble_eq_true rfl, Nat.le_of_ble_eq_true rfl⟩, Nat.le_of_ble_eq_true rfl, Nat.le_of_ble_eq_true rfl⟩ (fun v1 h2 n3 c4 => ?_) (fun E h9 n9 hx => mt_out rfl (by obtain ⟨rfl, hq, rfl, rfl⟩ := hx; exact cNo.i (by simp only [sp_right, dAt_n hq])) (Nat.le_of_ble_eq_true rfl) (Nat.le_of_ble_eq_true rfl))
  obtain ⟨r5, hr5, rfl, c4a, c4b, c4c⟩ := c4
  rw [c4a, c4b, c4c]
  have hLr5 := (CR r5 hr5).len
  show mT _ _ _ _ 5 [.ref 0, .int (nI r5)] [.ref (2 + 3 * r5)] _ _ _ _
  have H6 : rowAt h (2 + 3 * r5) (rroom r5) (mb (decide (r5 < 2))) (S.1 r5) := CR r5 (by omega)
  obtain ⟨f_11, g_11, ea_11, ek_11, es_11, ql_11, qr_11, qk_11, qt_11⟩ := id H6
  refine mt_callV (N := mX1_rightPairs) (Rc := rX1_rightPairs) (As := []) (st := []) dX2_right_5 (kX1_rightPairs hl H6) sX1_rightPairs mw_186 mKX1 rfl ea_11 rfl (Nat.le_of_ble_eq_true rfl) ⟨⟨Nat.le_of_ble_eq_true rfl, Nat.le_of_ble_eq_true rfl⟩, Nat.le_of_ble_eq_true rfl, Nat.le_of_ble_eq_true rfl⟩ (fun v7 h8 n9 c10 => ?_) (fun _ _ _ hx => hx.elim)
  obtain ⟨c10a, c10b, c10c⟩ := c10
  rw [c10a, c10b, c10c]
  show mT _ _ _ _ 8 [.ref 0, .int (nI r5)] [.int (q_rightPairs (S.1 r5))] _ _ _ _
  refine mt_ireturn dX2_right_8 rfl rfl (Nat.le_of_ble_eq_true rfl) (Nat.le_of_ble_eq_true rfl) ?_
  exact cOk.of (x := .int (q_rightPairs (S.1 r5))) (S' := (S.1, S.2.1, S.2.2.1, S.2.2.2.1, S.2.2.2.2)) (by simp only [sp_right, dAt_s hr5 (by decide)] <;> first | rfl | simp_all) rfl rfl ⟨C0, ⟨cg, C1, C1g⟩, C14, CR, ⟨_, HK15⟩, ⟨_, HK18⟩, ⟨_, HK21⟩, ⟨_, HK24⟩⟩ (fun j hj => rfl)
def sp_runs (S : cS) (row : Int32) : Nat × Value × cS := dAt S 4 row fun r => (0, .int (q_runsInAll (S.1 r)), S)
abbrev rX2_runs : Room := { frames := 7, cells := 1, slots := 6, locals := 111 }
set_option maxRecDepth 100000 in
set_option maxHeartbeats 2000000 in
theorem kX2_runs {l : Launch} (hl : l.stackTraces = false) {h : mH} {n : Nat} {S : cS} {row : Int32} (C : cAt h S) : mC l mX2_runs rX2_runs [.ref 0, .int row] h n (cOk (sp_runs S row) h n) (cNo (sp_runs S row).1 h n) := by
  obtain ⟨C0, ⟨cg, C1, C1g⟩, C14, CR, ⟨zs15, HK15⟩, ⟨zs18, HK18⟩, ⟨zs21, HK21⟩, ⟨zs24, HK24⟩⟩ := id C
  refine mm_enter hl (by decide +kernel) rfl rfl rfl (Nat.le_of_ble_eq_true rfl) ?_
  show mT _ _ _ _ 0 [.ref 0, .int row] [] _ _ 0 0
  refine mt_aload_n dX2_runs_0 rfl rfl ?_
  refine mt_iload_n dX2_runs_1 rfl ?_
  refine mt_callV (N := mX2_rowOf) (Rc := rX2_rowOf) (As := [.int row]) (st := []) dX2_runs_2 (kX2_rowOf hl C) sX2_rowOf mw_230 mKX2 rfl C0 rfl (Nat.le_of_ble_eq_true rfl) ⟨⟨Nat.le_of_ble_eq_true rfl, Nat.le_of_ble_eq_true rfl⟩, Nat.le_of_ble_eq_true rfl, Nat.le_of_ble_eq_true rfl⟩ (fun v1 h2 n3 c4 => ?_) (fun E h9 n9 hx => mt_out rfl (by obtain ⟨rfl, hq, rfl, rfl⟩ := hx; exact cNo.i (by simp only [sp_runs, dAt_n hq])) (Nat.le_of_ble_eq_true rfl) (Nat.le_of_ble_eq_true rfl))
  obtain ⟨r5, hr5, rfl, c4a, c4b, c4c⟩ := c4
  rw [c4a, c4b, c4c]
  have hLr5 := (CR r5 hr5).len
  show mT _ _ _ _ 5 [.ref 0, .int (nI r5)] [.ref (2 + 3 * r5)] _ _ _ _
  have H6 : rowAt h (2 + 3 * r5) (rroom r5) (mb (decide (r5 < 2))) (S.1 r5) := CR r5 (by omega)
  obtain ⟨f_11, g_11, ea_11, ek_11, es_11, ql_11, qr_11, qk_11, qt_11⟩ := id H6
  refine mt_callV (N := mX1_runsInAll) (Rc := rX1_runsInAll) (As := []) (st := []) dX2_runs_5 (kX1_runsInAll hl H6) sX1_runsInAll mw_336 mKX1 rfl ea_11 rfl (Nat.le_of_ble_eq_true rfl) ⟨⟨Nat.le_of_ble_eq_true rfl, Nat.le_of_ble_eq_true rfl⟩, Nat.le_of_ble_eq_true rfl, Nat.le_of_ble_eq_true rfl⟩ (fun v7 h8 n9 c10 => ?_) (fun _ _ _ hx => hx.elim)
  obtain ⟨c10a, c10b, c10c⟩ := c10
  rw [c10a, c10b, c10c]
  show mT _ _ _ _ 8 [.ref 0, .int (nI r5)] [.int (q_runsInAll (S.1 r5))] _ _ _ _
  refine mt_ireturn dX2_runs_8 rfl rfl (Nat.le_of_ble_eq_true rfl) (Nat.le_of_ble_eq_true rfl) ?_
  exact cOk.of (x := .int (q_runsInAll (S.1 r5))) (S' := (S.1, S.2.1, S.2.2.1, S.2.2.2.1, S.2.2.2.2)) (by simp only [sp_runs, dAt_s hr5 (by decide)] <;> first | rfl | simp_all) rfl rfl ⟨C0, ⟨cg, C1, C1g⟩, C14, CR, ⟨_, HK15⟩, ⟨_, HK18⟩, ⟨_, HK21⟩, ⟨_, HK24⟩⟩ (fun j hj => rfl)
def sp_longest (S : cS) (row : Int32) : Nat × Value × cS := dAt S 4 row fun r => (0, .int (q_longestRun (S.1 r)), S)
abbrev rX2_longest : Room := { frames := 7, cells := 1, slots := 6, locals := 111 }
set_option maxRecDepth 100000 in
set_option maxHeartbeats 2000000 in
theorem kX2_longest {l : Launch} (hl : l.stackTraces = false) {h : mH} {n : Nat} {S : cS} {row : Int32} (C : cAt h S) : mC l mX2_longest rX2_longest [.ref 0, .int row] h n (cOk (sp_longest S row) h n) (cNo (sp_longest S row).1 h n) := by
  obtain ⟨C0, ⟨cg, C1, C1g⟩, C14, CR, ⟨zs15, HK15⟩, ⟨zs18, HK18⟩, ⟨zs21, HK21⟩, ⟨zs24, HK24⟩⟩ := id C
  refine mm_enter hl (by decide +kernel) rfl rfl rfl (Nat.le_of_ble_eq_true rfl) ?_
  show mT _ _ _ _ 0 [.ref 0, .int row] [] _ _ 0 0
  refine mt_aload_n dX2_longest_0 rfl rfl ?_
  refine mt_iload_n dX2_longest_1 rfl ?_
  refine mt_callV (N := mX2_rowOf) (Rc := rX2_rowOf) (As := [.int row]) (st := []) dX2_longest_2 (kX2_rowOf hl C) sX2_rowOf mw_230 mKX2 rfl C0 rfl (Nat.le_of_ble_eq_true rfl) ⟨⟨Nat.le_of_ble_eq_true rfl, Nat.le_of_ble_eq_true rfl⟩, Nat.le_of_ble_eq_true rfl, Nat.le_of_ble_eq_true rfl⟩ (fun v1 h2 n3 c4 => ?_) (fun E h9 n9 hx => mt_out rfl (by obtain ⟨rfl, hq, rfl, rfl⟩ := hx; exact cNo.i (by simp only [sp_longest, dAt_n hq])) (Nat.le_of_ble_eq_true rfl) (Nat.le_of_ble_eq_true rfl))
  obtain ⟨r5, hr5, rfl, c4a, c4b, c4c⟩ := c4
  rw [c4a, c4b, c4c]
  have hLr5 := (CR r5 hr5).len
  show mT _ _ _ _ 5 [.ref 0, .int (nI r5)] [.ref (2 + 3 * r5)] _ _ _ _
  have H6 : rowAt h (2 + 3 * r5) (rroom r5) (mb (decide (r5 < 2))) (S.1 r5) := CR r5 (by omega)
  obtain ⟨f_11, g_11, ea_11, ek_11, es_11, ql_11, qr_11, qk_11, qt_11⟩ := id H6
  refine mt_callV (N := mX1_longestRun) (Rc := rX1_longestRun) (As := []) (st := []) dX2_longest_5 (kX1_longestRun hl H6) sX1_longestRun mw_344 mKX1 rfl ea_11 rfl (Nat.le_of_ble_eq_true rfl) ⟨⟨Nat.le_of_ble_eq_true rfl, Nat.le_of_ble_eq_true rfl⟩, Nat.le_of_ble_eq_true rfl, Nat.le_of_ble_eq_true rfl⟩ (fun v7 h8 n9 c10 => ?_) (fun _ _ _ hx => hx.elim)
  obtain ⟨c10a, c10b, c10c⟩ := c10
  rw [c10a, c10b, c10c]
  show mT _ _ _ _ 8 [.ref 0, .int (nI r5)] [.int (q_longestRun (S.1 r5))] _ _ _ _
  refine mt_ireturn dX2_longest_8 rfl rfl (Nat.le_of_ble_eq_true rfl) (Nat.le_of_ble_eq_true rfl) ?_
  exact cOk.of (x := .int (q_longestRun (S.1 r5))) (S' := (S.1, S.2.1, S.2.2.1, S.2.2.2.1, S.2.2.2.2)) (by simp only [sp_longest, dAt_s hr5 (by decide)] <;> first | rfl | simp_all) rfl rfl ⟨C0, ⟨cg, C1, C1g⟩, C14, CR, ⟨_, HK15⟩, ⟨_, HK18⟩, ⟨_, HK21⟩, ⟨_, HK24⟩⟩ (fun j hj => rfl)
def sp_sum (S : cS) (row : Int32) : Nat × Value × cS := dAt S 4 row fun r => (0, .int (q_keysTogether (S.1 r)), S)
abbrev rX2_sum : Room := { frames := 7, cells := 1, slots := 6, locals := 111 }
set_option maxRecDepth 100000 in
set_option maxHeartbeats 2000000 in
theorem kX2_sum {l : Launch} (hl : l.stackTraces = false) {h : mH} {n : Nat} {S : cS} {row : Int32} (C : cAt h S) : mC l mX2_sum rX2_sum [.ref 0, .int row] h n (cOk (sp_sum S row) h n) (cNo (sp_sum S row).1 h n) := by
  obtain ⟨C0, ⟨cg, C1, C1g⟩, C14, CR, ⟨zs15, HK15⟩, ⟨zs18, HK18⟩, ⟨zs21, HK21⟩, ⟨zs24, HK24⟩⟩ := id C
  refine mm_enter hl (by decide +kernel) rfl rfl rfl (Nat.le_of_ble_eq_true rfl) ?_
  show mT _ _ _ _ 0 [.ref 0, .int row] [] _ _ 0 0
  refine mt_aload_n dX2_sum_0 rfl rfl ?_
  refine mt_iload_n dX2_sum_1 rfl ?_
  refine mt_callV (N := mX2_rowOf) (Rc := rX2_rowOf) (As := [.int row]) (st := []) dX2_sum_2 (kX2_rowOf hl C) sX2_rowOf mw_230 mKX2 rfl C0 rfl (Nat.le_of_ble_eq_true rfl) ⟨⟨Nat.le_of_ble_eq_true rfl, Nat.le_of_ble_eq_true rfl⟩, Nat.le_of_ble_eq_true rfl, Nat.le_of_ble_eq_true rfl⟩ (fun v1 h2 n3 c4 => ?_) (fun E h9 n9 hx => mt_out rfl (by obtain ⟨rfl, hq, rfl, rfl⟩ := hx; exact cNo.i (by simp only [sp_sum, dAt_n hq])) (Nat.le_of_ble_eq_true rfl) (Nat.le_of_ble_eq_true rfl))
  obtain ⟨r5, hr5, rfl, c4a, c4b, c4c⟩ := c4
  rw [c4a, c4b, c4c]
  have hLr5 := (CR r5 hr5).len
  show mT _ _ _ _ 5 [.ref 0, .int (nI r5)] [.ref (2 + 3 * r5)] _ _ _ _
  have H6 : rowAt h (2 + 3 * r5) (rroom r5) (mb (decide (r5 < 2))) (S.1 r5) := CR r5 (by omega)
  obtain ⟨f_11, g_11, ea_11, ek_11, es_11, ql_11, qr_11, qk_11, qt_11⟩ := id H6
  refine mt_callV (N := mX1_keysTogether) (Rc := rX1_keysTogether) (As := []) (st := []) dX2_sum_5 (kX1_keysTogether hl H6) sX1_keysTogether mw_355 mKX1 rfl ea_11 rfl (Nat.le_of_ble_eq_true rfl) ⟨⟨Nat.le_of_ble_eq_true rfl, Nat.le_of_ble_eq_true rfl⟩, Nat.le_of_ble_eq_true rfl, Nat.le_of_ble_eq_true rfl⟩ (fun v7 h8 n9 c10 => ?_) (fun _ _ _ hx => hx.elim)
  obtain ⟨c10a, c10b, c10c⟩ := c10
  rw [c10a, c10b, c10c]
  show mT _ _ _ _ 8 [.ref 0, .int (nI r5)] [.int (q_keysTogether (S.1 r5))] _ _ _ _
  refine mt_ireturn dX2_sum_8 rfl rfl (Nat.le_of_ble_eq_true rfl) (Nat.le_of_ble_eq_true rfl) ?_
  exact cOk.of (x := .int (q_keysTogether (S.1 r5))) (S' := (S.1, S.2.1, S.2.2.1, S.2.2.2.1, S.2.2.2.2)) (by simp only [sp_sum, dAt_s hr5 (by decide)] <;> first | rfl | simp_all) rfl rfl ⟨C0, ⟨cg, C1, C1g⟩, C14, CR, ⟨_, HK15⟩, ⟨_, HK18⟩, ⟨_, HK21⟩, ⟨_, HK24⟩⟩ (fun j hj => rfl)
def sp_ties (S : cS) (row : Int32) : Nat × Value × cS := dAt S 4 row fun r => (0, .int (q_tiedPairsOfSorted (msort (S.1 r)).1), S)
abbrev rX2_ties : Room := { frames := 7, cells := 1, slots := 6, locals := 123 }
set_option maxRecDepth 100000 in
set_option maxHeartbeats 2000000 in
theorem kX2_ties {l : Launch} (hl : l.stackTraces = false) {h : mH} {n : Nat} {S : cS} {row : Int32} (C : cAt h S) : mC l mX2_ties rX2_ties [.ref 0, .int row] h n (cOk (sp_ties S row) h n) (cNo (sp_ties S row).1 h n) := by
  obtain ⟨C0, ⟨cg, C1, C1g⟩, C14, CR, ⟨zs15, HK15⟩, ⟨zs18, HK18⟩, ⟨zs21, HK21⟩, ⟨zs24, HK24⟩⟩ := id C
  refine mm_enter hl (by decide +kernel) rfl rfl rfl (Nat.le_of_ble_eq_true rfl) ?_
  show mT _ _ _ _ 0 [.ref 0, .int row] [] _ _ 0 0
  refine mt_aload_n dX2_ties_0 rfl rfl ?_
  refine mt_getfield mKX2 (i := 1) (by decide) mw_113 dX2_ties_1 C0 rfl ?_
  refine mt_aload_n dX2_ties_4 rfl rfl ?_
  refine mt_iload_n dX2_ties_5 rfl ?_
  refine mt_callV (N := mX2_rowOf) (Rc := rX2_rowOf) (As := [.int row]) (st := [.ref 14]) dX2_ties_6 (kX2_rowOf hl C) sX2_rowOf mw_230 mKX2 rfl C0 rfl (Nat.le_of_ble_eq_true rfl) ⟨⟨Nat.le_of_ble_eq_true rfl, Nat.le_of_ble_eq_true rfl⟩, Nat.le_of_ble_eq_true rfl, Nat.le_of_ble_eq_true rfl⟩ (fun v1 h2 n3 c4 => ?_) (fun E h9 n9 hx => mt_out rfl (by obtain ⟨rfl, hq, rfl, rfl⟩ := hx; exact cNo.i (by simp only [sp_ties, dAt_n hq])) (Nat.le_of_ble_eq_true rfl) (Nat.le_of_ble_eq_true rfl))
  obtain ⟨r5, hr5, rfl, c4a, c4b, c4c⟩ := c4
  rw [c4a, c4b, c4c]
  have hLr5 := (CR r5 hr5).len
  show mT _ _ _ _ 9 [.ref 0, .int (nI r5)] [.ref (2 + 3 * r5), .ref 14] _ _ _ _
  refine mt_aload_n dX2_ties_9 rfl rfl ?_
  refine mt_getfield mKX2 (i := 1) (by decide) mw_113 dX2_ties_10 C0 rfl ?_
  refine mt_getfield mKX0 (i := 0) (by decide) mw_97 dX2_ties_13 C14 rfl ?_
  have H6 : rowAt h (2 + 3 * r5) (rroom r5) (mb (decide (r5 < 2))) (S.1 r5) := CR r5 (by omega)
  refine mt_callV (N := mX0_sortUp) (Rc := rX0_sortUp) (As := [.ref (2 + 3 * r5), .ref 15]) (st := []) dX2_ties_16 (kX0_sortUp hl C14 HK15 H6 HK24 (by omega) (by omega) (by omega) (by omega)) sX0_sortUp mw_143 mKX0 rfl C14 rfl (Nat.le_of_ble_eq_true rfl) ⟨⟨Nat.le_of_ble_eq_true rfl, Nat.le_of_ble_eq_true rfl⟩, Nat.le_of_ble_eq_true rfl, Nat.le_of_ble_eq_true rfl⟩ (fun v7 h8 n9 c10 => ?_) (fun _ _ _ hx => hx.elim)
  obtain ⟨c10a, c10b, c10c, ⟨c10z, c10d⟩, c10e⟩ := c10
  rw [c10a, c10b]
  have c10f : ∀ j, ((j < 15 ∨ 15 + 3 ≤ j) ∧ (j < 24 ∨ 24 + 3 ≤ j)) → h8 j = h j := fun j hj => c10e j hj.1 hj.2
  have mlc10 := msort_len (ys := S.1 r5)
  show mT _ _ _ _ 19 [.ref 0, .int (nI r5)] [.int ((msort (S.1 r5)).2)] _ _ _ _
  refine mt_pop dX2_ties_19 rfl ?_
  refine mt_aload_n dX2_ties_20 rfl rfl ?_
  refine mt_getfield mKX2 (i := 1) (by decide) mw_113 dX2_ties_21 ((c10f (0) (by omega)).trans C0) rfl ?_
  refine mt_getfield mKX0 (i := 0) (by decide) mw_97 dX2_ties_24 ((c10f (14) (by omega)).trans C14) rfl ?_
  obtain ⟨f_15, g_15, ea_15, ek_15, es_15, ql_15, qr_15, qk_15, qt_15⟩ := id c10c
  refine mt_callV (N := mX1_tiedPairsOfSorted) (Rc := rX1_tiedPairsOfSorted) (As := []) (st := []) dX2_ties_27 (kX1_tiedPairsOfSorted hl c10c) sX1_tiedPairsOfSorted mw_190 mKX1 rfl ea_15 rfl (Nat.le_of_ble_eq_true rfl) ⟨⟨Nat.le_of_ble_eq_true rfl, Nat.le_of_ble_eq_true rfl⟩, Nat.le_of_ble_eq_true rfl, Nat.le_of_ble_eq_true rfl⟩ (fun v11 h12 n13 c14 => ?_) (fun _ _ _ hx => hx.elim)
  obtain ⟨c14a, c14b, c14c⟩ := c14
  rw [c14a, c14b, c14c]
  show mT _ _ _ _ 30 [.ref 0, .int (nI r5)] [.int (q_tiedPairsOfSorted ((msort (S.1 r5)).1))] _ _ _ _
  refine mt_ireturn dX2_ties_30 rfl rfl (Nat.le_of_ble_eq_true rfl) (Nat.le_of_ble_eq_true rfl) ?_
  exact cOk.of (x := .int (q_tiedPairsOfSorted ((msort (S.1 r5)).1))) (S' := (S.1, S.2.1, S.2.2.1, S.2.2.2.1, S.2.2.2.2)) (by simp only [sp_ties, dAt_s hr5 (by decide)] <;> first | rfl | simp_all) rfl rfl ⟨(c10f (0) (by omega)).trans C0, ⟨cg, (c10f (1) (by omega)).trans C1, C1g⟩, (c10f (14) (by omega)).trans C14, cRows0 CR (fun j j1 j2 => c10f j (by omega)), ⟨_, c10c⟩, ⟨_, (HK18).fr (fun j j1 j2 => c10f j (by omega))⟩, ⟨_, (HK21).fr (fun j j1 j2 => c10f j (by omega))⟩, ⟨_, c10d⟩⟩ (fun j hj => c10f j (by omega))
def sp_unlike (S : cS) (row : Int32) : Nat × Value × cS := dAt S 4 row fun r => (0, .int (q_unlikeKeysOfSorted (msort (S.1 r)).1), S)
abbrev rX2_unlike : Room := { frames := 7, cells := 1, slots := 6, locals := 123 }
set_option maxRecDepth 100000 in
set_option maxHeartbeats 2000000 in
theorem kX2_unlike {l : Launch} (hl : l.stackTraces = false) {h : mH} {n : Nat} {S : cS} {row : Int32} (C : cAt h S) : mC l mX2_unlike rX2_unlike [.ref 0, .int row] h n (cOk (sp_unlike S row) h n) (cNo (sp_unlike S row).1 h n) := by
  obtain ⟨C0, ⟨cg, C1, C1g⟩, C14, CR, ⟨zs15, HK15⟩, ⟨zs18, HK18⟩, ⟨zs21, HK21⟩, ⟨zs24, HK24⟩⟩ := id C
  refine mm_enter hl (by decide +kernel) rfl rfl rfl (Nat.le_of_ble_eq_true rfl) ?_
  show mT _ _ _ _ 0 [.ref 0, .int row] [] _ _ 0 0
  refine mt_aload_n dX2_unlike_0 rfl rfl ?_
  refine mt_getfield mKX2 (i := 1) (by decide) mw_113 dX2_unlike_1 C0 rfl ?_
  refine mt_aload_n dX2_unlike_4 rfl rfl ?_
  refine mt_iload_n dX2_unlike_5 rfl ?_
  refine mt_callV (N := mX2_rowOf) (Rc := rX2_rowOf) (As := [.int row]) (st := [.ref 14]) dX2_unlike_6 (kX2_rowOf hl C) sX2_rowOf mw_230 mKX2 rfl C0 rfl (Nat.le_of_ble_eq_true rfl) ⟨⟨Nat.le_of_ble_eq_true rfl, Nat.le_of_ble_eq_true rfl⟩, Nat.le_of_ble_eq_true rfl, Nat.le_of_ble_eq_true rfl⟩ (fun v1 h2 n3 c4 => ?_) (fun E h9 n9 hx => mt_out rfl (by obtain ⟨rfl, hq, rfl, rfl⟩ := hx; exact cNo.i (by simp only [sp_unlike, dAt_n hq])) (Nat.le_of_ble_eq_true rfl) (Nat.le_of_ble_eq_true rfl))
  obtain ⟨r5, hr5, rfl, c4a, c4b, c4c⟩ := c4
  rw [c4a, c4b, c4c]
  have hLr5 := (CR r5 hr5).len
  show mT _ _ _ _ 9 [.ref 0, .int (nI r5)] [.ref (2 + 3 * r5), .ref 14] _ _ _ _
  refine mt_aload_n dX2_unlike_9 rfl rfl ?_
  refine mt_getfield mKX2 (i := 1) (by decide) mw_113 dX2_unlike_10 C0 rfl ?_
  refine mt_getfield mKX0 (i := 0) (by decide) mw_97 dX2_unlike_13 C14 rfl ?_
  have H6 : rowAt h (2 + 3 * r5) (rroom r5) (mb (decide (r5 < 2))) (S.1 r5) := CR r5 (by omega)
  refine mt_callV (N := mX0_sortUp) (Rc := rX0_sortUp) (As := [.ref (2 + 3 * r5), .ref 15]) (st := []) dX2_unlike_16 (kX0_sortUp hl C14 HK15 H6 HK24 (by omega) (by omega) (by omega) (by omega)) sX0_sortUp mw_143 mKX0 rfl C14 rfl (Nat.le_of_ble_eq_true rfl) ⟨⟨Nat.le_of_ble_eq_true rfl, Nat.le_of_ble_eq_true rfl⟩, Nat.le_of_ble_eq_true rfl, Nat.le_of_ble_eq_true rfl⟩ (fun v7 h8 n9 c10 => ?_) (fun _ _ _ hx => hx.elim)
  obtain ⟨c10a, c10b, c10c, ⟨c10z, c10d⟩, c10e⟩ := c10
  rw [c10a, c10b]
  have c10f : ∀ j, ((j < 15 ∨ 15 + 3 ≤ j) ∧ (j < 24 ∨ 24 + 3 ≤ j)) → h8 j = h j := fun j hj => c10e j hj.1 hj.2
  have mlc10 := msort_len (ys := S.1 r5)
  show mT _ _ _ _ 19 [.ref 0, .int (nI r5)] [.int ((msort (S.1 r5)).2)] _ _ _ _
  refine mt_pop dX2_unlike_19 rfl ?_
  refine mt_aload_n dX2_unlike_20 rfl rfl ?_
  refine mt_getfield mKX2 (i := 1) (by decide) mw_113 dX2_unlike_21 ((c10f (0) (by omega)).trans C0) rfl ?_
  refine mt_getfield mKX0 (i := 0) (by decide) mw_97 dX2_unlike_24 ((c10f (14) (by omega)).trans C14) rfl ?_
  obtain ⟨f_15, g_15, ea_15, ek_15, es_15, ql_15, qr_15, qk_15, qt_15⟩ := id c10c
  refine mt_callV (N := mX1_unlikeKeysOfSorted) (Rc := rX1_unlikeKeysOfSorted) (As := []) (st := []) dX2_unlike_27 (kX1_unlikeKeysOfSorted hl c10c) sX1_unlikeKeysOfSorted mw_363 mKX1 rfl ea_15 rfl (Nat.le_of_ble_eq_true rfl) ⟨⟨Nat.le_of_ble_eq_true rfl, Nat.le_of_ble_eq_true rfl⟩, Nat.le_of_ble_eq_true rfl, Nat.le_of_ble_eq_true rfl⟩ (fun v11 h12 n13 c14 => ?_) (fun _ _ _ hx => hx.elim)
  obtain ⟨c14a, c14b, c14c⟩ := c14
  rw [c14a, c14b, c14c]
  show mT _ _ _ _ 30 [.ref 0, .int (nI r5)] [.int (q_unlikeKeysOfSorted ((msort (S.1 r5)).1))] _ _ _ _
  refine mt_ireturn dX2_unlike_30 rfl rfl (Nat.le_of_ble_eq_true rfl) (Nat.le_of_ble_eq_true rfl) ?_
  exact cOk.of (x := .int (q_unlikeKeysOfSorted ((msort (S.1 r5)).1))) (S' := (S.1, S.2.1, S.2.2.1, S.2.2.2.1, S.2.2.2.2)) (by simp only [sp_unlike, dAt_s hr5 (by decide)] <;> first | rfl | simp_all) rfl rfl ⟨(c10f (0) (by omega)).trans C0, ⟨cg, (c10f (1) (by omega)).trans C1, C1g⟩, (c10f (14) (by omega)).trans C14, cRows0 CR (fun j j1 j2 => c10f j (by omega)), ⟨_, c10c⟩, ⟨_, (HK18).fr (fun j j1 j2 => c10f j (by omega))⟩, ⟨_, (HK21).fr (fun j j1 j2 => c10f j (by omega))⟩, ⟨_, c10d⟩⟩ (fun j hj => c10f j (by omega))
def sp_most (S : cS) (row : Int32) : Nat × Value × cS := dAt S 4 row fun r => (0, .int (q_commonestKeyOfSorted (msort (S.1 r)).1), S)
abbrev rX2_most : Room := { frames := 7, cells := 1, slots := 6, locals := 123 }
set_option maxRecDepth 100000 in
set_option maxHeartbeats 2000000 in
theorem kX2_most {l : Launch} (hl : l.stackTraces = false) {h : mH} {n : Nat} {S : cS} {row : Int32} (C : cAt h S) : mC l mX2_most rX2_most [.ref 0, .int row] h n (cOk (sp_most S row) h n) (cNo (sp_most S row).1 h n) := by
  obtain ⟨C0, ⟨cg, C1, C1g⟩, C14, CR, ⟨zs15, HK15⟩, ⟨zs18, HK18⟩, ⟨zs21, HK21⟩, ⟨zs24, HK24⟩⟩ := id C
  refine mm_enter hl (by decide +kernel) rfl rfl rfl (Nat.le_of_ble_eq_true rfl) ?_
  show mT _ _ _ _ 0 [.ref 0, .int row] [] _ _ 0 0
  refine mt_aload_n dX2_most_0 rfl rfl ?_
  refine mt_getfield mKX2 (i := 1) (by decide) mw_113 dX2_most_1 C0 rfl ?_
  refine mt_aload_n dX2_most_4 rfl rfl ?_
  refine mt_iload_n dX2_most_5 rfl ?_
  refine mt_callV (N := mX2_rowOf) (Rc := rX2_rowOf) (As := [.int row]) (st := [.ref 14]) dX2_most_6 (kX2_rowOf hl C) sX2_rowOf mw_230 mKX2 rfl C0 rfl (Nat.le_of_ble_eq_true rfl) ⟨⟨Nat.le_of_ble_eq_true rfl, Nat.le_of_ble_eq_true rfl⟩, Nat.le_of_ble_eq_true rfl, Nat.le_of_ble_eq_true rfl⟩ (fun v1 h2 n3 c4 => ?_) (fun E h9 n9 hx => mt_out rfl (by obtain ⟨rfl, hq, rfl, rfl⟩ := hx; exact cNo.i (by simp only [sp_most, dAt_n hq])) (Nat.le_of_ble_eq_true rfl) (Nat.le_of_ble_eq_true rfl))
  obtain ⟨r5, hr5, rfl, c4a, c4b, c4c⟩ := c4
  rw [c4a, c4b, c4c]
  have hLr5 := (CR r5 hr5).len
  show mT _ _ _ _ 9 [.ref 0, .int (nI r5)] [.ref (2 + 3 * r5), .ref 14] _ _ _ _
  refine mt_aload_n dX2_most_9 rfl rfl ?_
  refine mt_getfield mKX2 (i := 1) (by decide) mw_113 dX2_most_10 C0 rfl ?_
  refine mt_getfield mKX0 (i := 0) (by decide) mw_97 dX2_most_13 C14 rfl ?_
  have H6 : rowAt h (2 + 3 * r5) (rroom r5) (mb (decide (r5 < 2))) (S.1 r5) := CR r5 (by omega)
  refine mt_callV (N := mX0_sortUp) (Rc := rX0_sortUp) (As := [.ref (2 + 3 * r5), .ref 15]) (st := []) dX2_most_16 (kX0_sortUp hl C14 HK15 H6 HK24 (by omega) (by omega) (by omega) (by omega)) sX0_sortUp mw_143 mKX0 rfl C14 rfl (Nat.le_of_ble_eq_true rfl) ⟨⟨Nat.le_of_ble_eq_true rfl, Nat.le_of_ble_eq_true rfl⟩, Nat.le_of_ble_eq_true rfl, Nat.le_of_ble_eq_true rfl⟩ (fun v7 h8 n9 c10 => ?_) (fun _ _ _ hx => hx.elim)
  obtain ⟨c10a, c10b, c10c, ⟨c10z, c10d⟩, c10e⟩ := c10
  rw [c10a, c10b]
  have c10f : ∀ j, ((j < 15 ∨ 15 + 3 ≤ j) ∧ (j < 24 ∨ 24 + 3 ≤ j)) → h8 j = h j := fun j hj => c10e j hj.1 hj.2
  have mlc10 := msort_len (ys := S.1 r5)
  show mT _ _ _ _ 19 [.ref 0, .int (nI r5)] [.int ((msort (S.1 r5)).2)] _ _ _ _
  refine mt_pop dX2_most_19 rfl ?_
  refine mt_aload_n dX2_most_20 rfl rfl ?_
  refine mt_getfield mKX2 (i := 1) (by decide) mw_113 dX2_most_21 ((c10f (0) (by omega)).trans C0) rfl ?_
  refine mt_getfield mKX0 (i := 0) (by decide) mw_97 dX2_most_24 ((c10f (14) (by omega)).trans C14) rfl ?_
  obtain ⟨f_15, g_15, ea_15, ek_15, es_15, ql_15, qr_15, qk_15, qt_15⟩ := id c10c
  refine mt_callV (N := mX1_commonestKeyOfSorted) (Rc := rX1_commonestKeyOfSorted) (As := []) (st := []) dX2_most_27 (kX1_commonestKeyOfSorted hl c10c) sX1_commonestKeyOfSorted mw_1015 mKX1 rfl ea_15 rfl (Nat.le_of_ble_eq_true rfl) ⟨⟨Nat.le_of_ble_eq_true rfl, Nat.le_of_ble_eq_true rfl⟩, Nat.le_of_ble_eq_true rfl, Nat.le_of_ble_eq_true rfl⟩ (fun v11 h12 n13 c14 => ?_) (fun _ _ _ hx => hx.elim)
  obtain ⟨c14a, c14b, c14c⟩ := c14
  rw [c14a, c14b, c14c]
  show mT _ _ _ _ 30 [.ref 0, .int (nI r5)] [.int (q_commonestKeyOfSorted ((msort (S.1 r5)).1))] _ _ _ _
  refine mt_ireturn dX2_most_30 rfl rfl (Nat.le_of_ble_eq_true rfl) (Nat.le_of_ble_eq_true rfl) ?_
  exact cOk.of (x := .int (q_commonestKeyOfSorted ((msort (S.1 r5)).1))) (S' := (S.1, S.2.1, S.2.2.1, S.2.2.2.1, S.2.2.2.2)) (by simp only [sp_most, dAt_s hr5 (by decide)] <;> first | rfl | simp_all) rfl rfl ⟨(c10f (0) (by omega)).trans C0, ⟨cg, (c10f (1) (by omega)).trans C1, C1g⟩, (c10f (14) (by omega)).trans C14, cRows0 CR (fun j j1 j2 => c10f j (by omega)), ⟨_, c10c⟩, ⟨_, (HK18).fr (fun j j1 j2 => c10f j (by omega))⟩, ⟨_, (HK21).fr (fun j j1 j2 => c10f j (by omega))⟩, ⟨_, c10d⟩⟩ (fun j hj => c10f j (by omega))
def sp_key (S : cS) (row : Int32) (place : Int32) : Nat × Value × cS := dAt S 4 row fun r => dAt S (S.1 r).length place fun p => (0, .int (xk (S.1 r) p), S)
abbrev rX2_key : Room := { frames := 8, cells := 2, slots := 12, locals := 131 }
set_option maxRecDepth 100000 in
set_option maxHeartbeats 2000000 in
theorem kX2_key {l : Launch} (hl : l.stackTraces = false) {h : mH} {n : Nat} {S : cS} {row : Int32} {place : Int32} (C : cAt h S) : mC l mX2_key rX2_key [.ref 0, .int row, .int place] h n (cOk (sp_key S row place) h n) (cNo (sp_key S row place).1 h n) := by
  obtain ⟨C0, ⟨cg, C1, C1g⟩, C14, CR, ⟨zs15, HK15⟩, ⟨zs18, HK18⟩, ⟨zs21, HK21⟩, ⟨zs24, HK24⟩⟩ := id C
  refine mm_enter hl (by decide +kernel) rfl rfl rfl (Nat.le_of_ble_eq_true rfl) ?_
  show mT _ _ _ _ 0 [.ref 0, .int row, .int place, .double 0] [] _ _ 0 0
  refine mt_aload_n dX2_key_0 rfl rfl ?_
  refine mt_iload_n dX2_key_1 rfl ?_
  refine mt_callV (N := mX2_rowOf) (Rc := rX2_rowOf) (As := [.int row]) (st := []) dX2_key_2 (kX2_rowOf hl C) sX2_rowOf mw_230 mKX2 rfl C0 rfl (Nat.le_of_ble_eq_true rfl) ⟨⟨Nat.le_of_ble_eq_true rfl, Nat.le_of_ble_eq_true rfl⟩, Nat.le_of_ble_eq_true rfl, Nat.le_of_ble_eq_true rfl⟩ (fun v1 h2 n3 c4 => ?_) (fun E h9 n9 hx => mt_out rfl (by obtain ⟨rfl, hq, rfl, rfl⟩ := hx; exact cNo.i (by simp only [sp_key, dAt_n hq])) (Nat.le_of_ble_eq_true rfl) (Nat.le_of_ble_eq_true rfl))
  obtain ⟨r5, hr5, rfl, c4a, c4b, c4c⟩ := c4
  rw [c4a, c4b, c4c]
  have hLr5 := (CR r5 hr5).len
  show mT _ _ _ _ 5 [.ref 0, .int (nI r5), .int place, .double 0] [.ref (2 + 3 * r5)] _ _ _ _
  refine mp_astore_n dX2_key_5 (ls' := [.ref 0, .int (nI r5), .int place, .ref (2 + 3 * r5)]) rfl rfl (by decide) rfl ?_
  refine mt_aload_n dX2_key_6 rfl rfl ?_
  refine mt_iload_n dX2_key_7 rfl ?_
  have H6 : rowAt h (2 + 3 * r5) (rroom r5) (mb (decide (r5 < 2))) (S.1 r5) := CR r5 (by omega)
  refine mt_callS (N := mX2_demandPlace) (Rc := rX2_demandPlace) (As := [.ref (2 + 3 * r5), .int place]) (st := []) dX2_key_8 (kX2_demandPlace hl H6) sX2_demandPlace mw_457 rfl (Nat.le_of_ble_eq_true rfl) ⟨⟨Nat.le_of_ble_eq_true rfl, Nat.le_of_ble_eq_true rfl⟩, Nat.le_of_ble_eq_true rfl, Nat.le_of_ble_eq_true rfl⟩ (fun v7 h8 n9 c10 => ?_) (fun E h9 n9 hx => mt_out rfl (by obtain ⟨rfl, hq, rfl, rfl⟩ := hx; exact cNo.i (by simp only [sp_key, dAt_n hq, dAt_s hr5 (by decide)])) (Nat.le_of_ble_eq_true rfl) (Nat.le_of_ble_eq_true rfl))
  obtain ⟨p11, hp11, rfl, c10a, c10b, c10c⟩ := c10
  rw [c10a, c10b, c10c]
  have hLp11 := (H6).len
  show mT _ _ _ _ 11 [.ref 0, .int (nI r5), .int (nI p11), .ref (2 + 3 * r5)] [] _ _ _ _
  refine mt_aload_n dX2_key_11 rfl rfl ?_
  obtain ⟨f_12, g_12, ea_12, ek_12, es_12, ql_12, qr_12, qk_12, qt_12⟩ := id H6
  refine mt_getfield mKX1 (i := 0) (by decide) mw_68 dX2_key_12 ea_12 rfl ?_
  refine mt_iload_n dX2_key_15 rfl ?_
  refine mp_iaload dX2_key_16 ek_12 rfl (by omega) (by omega) (v := xk (S.1 r5) p11) (qk_12 _ (by omega)) ?_
  refine mt_ireturn dX2_key_17 rfl rfl (Nat.le_of_ble_eq_true rfl) (Nat.le_of_ble_eq_true rfl) ?_
  exact cOk.of (x := .int (xk (S.1 r5) p11)) (S' := (S.1, S.2.1, S.2.2.1, S.2.2.2.1, S.2.2.2.2)) (by simp only [sp_key, dAt_s hr5 (by decide), dAt_s hp11 (by omega)] <;> first | rfl | simp_all) rfl rfl ⟨C0, ⟨cg, C1, C1g⟩, C14, CR, ⟨_, HK15⟩, ⟨_, HK18⟩, ⟨_, HK21⟩, ⟨_, HK24⟩⟩ (fun j hj => rfl)
def sp_stamp (S : cS) (row : Int32) (place : Int32) : Nat × Value × cS := dAt S 4 row fun r => dAt S (S.1 r).length place fun p => (0, .int (xt (S.1 r) p), S)
abbrev rX2_stamp : Room := { frames := 8, cells := 2, slots := 12, locals := 131 }
set_option maxRecDepth 100000 in
set_option maxHeartbeats 2000000 in
theorem kX2_stamp {l : Launch} (hl : l.stackTraces = false) {h : mH} {n : Nat} {S : cS} {row : Int32} {place : Int32} (C : cAt h S) : mC l mX2_stamp rX2_stamp [.ref 0, .int row, .int place] h n (cOk (sp_stamp S row place) h n) (cNo (sp_stamp S row place).1 h n) := by
  obtain ⟨C0, ⟨cg, C1, C1g⟩, C14, CR, ⟨zs15, HK15⟩, ⟨zs18, HK18⟩, ⟨zs21, HK21⟩, ⟨zs24, HK24⟩⟩ := id C
  refine mm_enter hl (by decide +kernel) rfl rfl rfl (Nat.le_of_ble_eq_true rfl) ?_
  show mT _ _ _ _ 0 [.ref 0, .int row, .int place, .double 0] [] _ _ 0 0
  refine mt_aload_n dX2_stamp_0 rfl rfl ?_
  refine mt_iload_n dX2_stamp_1 rfl ?_
  refine mt_callV (N := mX2_rowOf) (Rc := rX2_rowOf) (As := [.int row]) (st := []) dX2_stamp_2 (kX2_rowOf hl C) sX2_rowOf mw_230 mKX2 rfl C0 rfl (Nat.le_of_ble_eq_true rfl) ⟨⟨Nat.le_of_ble_eq_true rfl, Nat.le_of_ble_eq_true rfl⟩, Nat.le_of_ble_eq_true rfl, Nat.le_of_ble_eq_true rfl⟩ (fun v1 h2 n3 c4 => ?_) (fun E h9 n9 hx => mt_out rfl (by obtain ⟨rfl, hq, rfl, rfl⟩ := hx; exact cNo.i (by simp only [sp_stamp, dAt_n hq])) (Nat.le_of_ble_eq_true rfl) (Nat.le_of_ble_eq_true rfl))
  obtain ⟨r5, hr5, rfl, c4a, c4b, c4c⟩ := c4
  rw [c4a, c4b, c4c]
  have hLr5 := (CR r5 hr5).len
  show mT _ _ _ _ 5 [.ref 0, .int (nI r5), .int place, .double 0] [.ref (2 + 3 * r5)] _ _ _ _
  refine mp_astore_n dX2_stamp_5 (ls' := [.ref 0, .int (nI r5), .int place, .ref (2 + 3 * r5)]) rfl rfl (by decide) rfl ?_
  refine mt_aload_n dX2_stamp_6 rfl rfl ?_
  refine mt_iload_n dX2_stamp_7 rfl ?_
  have H6 : rowAt h (2 + 3 * r5) (rroom r5) (mb (decide (r5 < 2))) (S.1 r5) := CR r5 (by omega)
  refine mt_callS (N := mX2_demandPlace) (Rc := rX2_demandPlace) (As := [.ref (2 + 3 * r5), .int place]) (st := []) dX2_stamp_8 (kX2_demandPlace hl H6) sX2_demandPlace mw_457 rfl (Nat.le_of_ble_eq_true rfl) ⟨⟨Nat.le_of_ble_eq_true rfl, Nat.le_of_ble_eq_true rfl⟩, Nat.le_of_ble_eq_true rfl, Nat.le_of_ble_eq_true rfl⟩ (fun v7 h8 n9 c10 => ?_) (fun E h9 n9 hx => mt_out rfl (by obtain ⟨rfl, hq, rfl, rfl⟩ := hx; exact cNo.i (by simp only [sp_stamp, dAt_n hq, dAt_s hr5 (by decide)])) (Nat.le_of_ble_eq_true rfl) (Nat.le_of_ble_eq_true rfl))
  obtain ⟨p11, hp11, rfl, c10a, c10b, c10c⟩ := c10
  rw [c10a, c10b, c10c]
  have hLp11 := (H6).len
  show mT _ _ _ _ 11 [.ref 0, .int (nI r5), .int (nI p11), .ref (2 + 3 * r5)] [] _ _ _ _
  refine mt_aload_n dX2_stamp_11 rfl rfl ?_
  obtain ⟨f_12, g_12, ea_12, ek_12, es_12, ql_12, qr_12, qk_12, qt_12⟩ := id H6
  refine mt_getfield mKX1 (i := 1) (by decide) mw_71 dX2_stamp_12 ea_12 rfl ?_
  refine mt_iload_n dX2_stamp_15 rfl ?_
  refine mp_iaload dX2_stamp_16 es_12 rfl (by omega) (by omega) (v := xt (S.1 r5) p11) (qt_12 _ (by omega)) ?_
  refine mt_ireturn dX2_stamp_17 rfl rfl (Nat.le_of_ble_eq_true rfl) (Nat.le_of_ble_eq_true rfl) ?_
  exact cOk.of (x := .int (xt (S.1 r5) p11)) (S' := (S.1, S.2.1, S.2.2.1, S.2.2.2.1, S.2.2.2.2)) (by simp only [sp_stamp, dAt_s hr5 (by decide), dAt_s hp11 (by omega)] <;> first | rfl | simp_all) rfl rfl ⟨C0, ⟨cg, C1, C1g⟩, C14, CR, ⟨_, HK15⟩, ⟨_, HK18⟩, ⟨_, HK21⟩, ⟨_, HK24⟩⟩ (fun j hj => rfl)
def sp_rank (S : cS) (row : Int32) (place : Int32) : Nat × Value × cS := dAt S 4 row fun r => dAt S (S.1 r).length place fun p => (0, .int (nI (rankf (S.1 r) p)), S)
abbrev rX2_rank : Room := { frames := 8, cells := 2, slots := 12, locals := 131 }
set_option maxRecDepth 100000 in
set_option maxHeartbeats 2000000 in
theorem kX2_rank {l : Launch} (hl : l.stackTraces = false) {h : mH} {n : Nat} {S : cS} {row : Int32} {place : Int32} (C : cAt h S) : mC l mX2_rank rX2_rank [.ref 0, .int row, .int place] h n (cOk (sp_rank S row place) h n) (cNo (sp_rank S row place).1 h n) := by
  obtain ⟨C0, ⟨cg, C1, C1g⟩, C14, CR, ⟨zs15, HK15⟩, ⟨zs18, HK18⟩, ⟨zs21, HK21⟩, ⟨zs24, HK24⟩⟩ := id C
  refine mm_enter hl (by decide +kernel) rfl rfl rfl (Nat.le_of_ble_eq_true rfl) ?_
  show mT _ _ _ _ 0 [.ref 0, .int row, .int place, .double 0] [] _ _ 0 0
  refine mt_aload_n dX2_rank_0 rfl rfl ?_
  refine mt_iload_n dX2_rank_1 rfl ?_
  refine mt_callV (N := mX2_rowOf) (Rc := rX2_rowOf) (As := [.int row]) (st := []) dX2_rank_2 (kX2_rowOf hl C) sX2_rowOf mw_230 mKX2 rfl C0 rfl (Nat.le_of_ble_eq_true rfl) ⟨⟨Nat.le_of_ble_eq_true rfl, Nat.le_of_ble_eq_true rfl⟩, Nat.le_of_ble_eq_true rfl, Nat.le_of_ble_eq_true rfl⟩ (fun v1 h2 n3 c4 => ?_) (fun E h9 n9 hx => mt_out rfl (by obtain ⟨rfl, hq, rfl, rfl⟩ := hx; exact cNo.i (by simp only [sp_rank, dAt_n hq])) (Nat.le_of_ble_eq_true rfl) (Nat.le_of_ble_eq_true rfl))
  obtain ⟨r5, hr5, rfl, c4a, c4b, c4c⟩ := c4
  rw [c4a, c4b, c4c]
  have hLr5 := (CR r5 hr5).len
  show mT _ _ _ _ 5 [.ref 0, .int (nI r5), .int place, .double 0] [.ref (2 + 3 * r5)] _ _ _ _
  refine mp_astore_n dX2_rank_5 (ls' := [.ref 0, .int (nI r5), .int place, .ref (2 + 3 * r5)]) rfl rfl (by decide) rfl ?_
  refine mt_aload_n dX2_rank_6 rfl rfl ?_
  refine mt_iload_n dX2_rank_7 rfl ?_
  have H6 : rowAt h (2 + 3 * r5) (rroom r5) (mb (decide (r5 < 2))) (S.1 r5) := CR r5 (by omega)
  refine mt_callS (N := mX2_demandPlace) (Rc := rX2_demandPlace) (As := [.ref (2 + 3 * r5), .int place]) (st := []) dX2_rank_8 (kX2_demandPlace hl H6) sX2_demandPlace mw_457 rfl (Nat.le_of_ble_eq_true rfl) ⟨⟨Nat.le_of_ble_eq_true rfl, Nat.le_of_ble_eq_true rfl⟩, Nat.le_of_ble_eq_true rfl, Nat.le_of_ble_eq_true rfl⟩ (fun v7 h8 n9 c10 => ?_) (fun E h9 n9 hx => mt_out rfl (by obtain ⟨rfl, hq, rfl, rfl⟩ := hx; exact cNo.i (by simp only [sp_rank, dAt_n hq, dAt_s hr5 (by decide)])) (Nat.le_of_ble_eq_true rfl) (Nat.le_of_ble_eq_true rfl))
  obtain ⟨p11, hp11, rfl, c10a, c10b, c10c⟩ := c10
  rw [c10a, c10b, c10c]
  have hLp11 := (H6).len
  show mT _ _ _ _ 11 [.ref 0, .int (nI r5), .int (nI p11), .ref (2 + 3 * r5)] [] _ _ _ _
  refine mt_aload_n dX2_rank_11 rfl rfl ?_
  refine mt_iload_n dX2_rank_12 rfl ?_
  obtain ⟨f_16, g_16, ea_16, ek_16, es_16, ql_16, qr_16, qk_16, qt_16⟩ := id H6
  refine mt_callV (N := mX1_rankAt) (Rc := rX1_rankAt) (As := [.int (nI p11)]) (st := []) dX2_rank_13 (kX1_rankAt hl H6 (by omega)) sX1_rankAt mw_589 mKX1 rfl ea_16 rfl (Nat.le_of_ble_eq_true rfl) ⟨⟨Nat.le_of_ble_eq_true rfl, Nat.le_of_ble_eq_true rfl⟩, Nat.le_of_ble_eq_true rfl, Nat.le_of_ble_eq_true rfl⟩ (fun v12 h13 n14 c15 => ?_) (fun _ _ _ hx => hx.elim)
  obtain ⟨c15a, c15b, c15c⟩ := c15
  rw [c15a, c15b, c15c]
  show mT _ _ _ _ 16 [.ref 0, .int (nI r5), .int (nI p11), .ref (2 + 3 * r5)] [.int (nI (rankf (S.1 r5) p11))] _ _ _ _
  refine mt_ireturn dX2_rank_16 rfl rfl (Nat.le_of_ble_eq_true rfl) (Nat.le_of_ble_eq_true rfl) ?_
  exact cOk.of (x := .int (nI (rankf (S.1 r5) p11))) (S' := (S.1, S.2.1, S.2.2.1, S.2.2.2.1, S.2.2.2.2)) (by simp only [sp_rank, dAt_s hr5 (by decide), dAt_s hp11 (by omega)] <;> first | rfl | simp_all) rfl rfl ⟨C0, ⟨cg, C1, C1g⟩, C14, CR, ⟨_, HK15⟩, ⟨_, HK18⟩, ⟨_, HK21⟩, ⟨_, HK24⟩⟩ (fun j hj => rfl)
def sp_would (S : cS) (row : Int32) (place : Int32) : Nat × Value × cS := dAt S 4 row fun r => dAt S (S.1 r).length place fun p => (0, .int (xk (msort (S.1 r)).1 p), S)
abbrev rX2_would : Room := { frames := 8, cells := 2, slots := 12, locals := 131 }
set_option maxRecDepth 100000 in
set_option maxHeartbeats 2000000 in
theorem kX2_would {l : Launch} (hl : l.stackTraces = false) {h : mH} {n : Nat} {S : cS} {row : Int32} {place : Int32} (C : cAt h S) : mC l mX2_would rX2_would [.ref 0, .int row, .int place] h n (cOk (sp_would S row place) h n) (cNo (sp_would S row place).1 h n) := by
  obtain ⟨C0, ⟨cg, C1, C1g⟩, C14, CR, ⟨zs15, HK15⟩, ⟨zs18, HK18⟩, ⟨zs21, HK21⟩, ⟨zs24, HK24⟩⟩ := id C
  refine mm_enter hl (by decide +kernel) rfl rfl rfl (Nat.le_of_ble_eq_true rfl) ?_
  show mT _ _ _ _ 0 [.ref 0, .int row, .int place, .double 0] [] _ _ 0 0
  refine mt_aload_n dX2_would_0 rfl rfl ?_
  refine mt_iload_n dX2_would_1 rfl ?_
  refine mt_callV (N := mX2_rowOf) (Rc := rX2_rowOf) (As := [.int row]) (st := []) dX2_would_2 (kX2_rowOf hl C) sX2_rowOf mw_230 mKX2 rfl C0 rfl (Nat.le_of_ble_eq_true rfl) ⟨⟨Nat.le_of_ble_eq_true rfl, Nat.le_of_ble_eq_true rfl⟩, Nat.le_of_ble_eq_true rfl, Nat.le_of_ble_eq_true rfl⟩ (fun v1 h2 n3 c4 => ?_) (fun E h9 n9 hx => mt_out rfl (by obtain ⟨rfl, hq, rfl, rfl⟩ := hx; exact cNo.i (by simp only [sp_would, dAt_n hq])) (Nat.le_of_ble_eq_true rfl) (Nat.le_of_ble_eq_true rfl))
  obtain ⟨r5, hr5, rfl, c4a, c4b, c4c⟩ := c4
  rw [c4a, c4b, c4c]
  have hLr5 := (CR r5 hr5).len
  show mT _ _ _ _ 5 [.ref 0, .int (nI r5), .int place, .double 0] [.ref (2 + 3 * r5)] _ _ _ _
  refine mp_astore_n dX2_would_5 (ls' := [.ref 0, .int (nI r5), .int place, .ref (2 + 3 * r5)]) rfl rfl (by decide) rfl ?_
  refine mt_aload_n dX2_would_6 rfl rfl ?_
  refine mt_iload_n dX2_would_7 rfl ?_
  have H6 : rowAt h (2 + 3 * r5) (rroom r5) (mb (decide (r5 < 2))) (S.1 r5) := CR r5 (by omega)
  refine mt_callS (N := mX2_demandPlace) (Rc := rX2_demandPlace) (As := [.ref (2 + 3 * r5), .int place]) (st := []) dX2_would_8 (kX2_demandPlace hl H6) sX2_demandPlace mw_457 rfl (Nat.le_of_ble_eq_true rfl) ⟨⟨Nat.le_of_ble_eq_true rfl, Nat.le_of_ble_eq_true rfl⟩, Nat.le_of_ble_eq_true rfl, Nat.le_of_ble_eq_true rfl⟩ (fun v7 h8 n9 c10 => ?_) (fun E h9 n9 hx => mt_out rfl (by obtain ⟨rfl, hq, rfl, rfl⟩ := hx; exact cNo.i (by simp only [sp_would, dAt_n hq, dAt_s hr5 (by decide)])) (Nat.le_of_ble_eq_true rfl) (Nat.le_of_ble_eq_true rfl))
  obtain ⟨p11, hp11, rfl, c10a, c10b, c10c⟩ := c10
  rw [c10a, c10b, c10c]
  have hLp11 := (H6).len
  show mT _ _ _ _ 11 [.ref 0, .int (nI r5), .int (nI p11), .ref (2 + 3 * r5)] [] _ _ _ _
  refine mt_aload_n dX2_would_11 rfl rfl ?_
  refine mt_getfield mKX2 (i := 1) (by decide) mw_113 dX2_would_12 C0 rfl ?_
  refine mt_aload_n dX2_would_15 rfl rfl ?_
  refine mt_aload_n dX2_would_16 rfl rfl ?_
  refine mt_getfield mKX2 (i := 1) (by decide) mw_113 dX2_would_17 C0 rfl ?_
  refine mt_getfield mKX0 (i := 0) (by decide) mw_97 dX2_would_20 C14 rfl ?_
  refine mt_callV (N := mX0_sortUp) (Rc := rX0_sortUp) (As := [.ref (2 + 3 * r5), .ref 15]) (st := []) dX2_would_23 (kX0_sortUp hl C14 HK15 H6 HK24 (by omega) (by omega) (by omega) (by omega)) sX0_sortUp mw_143 mKX0 rfl C14 rfl (Nat.le_of_ble_eq_true rfl) ⟨⟨Nat.le_of_ble_eq_true rfl, Nat.le_of_ble_eq_true rfl⟩, Nat.le_of_ble_eq_true rfl, Nat.le_of_ble_eq_true rfl⟩ (fun v12 h13 n14 c15 => ?_) (fun _ _ _ hx => hx.elim)
  obtain ⟨c15a, c15b, c15c, ⟨c15z, c15d⟩, c15e⟩ := c15
  rw [c15a, c15b]
  have c15f : ∀ j, ((j < 15 ∨ 15 + 3 ≤ j) ∧ (j < 24 ∨ 24 + 3 ≤ j)) → h13 j = h j := fun j hj => c15e j hj.1 hj.2
  have mlc15 := msort_len (ys := S.1 r5)
  show mT _ _ _ _ 26 [.ref 0, .int (nI r5), .int (nI p11), .ref (2 + 3 * r5)] [.int ((msort (S.1 r5)).2)] _ _ _ _
  refine mt_pop dX2_would_26 rfl ?_
  refine mt_aload_n dX2_would_27 rfl rfl ?_
  refine mt_getfield mKX2 (i := 1) (by decide) mw_113 dX2_would_28 ((c15f (0) (by omega)).trans C0) rfl ?_
  refine mt_getfield mKX0 (i := 0) (by decide) mw_97 dX2_would_31 ((c15f (14) (by omega)).trans C14) rfl ?_
  obtain ⟨f_16, g_16, ea_16, ek_16, es_16, ql_16, qr_16, qk_16, qt_16⟩ := id c15c
  refine mt_getfield mKX1 (i := 0) (by decide) mw_68 dX2_would_34 ea_16 rfl ?_
  refine mt_iload_n dX2_would_37 rfl ?_
  refine mp_iaload dX2_would_38 ek_16 rfl (by omega) (by omega) (v := xk ((msort (S.1 r5)).1) p11) (qk_16 _ (by omega)) ?_
  refine mt_ireturn dX2_would_39 rfl rfl (Nat.le_of_ble_eq_true rfl) (Nat.le_of_ble_eq_true rfl) ?_
  exact cOk.of (x := .int (xk ((msort (S.1 r5)).1) p11)) (S' := (S.1, S.2.1, S.2.2.1, S.2.2.2.1, S.2.2.2.2)) (by simp only [sp_would, dAt_s hr5 (by decide), dAt_s hp11 (by omega)] <;> first | rfl | simp_all) rfl rfl ⟨(c15f (0) (by omega)).trans C0, ⟨cg, (c15f (1) (by omega)).trans C1, C1g⟩, (c15f (14) (by omega)).trans C14, cRows0 CR (fun j j1 j2 => c15f j (by omega)), ⟨_, c15c⟩, ⟨_, (HK18).fr (fun j j1 j2 => c15f j (by omega))⟩, ⟨_, (HK21).fr (fun j j1 j2 => c15f j (by omega))⟩, ⟨_, c15d⟩⟩ (fun j hj => c15f j (by omega))
def sp_wouldStamp (S : cS) (row : Int32) (place : Int32) : Nat × Value × cS := dAt S 4 row fun r => dAt S (S.1 r).length place fun p => (0, .int (xt (msort (S.1 r)).1 p), S)
abbrev rX2_wouldStamp : Room := { frames := 8, cells := 2, slots := 12, locals := 131 }
set_option maxRecDepth 100000 in
set_option maxHeartbeats 2000000 in
theorem kX2_wouldStamp {l : Launch} (hl : l.stackTraces = false) {h : mH} {n : Nat} {S : cS} {row : Int32} {place : Int32} (C : cAt h S) : mC l mX2_wouldStamp rX2_wouldStamp [.ref 0, .int row, .int place] h n (cOk (sp_wouldStamp S row place) h n) (cNo (sp_wouldStamp S row place).1 h n) := by
  obtain ⟨C0, ⟨cg, C1, C1g⟩, C14, CR, ⟨zs15, HK15⟩, ⟨zs18, HK18⟩, ⟨zs21, HK21⟩, ⟨zs24, HK24⟩⟩ := id C
  refine mm_enter hl (by decide +kernel) rfl rfl rfl (Nat.le_of_ble_eq_true rfl) ?_
  show mT _ _ _ _ 0 [.ref 0, .int row, .int place, .double 0] [] _ _ 0 0
  refine mt_aload_n dX2_wouldStamp_0 rfl rfl ?_
  refine mt_iload_n dX2_wouldStamp_1 rfl ?_
  refine mt_callV (N := mX2_rowOf) (Rc := rX2_rowOf) (As := [.int row]) (st := []) dX2_wouldStamp_2 (kX2_rowOf hl C) sX2_rowOf mw_230 mKX2 rfl C0 rfl (Nat.le_of_ble_eq_true rfl) ⟨⟨Nat.le_of_ble_eq_true rfl, Nat.le_of_ble_eq_true rfl⟩, Nat.le_of_ble_eq_true rfl, Nat.le_of_ble_eq_true rfl⟩ (fun v1 h2 n3 c4 => ?_) (fun E h9 n9 hx => mt_out rfl (by obtain ⟨rfl, hq, rfl, rfl⟩ := hx; exact cNo.i (by simp only [sp_wouldStamp, dAt_n hq])) (Nat.le_of_ble_eq_true rfl) (Nat.le_of_ble_eq_true rfl))
  obtain ⟨r5, hr5, rfl, c4a, c4b, c4c⟩ := c4
  rw [c4a, c4b, c4c]
  have hLr5 := (CR r5 hr5).len
  show mT _ _ _ _ 5 [.ref 0, .int (nI r5), .int place, .double 0] [.ref (2 + 3 * r5)] _ _ _ _
  refine mp_astore_n dX2_wouldStamp_5 (ls' := [.ref 0, .int (nI r5), .int place, .ref (2 + 3 * r5)]) rfl rfl (by decide) rfl ?_
  refine mt_aload_n dX2_wouldStamp_6 rfl rfl ?_
  refine mt_iload_n dX2_wouldStamp_7 rfl ?_
  have H6 : rowAt h (2 + 3 * r5) (rroom r5) (mb (decide (r5 < 2))) (S.1 r5) := CR r5 (by omega)
  refine mt_callS (N := mX2_demandPlace) (Rc := rX2_demandPlace) (As := [.ref (2 + 3 * r5), .int place]) (st := []) dX2_wouldStamp_8 (kX2_demandPlace hl H6) sX2_demandPlace mw_457 rfl (Nat.le_of_ble_eq_true rfl) ⟨⟨Nat.le_of_ble_eq_true rfl, Nat.le_of_ble_eq_true rfl⟩, Nat.le_of_ble_eq_true rfl, Nat.le_of_ble_eq_true rfl⟩ (fun v7 h8 n9 c10 => ?_) (fun E h9 n9 hx => mt_out rfl (by obtain ⟨rfl, hq, rfl, rfl⟩ := hx; exact cNo.i (by simp only [sp_wouldStamp, dAt_n hq, dAt_s hr5 (by decide)])) (Nat.le_of_ble_eq_true rfl) (Nat.le_of_ble_eq_true rfl))
  obtain ⟨p11, hp11, rfl, c10a, c10b, c10c⟩ := c10
  rw [c10a, c10b, c10c]
  have hLp11 := (H6).len
  show mT _ _ _ _ 11 [.ref 0, .int (nI r5), .int (nI p11), .ref (2 + 3 * r5)] [] _ _ _ _
  refine mt_aload_n dX2_wouldStamp_11 rfl rfl ?_
  refine mt_getfield mKX2 (i := 1) (by decide) mw_113 dX2_wouldStamp_12 C0 rfl ?_
  refine mt_aload_n dX2_wouldStamp_15 rfl rfl ?_
  refine mt_aload_n dX2_wouldStamp_16 rfl rfl ?_
  refine mt_getfield mKX2 (i := 1) (by decide) mw_113 dX2_wouldStamp_17 C0 rfl ?_
  refine mt_getfield mKX0 (i := 0) (by decide) mw_97 dX2_wouldStamp_20 C14 rfl ?_
  refine mt_callV (N := mX0_sortUp) (Rc := rX0_sortUp) (As := [.ref (2 + 3 * r5), .ref 15]) (st := []) dX2_wouldStamp_23 (kX0_sortUp hl C14 HK15 H6 HK24 (by omega) (by omega) (by omega) (by omega)) sX0_sortUp mw_143 mKX0 rfl C14 rfl (Nat.le_of_ble_eq_true rfl) ⟨⟨Nat.le_of_ble_eq_true rfl, Nat.le_of_ble_eq_true rfl⟩, Nat.le_of_ble_eq_true rfl, Nat.le_of_ble_eq_true rfl⟩ (fun v12 h13 n14 c15 => ?_) (fun _ _ _ hx => hx.elim)
  obtain ⟨c15a, c15b, c15c, ⟨c15z, c15d⟩, c15e⟩ := c15
  rw [c15a, c15b]
  have c15f : ∀ j, ((j < 15 ∨ 15 + 3 ≤ j) ∧ (j < 24 ∨ 24 + 3 ≤ j)) → h13 j = h j := fun j hj => c15e j hj.1 hj.2
  have mlc15 := msort_len (ys := S.1 r5)
  show mT _ _ _ _ 26 [.ref 0, .int (nI r5), .int (nI p11), .ref (2 + 3 * r5)] [.int ((msort (S.1 r5)).2)] _ _ _ _
  refine mt_pop dX2_wouldStamp_26 rfl ?_
  refine mt_aload_n dX2_wouldStamp_27 rfl rfl ?_
  refine mt_getfield mKX2 (i := 1) (by decide) mw_113 dX2_wouldStamp_28 ((c15f (0) (by omega)).trans C0) rfl ?_
  refine mt_getfield mKX0 (i := 0) (by decide) mw_97 dX2_wouldStamp_31 ((c15f (14) (by omega)).trans C14) rfl ?_
  obtain ⟨f_16, g_16, ea_16, ek_16, es_16, ql_16, qr_16, qk_16, qt_16⟩ := id c15c
  refine mt_getfield mKX1 (i := 1) (by decide) mw_71 dX2_wouldStamp_34 ea_16 rfl ?_
  refine mt_iload_n dX2_wouldStamp_37 rfl ?_
  refine mp_iaload dX2_wouldStamp_38 es_16 rfl (by omega) (by omega) (v := xt ((msort (S.1 r5)).1) p11) (qt_16 _ (by omega)) ?_
  refine mt_ireturn dX2_wouldStamp_39 rfl rfl (Nat.le_of_ble_eq_true rfl) (Nat.le_of_ble_eq_true rfl) ?_
  exact cOk.of (x := .int (xt ((msort (S.1 r5)).1) p11)) (S' := (S.1, S.2.1, S.2.2.1, S.2.2.2.1, S.2.2.2.2)) (by simp only [sp_wouldStamp, dAt_s hr5 (by decide), dAt_s hp11 (by omega)] <;> first | rfl | simp_all) rfl rfl ⟨(c15f (0) (by omega)).trans C0, ⟨cg, (c15f (1) (by omega)).trans C1, C1g⟩, (c15f (14) (by omega)).trans C14, cRows0 CR (fun j j1 j2 => c15f j (by omega)), ⟨_, c15c⟩, ⟨_, (HK18).fr (fun j j1 j2 => c15f j (by omega))⟩, ⟨_, (HK21).fr (fun j j1 j2 => c15f j (by omega))⟩, ⟨_, c15d⟩⟩ (fun j hj => c15f j (by omega))
def sp_wrongAt (S : cS) (row : Int32) (place : Int32) : Nat × Value × cS := dAt S 4 row fun r => dAt S (S.1 r).length place fun p => (0, .int (q_wrongPairsWith (S.1 r) p), S)
abbrev rX2_wrongAt : Room := { frames := 8, cells := 2, slots := 12, locals := 131 }
set_option maxRecDepth 100000 in
set_option maxHeartbeats 2000000 in
theorem kX2_wrongAt {l : Launch} (hl : l.stackTraces = false) {h : mH} {n : Nat} {S : cS} {row : Int32} {place : Int32} (C : cAt h S) : mC l mX2_wrongAt rX2_wrongAt [.ref 0, .int row, .int place] h n (cOk (sp_wrongAt S row place) h n) (cNo (sp_wrongAt S row place).1 h n) := by
  obtain ⟨C0, ⟨cg, C1, C1g⟩, C14, CR, ⟨zs15, HK15⟩, ⟨zs18, HK18⟩, ⟨zs21, HK21⟩, ⟨zs24, HK24⟩⟩ := id C
  refine mm_enter hl (by decide +kernel) rfl rfl rfl (Nat.le_of_ble_eq_true rfl) ?_
  show mT _ _ _ _ 0 [.ref 0, .int row, .int place, .double 0] [] _ _ 0 0
  refine mt_aload_n dX2_wrongAt_0 rfl rfl ?_
  refine mt_iload_n dX2_wrongAt_1 rfl ?_
  refine mt_callV (N := mX2_rowOf) (Rc := rX2_rowOf) (As := [.int row]) (st := []) dX2_wrongAt_2 (kX2_rowOf hl C) sX2_rowOf mw_230 mKX2 rfl C0 rfl (Nat.le_of_ble_eq_true rfl) ⟨⟨Nat.le_of_ble_eq_true rfl, Nat.le_of_ble_eq_true rfl⟩, Nat.le_of_ble_eq_true rfl, Nat.le_of_ble_eq_true rfl⟩ (fun v1 h2 n3 c4 => ?_) (fun E h9 n9 hx => mt_out rfl (by obtain ⟨rfl, hq, rfl, rfl⟩ := hx; exact cNo.i (by simp only [sp_wrongAt, dAt_n hq])) (Nat.le_of_ble_eq_true rfl) (Nat.le_of_ble_eq_true rfl))
  obtain ⟨r5, hr5, rfl, c4a, c4b, c4c⟩ := c4
  rw [c4a, c4b, c4c]
  have hLr5 := (CR r5 hr5).len
  show mT _ _ _ _ 5 [.ref 0, .int (nI r5), .int place, .double 0] [.ref (2 + 3 * r5)] _ _ _ _
  refine mp_astore_n dX2_wrongAt_5 (ls' := [.ref 0, .int (nI r5), .int place, .ref (2 + 3 * r5)]) rfl rfl (by decide) rfl ?_
  refine mt_aload_n dX2_wrongAt_6 rfl rfl ?_
  refine mt_iload_n dX2_wrongAt_7 rfl ?_
  have H6 : rowAt h (2 + 3 * r5) (rroom r5) (mb (decide (r5 < 2))) (S.1 r5) := CR r5 (by omega)
  refine mt_callS (N := mX2_demandPlace) (Rc := rX2_demandPlace) (As := [.ref (2 + 3 * r5), .int place]) (st := []) dX2_wrongAt_8 (kX2_demandPlace hl H6) sX2_demandPlace mw_457 rfl (Nat.le_of_ble_eq_true rfl) ⟨⟨Nat.le_of_ble_eq_true rfl, Nat.le_of_ble_eq_true rfl⟩, Nat.le_of_ble_eq_true rfl, Nat.le_of_ble_eq_true rfl⟩ (fun v7 h8 n9 c10 => ?_) (fun E h9 n9 hx => mt_out rfl (by obtain ⟨rfl, hq, rfl, rfl⟩ := hx; exact cNo.i (by simp only [sp_wrongAt, dAt_n hq, dAt_s hr5 (by decide)])) (Nat.le_of_ble_eq_true rfl) (Nat.le_of_ble_eq_true rfl))
  obtain ⟨p11, hp11, rfl, c10a, c10b, c10c⟩ := c10
  rw [c10a, c10b, c10c]
  have hLp11 := (H6).len
  show mT _ _ _ _ 11 [.ref 0, .int (nI r5), .int (nI p11), .ref (2 + 3 * r5)] [] _ _ _ _
  refine mt_aload_n dX2_wrongAt_11 rfl rfl ?_
  refine mt_iload_n dX2_wrongAt_12 rfl ?_
  obtain ⟨f_16, g_16, ea_16, ek_16, es_16, ql_16, qr_16, qk_16, qt_16⟩ := id H6
  refine mt_callV (N := mX1_wrongPairsWith) (Rc := rX1_wrongPairsWith) (As := [.int (nI p11)]) (st := []) dX2_wrongAt_13 (kX1_wrongPairsWith hl H6 (by omega)) sX1_wrongPairsWith mw_611 mKX1 rfl ea_16 rfl (Nat.le_of_ble_eq_true rfl) ⟨⟨Nat.le_of_ble_eq_true rfl, Nat.le_of_ble_eq_true rfl⟩, Nat.le_of_ble_eq_true rfl, Nat.le_of_ble_eq_true rfl⟩ (fun v12 h13 n14 c15 => ?_) (fun _ _ _ hx => hx.elim)
  obtain ⟨c15a, c15b, c15c⟩ := c15
  rw [c15a, c15b, c15c]
  show mT _ _ _ _ 16 [.ref 0, .int (nI r5), .int (nI p11), .ref (2 + 3 * r5)] [.int (q_wrongPairsWith (S.1 r5) p11)] _ _ _ _
  refine mt_ireturn dX2_wrongAt_16 rfl rfl (Nat.le_of_ble_eq_true rfl) (Nat.le_of_ble_eq_true rfl) ?_
  exact cOk.of (x := .int (q_wrongPairsWith (S.1 r5) p11)) (S' := (S.1, S.2.1, S.2.2.1, S.2.2.2.1, S.2.2.2.2)) (by simp only [sp_wrongAt, dAt_s hr5 (by decide), dAt_s hp11 (by omega)] <;> first | rfl | simp_all) rfl rfl ⟨C0, ⟨cg, C1, C1g⟩, C14, CR, ⟨_, HK15⟩, ⟨_, HK18⟩, ⟨_, HK21⟩, ⟨_, HK24⟩⟩ (fun j hj => rfl)
def sp_after (S : cS) (row : Int32) (place : Int32) : Nat × Value × cS := dAt S 4 row fun r => dAt S ((S.1 r).length - 1) place fun p => (0, .int ((msort (S.1 r)).2 + q_wrongerByExchange (S.1 r) p), S)
abbrev rX2_after : Room := { frames := 8, cells := 2, slots := 12, locals := 131 }
set_option maxRecDepth 100000 in
set_option maxHeartbeats 2000000 in
theorem kX2_after {l : Launch} (hl : l.stackTraces = false) {h : mH} {n : Nat} {S : cS} {row : Int32} {place : Int32} (C : cAt h S) : mC l mX2_after rX2_after [.ref 0, .int row, .int place] h n (cOk (sp_after S row place) h n) (cNo (sp_after S row place).1 h n) := by
  obtain ⟨C0, ⟨cg, C1, C1g⟩, C14, CR, ⟨zs15, HK15⟩, ⟨zs18, HK18⟩, ⟨zs21, HK21⟩, ⟨zs24, HK24⟩⟩ := id C
  refine mm_enter hl (by decide +kernel) rfl rfl rfl (Nat.le_of_ble_eq_true rfl) ?_
  show mT _ _ _ _ 0 [.ref 0, .int row, .int place, .double 0] [] _ _ 0 0
  refine mt_aload_n dX2_after_0 rfl rfl ?_
  refine mt_iload_n dX2_after_1 rfl ?_
  refine mt_callV (N := mX2_rowOf) (Rc := rX2_rowOf) (As := [.int row]) (st := []) dX2_after_2 (kX2_rowOf hl C) sX2_rowOf mw_230 mKX2 rfl C0 rfl (Nat.le_of_ble_eq_true rfl) ⟨⟨Nat.le_of_ble_eq_true rfl, Nat.le_of_ble_eq_true rfl⟩, Nat.le_of_ble_eq_true rfl, Nat.le_of_ble_eq_true rfl⟩ (fun v1 h2 n3 c4 => ?_) (fun E h9 n9 hx => mt_out rfl (by obtain ⟨rfl, hq, rfl, rfl⟩ := hx; exact cNo.i (by simp only [sp_after, dAt_n hq])) (Nat.le_of_ble_eq_true rfl) (Nat.le_of_ble_eq_true rfl))
  obtain ⟨r5, hr5, rfl, c4a, c4b, c4c⟩ := c4
  rw [c4a, c4b, c4c]
  have hLr5 := (CR r5 hr5).len
  show mT _ _ _ _ 5 [.ref 0, .int (nI r5), .int place, .double 0] [.ref (2 + 3 * r5)] _ _ _ _
  refine mp_astore_n dX2_after_5 (ls' := [.ref 0, .int (nI r5), .int place, .ref (2 + 3 * r5)]) rfl rfl (by decide) rfl ?_
  refine mt_aload_n dX2_after_6 rfl rfl ?_
  refine mt_iload_n dX2_after_7 rfl ?_
  have H6 : rowAt h (2 + 3 * r5) (rroom r5) (mb (decide (r5 < 2))) (S.1 r5) := CR r5 (by omega)
  refine mt_callS (N := mX2_demandPlaceWithNext) (Rc := rX2_demandPlaceWithNext) (As := [.ref (2 + 3 * r5), .int place]) (st := []) dX2_after_8 (kX2_demandPlaceWithNext hl H6) sX2_demandPlaceWithNext mw_485 rfl (Nat.le_of_ble_eq_true rfl) ⟨⟨Nat.le_of_ble_eq_true rfl, Nat.le_of_ble_eq_true rfl⟩, Nat.le_of_ble_eq_true rfl, Nat.le_of_ble_eq_true rfl⟩ (fun v7 h8 n9 c10 => ?_) (fun E h9 n9 hx => mt_out rfl (by obtain ⟨rfl, hq, rfl, rfl⟩ := hx; exact cNo.i (by simp only [sp_after, dAt_n hq, dAt_s hr5 (by decide)])) (Nat.le_of_ble_eq_true rfl) (Nat.le_of_ble_eq_true rfl))
  obtain ⟨p11, hp11, rfl, c10a, c10b, c10c⟩ := c10
  rw [c10a, c10b, c10c]
  have hLp11 := (H6).len
  show mT _ _ _ _ 11 [.ref 0, .int (nI r5), .int (nI p11), .ref (2 + 3 * r5)] [] _ _ _ _
  refine mt_aload_n dX2_after_11 rfl rfl ?_
  refine mt_getfield mKX2 (i := 1) (by decide) mw_113 dX2_after_12 C0 rfl ?_
  refine mt_aload_n dX2_after_15 rfl rfl ?_
  refine mt_aload_n dX2_after_16 rfl rfl ?_
  refine mt_getfield mKX2 (i := 1) (by decide) mw_113 dX2_after_17 C0 rfl ?_
  refine mt_getfield mKX0 (i := 0) (by decide) mw_97 dX2_after_20 C14 rfl ?_
  refine mt_callV (N := mX0_sortUp) (Rc := rX0_sortUp) (As := [.ref (2 + 3 * r5), .ref 15]) (st := []) dX2_after_23 (kX0_sortUp hl C14 HK15 H6 HK24 (by omega) (by omega) (by omega) (by omega)) sX0_sortUp mw_143 mKX0 rfl C14 rfl (Nat.le_of_ble_eq_true rfl) ⟨⟨Nat.le_of_ble_eq_true rfl, Nat.le_of_ble_eq_true rfl⟩, Nat.le_of_ble_eq_true rfl, Nat.le_of_ble_eq_true rfl⟩ (fun v12 h13 n14 c15 => ?_) (fun _ _ _ hx => hx.elim)
  obtain ⟨c15a, c15b, c15c, ⟨c15z, c15d⟩, c15e⟩ := c15
  rw [c15a, c15b]
  have c15f : ∀ j, ((j < 15 ∨ 15 + 3 ≤ j) ∧ (j < 24 ∨ 24 + 3 ≤ j)) → h13 j = h j := fun j hj => c15e j hj.1 hj.2
  have mlc15 := msort_len (ys := S.1 r5)
  show mT _ _ _ _ 26 [.ref 0, .int (nI r5), .int (nI p11), .ref (2 + 3 * r5)] [.int ((msort (S.1 r5)).2)] _ _ _ _
  refine mt_aload_n dX2_after_26 rfl rfl ?_
  refine mt_iload_n dX2_after_27 rfl ?_
  have H16 : rowAt h13 (2 + 3 * r5) (rroom r5) (mb (decide (r5 < 2))) (S.1 r5) := (H6).fr (fun j j1 j2 => c15f j (by omega))
  obtain ⟨f_21, g_21, ea_21, ek_21, es_21, ql_21, qr_21, qk_21, qt_21⟩ := id H16
  refine mt_callV (N := mX1_wrongerByExchange) (Rc := rX1_wrongerByExchange) (As := [.int (nI p11)]) (st := [.int ((msort (S.1 r5)).2)]) dX2_after_28 (kX1_wrongerByExchange hl H16 (by omega)) sX1_wrongerByExchange mw_488 mKX1 rfl ea_21 rfl (Nat.le_of_ble_eq_true rfl) ⟨⟨Nat.le_of_ble_eq_true rfl, Nat.le_of_ble_eq_true rfl⟩, Nat.le_of_ble_eq_true rfl, Nat.le_of_ble_eq_true rfl⟩ (fun v17 h18 n19 c20 => ?_) (fun _ _ _ hx => hx.elim)
  obtain ⟨c20a, c20b, c20c⟩ := c20
  rw [c20a, c20b, c20c]
  show mT _ _ _ _ 31 [.ref 0, .int (nI r5), .int (nI p11), .ref (2 + 3 * r5)] [.int (q_wrongerByExchange (S.1 r5) p11), .int ((msort (S.1 r5)).2)] _ _ _ _
  refine mp_iadd dX2_after_31 (v := ((msort (S.1 r5)).2) + (q_wrongerByExchange (S.1 r5) p11)) rfl ?_
  refine mt_ireturn dX2_after_32 rfl rfl (Nat.le_of_ble_eq_true rfl) (Nat.le_of_ble_eq_true rfl) ?_
  exact cOk.of (x := .int (((msort (S.1 r5)).2) + (q_wrongerByExchange (S.1 r5) p11))) (S' := (S.1, S.2.1, S.2.2.1, S.2.2.2.1, S.2.2.2.2)) (by simp only [sp_after, dAt_s hr5 (by decide), dAt_s hp11 (by omega)] <;> first | rfl | simp_all) rfl rfl ⟨(c15f (0) (by omega)).trans C0, ⟨cg, (c15f (1) (by omega)).trans C1, C1g⟩, (c15f (14) (by omega)).trans C14, cRows0 CR (fun j j1 j2 => c15f j (by omega)), ⟨_, c15c⟩, ⟨_, (HK18).fr (fun j j1 j2 => c15f j (by omega))⟩, ⟨_, (HK21).fr (fun j j1 j2 => c15f j (by omega))⟩, ⟨_, c15d⟩⟩ (fun j hj => c15f j (by omega))
def sp_runAt (S : cS) (row : Int32) (place : Int32) : Nat × Value × cS := dAt S 4 row fun r => dAt S (S.1 r).length place fun p => (0, .int (nI (q_endOfRun (S.1 r) p - p)), S)
abbrev rX2_runAt : Room := { frames := 8, cells := 2, slots := 12, locals := 131 }
set_option maxRecDepth 100000 in
set_option maxHeartbeats 2000000 in
theorem kX2_runAt {l : Launch} (hl : l.stackTraces = false) {h : mH} {n : Nat} {S : cS} {row : Int32} {place : Int32} (C : cAt h S) : mC l mX2_runAt rX2_runAt [.ref 0, .int row, .int place] h n (cOk (sp_runAt S row place) h n) (cNo (sp_runAt S row place).1 h n) := by
  obtain ⟨C0, ⟨cg, C1, C1g⟩, C14, CR, ⟨zs15, HK15⟩, ⟨zs18, HK18⟩, ⟨zs21, HK21⟩, ⟨zs24, HK24⟩⟩ := id C
  refine mm_enter hl (by decide +kernel) rfl rfl rfl (Nat.le_of_ble_eq_true rfl) ?_
  show mT _ _ _ _ 0 [.ref 0, .int row, .int place, .double 0] [] _ _ 0 0
  refine mt_aload_n dX2_runAt_0 rfl rfl ?_
  refine mt_iload_n dX2_runAt_1 rfl ?_
  refine mt_callV (N := mX2_rowOf) (Rc := rX2_rowOf) (As := [.int row]) (st := []) dX2_runAt_2 (kX2_rowOf hl C) sX2_rowOf mw_230 mKX2 rfl C0 rfl (Nat.le_of_ble_eq_true rfl) ⟨⟨Nat.le_of_ble_eq_true rfl, Nat.le_of_ble_eq_true rfl⟩, Nat.le_of_ble_eq_true rfl, Nat.le_of_ble_eq_true rfl⟩ (fun v1 h2 n3 c4 => ?_) (fun E h9 n9 hx => mt_out rfl (by obtain ⟨rfl, hq, rfl, rfl⟩ := hx; exact cNo.i (by simp only [sp_runAt, dAt_n hq])) (Nat.le_of_ble_eq_true rfl) (Nat.le_of_ble_eq_true rfl))
  obtain ⟨r5, hr5, rfl, c4a, c4b, c4c⟩ := c4
  rw [c4a, c4b, c4c]
  have hLr5 := (CR r5 hr5).len
  show mT _ _ _ _ 5 [.ref 0, .int (nI r5), .int place, .double 0] [.ref (2 + 3 * r5)] _ _ _ _
  refine mp_astore_n dX2_runAt_5 (ls' := [.ref 0, .int (nI r5), .int place, .ref (2 + 3 * r5)]) rfl rfl (by decide) rfl ?_
  refine mt_aload_n dX2_runAt_6 rfl rfl ?_
  refine mt_iload_n dX2_runAt_7 rfl ?_
  have H6 : rowAt h (2 + 3 * r5) (rroom r5) (mb (decide (r5 < 2))) (S.1 r5) := CR r5 (by omega)
  refine mt_callS (N := mX2_demandPlace) (Rc := rX2_demandPlace) (As := [.ref (2 + 3 * r5), .int place]) (st := []) dX2_runAt_8 (kX2_demandPlace hl H6) sX2_demandPlace mw_457 rfl (Nat.le_of_ble_eq_true rfl) ⟨⟨Nat.le_of_ble_eq_true rfl, Nat.le_of_ble_eq_true rfl⟩, Nat.le_of_ble_eq_true rfl, Nat.le_of_ble_eq_true rfl⟩ (fun v7 h8 n9 c10 => ?_) (fun E h9 n9 hx => mt_out rfl (by obtain ⟨rfl, hq, rfl, rfl⟩ := hx; exact cNo.i (by simp only [sp_runAt, dAt_n hq, dAt_s hr5 (by decide)])) (Nat.le_of_ble_eq_true rfl) (Nat.le_of_ble_eq_true rfl))
  obtain ⟨p11, hp11, rfl, c10a, c10b, c10c⟩ := c10
  rw [c10a, c10b, c10c]
  have hLp11 := (H6).len
  show mT _ _ _ _ 11 [.ref 0, .int (nI r5), .int (nI p11), .ref (2 + 3 * r5)] [] _ _ _ _
  refine mt_aload_n dX2_runAt_11 rfl rfl ?_
  refine mt_iload_n dX2_runAt_12 rfl ?_
  obtain ⟨f_16, g_16, ea_16, ek_16, es_16, ql_16, qr_16, qk_16, qt_16⟩ := id H6
  refine mt_callV (N := mX1_endOfRun) (Rc := rX1_endOfRun) (As := [.int (nI p11)]) (st := []) dX2_runAt_13 (kX1_endOfRun hl H6 (by omega)) sX1_endOfRun mw_629 mKX1 rfl ea_16 rfl (Nat.le_of_ble_eq_true rfl) ⟨⟨Nat.le_of_ble_eq_true rfl, Nat.le_of_ble_eq_true rfl⟩, Nat.le_of_ble_eq_true rfl, Nat.le_of_ble_eq_true rfl⟩ (fun v12 h13 n14 c15 => ?_) (fun _ _ _ hx => hx.elim)
  obtain ⟨c15a, c15b, c15c⟩ := c15
  rw [c15a, c15b, c15c]
  show mT _ _ _ _ 16 [.ref 0, .int (nI r5), .int (nI p11), .ref (2 + 3 * r5)] [.int (nI (q_endOfRun (S.1 r5) p11))] _ _ _ _
  refine mt_iload_n dX2_runAt_16 rfl ?_
  have el := @erun_le (S.1 r5) ((S.1 r5).length - (p11 + 1)) (p11 + 1)
  have el2 : p11 + 1 ≤ q_endOfRun (S.1 r5) p11 := el.1
  refine mp_isub dX2_runAt_17 (v := nI ((q_endOfRun (S.1 r5) p11) - p11)) (pk_sub (by omega)) ?_
  refine mt_ireturn dX2_runAt_18 rfl rfl (Nat.le_of_ble_eq_true rfl) (Nat.le_of_ble_eq_true rfl) ?_
  exact cOk.of (x := .int (nI ((q_endOfRun (S.1 r5) p11) - p11))) (S' := (S.1, S.2.1, S.2.2.1, S.2.2.2.1, S.2.2.2.2)) (by simp only [sp_runAt, dAt_s hr5 (by decide), dAt_s hp11 (by omega)] <;> first | rfl | simp_all) rfl rfl ⟨C0, ⟨cg, C1, C1g⟩, C14, CR, ⟨_, HK15⟩, ⟨_, HK18⟩, ⟨_, HK21⟩, ⟨_, HK24⟩⟩ (fun j hj => rfl)
def sp_count (S : cS) (row : Int32) (key : Int32) : Nat × Value × cS := dAt S 4 row fun r => dFit S (keyOk key) (0, .int (q_itemsWith (S.1 r) key), S)
abbrev rX2_count : Room := { frames := 8, cells := 2, slots := 12, locals := 130 }
set_option maxRecDepth 100000 in
set_option maxHeartbeats 2000000 in
theorem kX2_count {l : Launch} (hl : l.stackTraces = false) {h : mH} {n : Nat} {S : cS} {row : Int32} {key : Int32} (C : cAt h S) : mC l mX2_count rX2_count [.ref 0, .int row, .int key] h n (cOk (sp_count S row key) h n) (cNo (sp_count S row key).1 h n) := by
  obtain ⟨C0, ⟨cg, C1, C1g⟩, C14, CR, ⟨zs15, HK15⟩, ⟨zs18, HK18⟩, ⟨zs21, HK21⟩, ⟨zs24, HK24⟩⟩ := id C
  refine mm_enter hl (by decide +kernel) rfl rfl rfl (Nat.le_of_ble_eq_true rfl) ?_
  show mT _ _ _ _ 0 [.ref 0, .int row, .int key, .double 0] [] _ _ 0 0
  refine mt_aload_n dX2_count_0 rfl rfl ?_
  refine mt_iload_n dX2_count_1 rfl ?_
  refine mt_callV (N := mX2_rowOf) (Rc := rX2_rowOf) (As := [.int row]) (st := []) dX2_count_2 (kX2_rowOf hl C) sX2_rowOf mw_230 mKX2 rfl C0 rfl (Nat.le_of_ble_eq_true rfl) ⟨⟨Nat.le_of_ble_eq_true rfl, Nat.le_of_ble_eq_true rfl⟩, Nat.le_of_ble_eq_true rfl, Nat.le_of_ble_eq_true rfl⟩ (fun v1 h2 n3 c4 => ?_) (fun E h9 n9 hx => mt_out rfl (by obtain ⟨rfl, hq, rfl, rfl⟩ := hx; exact cNo.i (by simp only [sp_count, dAt_n hq])) (Nat.le_of_ble_eq_true rfl) (Nat.le_of_ble_eq_true rfl))
  obtain ⟨r5, hr5, rfl, c4a, c4b, c4c⟩ := c4
  rw [c4a, c4b, c4c]
  have hLr5 := (CR r5 hr5).len
  show mT _ _ _ _ 5 [.ref 0, .int (nI r5), .int key, .double 0] [.ref (2 + 3 * r5)] _ _ _ _
  refine mp_astore_n dX2_count_5 (ls' := [.ref 0, .int (nI r5), .int key, .ref (2 + 3 * r5)]) rfl rfl (by decide) rfl ?_
  refine mt_iload_n dX2_count_6 rfl ?_
  refine mt_callS (N := mX2_demandKey) (Rc := rX2_demandKey) (As := [.int key]) (st := []) dX2_count_7 (kX2_demandKey hl) sX2_demandKey mw_441 rfl (Nat.le_of_ble_eq_true rfl) ⟨⟨Nat.le_of_ble_eq_true rfl, Nat.le_of_ble_eq_true rfl⟩, Nat.le_of_ble_eq_true rfl, Nat.le_of_ble_eq_true rfl⟩ (fun v6 h7 n8 c9 => ?_) (fun E h9 n9 hx => mt_out rfl (by obtain ⟨rfl, hq, rfl, rfl⟩ := hx; exact cNo.a (by simp only [sp_count, dFit_n hq, dAt_s hr5 (by decide)])) (Nat.le_of_ble_eq_true rfl) (Nat.le_of_ble_eq_true rfl))
  obtain ⟨c9a, c9k, c9b, c9c⟩ := c9
  rw [c9a, c9b, c9c]
  show mT _ _ _ _ 10 [.ref 0, .int (nI r5), .int key, .ref (2 + 3 * r5)] [] _ _ _ _
  refine mt_aload_n dX2_count_10 rfl rfl ?_
  refine mt_iload_n dX2_count_11 rfl ?_
  have H10 : rowAt h (2 + 3 * r5) (rroom r5) (mb (decide (r5 < 2))) (S.1 r5) := CR r5 (by omega)
  obtain ⟨f_15, g_15, ea_15, ek_15, es_15, ql_15, qr_15, qk_15, qt_15⟩ := id H10
  refine mt_callV (N := mX1_itemsWith) (Rc := rX1_itemsWith) (As := [.int key]) (st := []) dX2_count_12 (kX1_itemsWith hl H10) sX1_itemsWith mw_958 mKX1 rfl ea_15 rfl (Nat.le_of_ble_eq_true rfl) ⟨⟨Nat.le_of_ble_eq_true rfl, Nat.le_of_ble_eq_true rfl⟩, Nat.le_of_ble_eq_true rfl, Nat.le_of_ble_eq_true rfl⟩ (fun v11 h12 n13 c14 => ?_) (fun _ _ _ hx => hx.elim)
  obtain ⟨c14a, c14b, c14c⟩ := c14
  rw [c14a, c14b, c14c]
  show mT _ _ _ _ 15 [.ref 0, .int (nI r5), .int key, .ref (2 + 3 * r5)] [.int (q_itemsWith (S.1 r5) key)] _ _ _ _
  refine mt_ireturn dX2_count_15 rfl rfl (Nat.le_of_ble_eq_true rfl) (Nat.le_of_ble_eq_true rfl) ?_
  exact cOk.of (x := .int (q_itemsWith (S.1 r5) key)) (S' := (S.1, S.2.1, S.2.2.1, S.2.2.2.1, S.2.2.2.2)) (by simp only [sp_count, dAt_s hr5 (by decide), dFit_s c9k] <;> first | rfl | simp_all) rfl rfl ⟨C0, ⟨cg, C1, C1g⟩, C14, CR, ⟨_, HK15⟩, ⟨_, HK18⟩, ⟨_, HK21⟩, ⟨_, HK24⟩⟩ (fun j hj => rfl)
def sp_below (S : cS) (row : Int32) (key : Int32) : Nat × Value × cS := dAt S 4 row fun r => dFit S (keyOk key) (0, .int (q_itemsBelow (S.1 r) key), S)
abbrev rX2_below : Room := { frames := 8, cells := 2, slots := 12, locals := 130 }
set_option maxRecDepth 100000 in
set_option maxHeartbeats 2000000 in
theorem kX2_below {l : Launch} (hl : l.stackTraces = false) {h : mH} {n : Nat} {S : cS} {row : Int32} {key : Int32} (C : cAt h S) : mC l mX2_below rX2_below [.ref 0, .int row, .int key] h n (cOk (sp_below S row key) h n) (cNo (sp_below S row key).1 h n) := by
  obtain ⟨C0, ⟨cg, C1, C1g⟩, C14, CR, ⟨zs15, HK15⟩, ⟨zs18, HK18⟩, ⟨zs21, HK21⟩, ⟨zs24, HK24⟩⟩ := id C
  refine mm_enter hl (by decide +kernel) rfl rfl rfl (Nat.le_of_ble_eq_true rfl) ?_
  show mT _ _ _ _ 0 [.ref 0, .int row, .int key, .double 0] [] _ _ 0 0
  refine mt_aload_n dX2_below_0 rfl rfl ?_
  refine mt_iload_n dX2_below_1 rfl ?_
  refine mt_callV (N := mX2_rowOf) (Rc := rX2_rowOf) (As := [.int row]) (st := []) dX2_below_2 (kX2_rowOf hl C) sX2_rowOf mw_230 mKX2 rfl C0 rfl (Nat.le_of_ble_eq_true rfl) ⟨⟨Nat.le_of_ble_eq_true rfl, Nat.le_of_ble_eq_true rfl⟩, Nat.le_of_ble_eq_true rfl, Nat.le_of_ble_eq_true rfl⟩ (fun v1 h2 n3 c4 => ?_) (fun E h9 n9 hx => mt_out rfl (by obtain ⟨rfl, hq, rfl, rfl⟩ := hx; exact cNo.i (by simp only [sp_below, dAt_n hq])) (Nat.le_of_ble_eq_true rfl) (Nat.le_of_ble_eq_true rfl))
  obtain ⟨r5, hr5, rfl, c4a, c4b, c4c⟩ := c4
  rw [c4a, c4b, c4c]
  have hLr5 := (CR r5 hr5).len
  show mT _ _ _ _ 5 [.ref 0, .int (nI r5), .int key, .double 0] [.ref (2 + 3 * r5)] _ _ _ _
  refine mp_astore_n dX2_below_5 (ls' := [.ref 0, .int (nI r5), .int key, .ref (2 + 3 * r5)]) rfl rfl (by decide) rfl ?_
  refine mt_iload_n dX2_below_6 rfl ?_
  refine mt_callS (N := mX2_demandKey) (Rc := rX2_demandKey) (As := [.int key]) (st := []) dX2_below_7 (kX2_demandKey hl) sX2_demandKey mw_441 rfl (Nat.le_of_ble_eq_true rfl) ⟨⟨Nat.le_of_ble_eq_true rfl, Nat.le_of_ble_eq_true rfl⟩, Nat.le_of_ble_eq_true rfl, Nat.le_of_ble_eq_true rfl⟩ (fun v6 h7 n8 c9 => ?_) (fun E h9 n9 hx => mt_out rfl (by obtain ⟨rfl, hq, rfl, rfl⟩ := hx; exact cNo.a (by simp only [sp_below, dFit_n hq, dAt_s hr5 (by decide)])) (Nat.le_of_ble_eq_true rfl) (Nat.le_of_ble_eq_true rfl))
  obtain ⟨c9a, c9k, c9b, c9c⟩ := c9
  rw [c9a, c9b, c9c]
  show mT _ _ _ _ 10 [.ref 0, .int (nI r5), .int key, .ref (2 + 3 * r5)] [] _ _ _ _
  refine mt_aload_n dX2_below_10 rfl rfl ?_
  refine mt_iload_n dX2_below_11 rfl ?_
  have H10 : rowAt h (2 + 3 * r5) (rroom r5) (mb (decide (r5 < 2))) (S.1 r5) := CR r5 (by omega)
  obtain ⟨f_15, g_15, ea_15, ek_15, es_15, ql_15, qr_15, qk_15, qt_15⟩ := id H10
  refine mt_callV (N := mX1_itemsBelow) (Rc := rX1_itemsBelow) (As := [.int key]) (st := []) dX2_below_12 (kX1_itemsBelow hl H10) sX1_itemsBelow mw_969 mKX1 rfl ea_15 rfl (Nat.le_of_ble_eq_true rfl) ⟨⟨Nat.le_of_ble_eq_true rfl, Nat.le_of_ble_eq_true rfl⟩, Nat.le_of_ble_eq_true rfl, Nat.le_of_ble_eq_true rfl⟩ (fun v11 h12 n13 c14 => ?_) (fun _ _ _ hx => hx.elim)
  obtain ⟨c14a, c14b, c14c⟩ := c14
  rw [c14a, c14b, c14c]
  show mT _ _ _ _ 15 [.ref 0, .int (nI r5), .int key, .ref (2 + 3 * r5)] [.int (q_itemsBelow (S.1 r5) key)] _ _ _ _
  refine mt_ireturn dX2_below_15 rfl rfl (Nat.le_of_ble_eq_true rfl) (Nat.le_of_ble_eq_true rfl) ?_
  exact cOk.of (x := .int (q_itemsBelow (S.1 r5) key)) (S' := (S.1, S.2.1, S.2.2.1, S.2.2.2.1, S.2.2.2.2)) (by simp only [sp_below, dAt_s hr5 (by decide), dFit_s c9k] <;> first | rfl | simp_all) rfl rfl ⟨C0, ⟨cg, C1, C1g⟩, C14, CR, ⟨_, HK15⟩, ⟨_, HK18⟩, ⟨_, HK21⟩, ⟨_, HK24⟩⟩ (fun j hj => rfl)
def sp_first (S : cS) (row : Int32) (key : Int32) (isLast : Bool) : Nat × Value × cS := dAt S 4 row fun r => dFit S (keyOk key) (0, .int (if isLast = false then q_firstPlaceOf (S.1 r) key else q_lastPlaceOf (S.1 r) key), S)
abbrev rX2_first : Room := { frames := 8, cells := 2, slots := 12, locals := 130 }
set_option maxRecDepth 100000 in
set_option maxHeartbeats 2000000 in
theorem kX2_first {l : Launch} (hl : l.stackTraces = false) {h : mH} {n : Nat} {S : cS} {row : Int32} {key : Int32} {isLast : Bool} (C : cAt h S) : mC l mX2_first rX2_first [.ref 0, .int row, .int key, .int (mb (isLast))] h n (cOk (sp_first S row key isLast) h n) (cNo (sp_first S row key isLast).1 h n) := by
  obtain ⟨C0, ⟨cg, C1, C1g⟩, C14, CR, ⟨zs15, HK15⟩, ⟨zs18, HK18⟩, ⟨zs21, HK21⟩, ⟨zs24, HK24⟩⟩ := id C
  refine mm_enter hl (by decide +kernel) rfl rfl rfl (Nat.le_of_ble_eq_true rfl) ?_
  show mT _ _ _ _ 0 [.ref 0, .int row, .int key, .int (mb (isLast)), .double 0] [] _ _ 0 0
  refine mt_aload_n dX2_first_0 rfl rfl ?_
  refine mt_iload_n dX2_first_1 rfl ?_
  refine mt_callV (N := mX2_rowOf) (Rc := rX2_rowOf) (As := [.int row]) (st := []) dX2_first_2 (kX2_rowOf hl C) sX2_rowOf mw_230 mKX2 rfl C0 rfl (Nat.le_of_ble_eq_true rfl) ⟨⟨Nat.le_of_ble_eq_true rfl, Nat.le_of_ble_eq_true rfl⟩, Nat.le_of_ble_eq_true rfl, Nat.le_of_ble_eq_true rfl⟩ (fun v1 h2 n3 c4 => ?_) (fun E h9 n9 hx => mt_out rfl (by obtain ⟨rfl, hq, rfl, rfl⟩ := hx; exact cNo.i (by simp only [sp_first, dAt_n hq])) (Nat.le_of_ble_eq_true rfl) (Nat.le_of_ble_eq_true rfl))
  obtain ⟨r5, hr5, rfl, c4a, c4b, c4c⟩ := c4
  rw [c4a, c4b, c4c]
  have hLr5 := (CR r5 hr5).len
  show mT _ _ _ _ 5 [.ref 0, .int (nI r5), .int key, .int (mb (isLast)), .double 0] [.ref (2 + 3 * r5)] _ _ _ _
  refine mp_astore dX2_first_5 (ls' := [.ref 0, .int (nI r5), .int key, .int (mb (isLast)), .ref (2 + 3 * r5)]) rfl rfl (by decide) rfl ?_
  refine mt_iload_n dX2_first_7 rfl ?_
  refine mt_callS (N := mX2_demandKey) (Rc := rX2_demandKey) (As := [.int key]) (st := []) dX2_first_8 (kX2_demandKey hl) sX2_demandKey mw_441 rfl (Nat.le_of_ble_eq_true rfl) ⟨⟨Nat.le_of_ble_eq_true rfl, Nat.le_of_ble_eq_true rfl⟩, Nat.le_of_ble_eq_true rfl, Nat.le_of_ble_eq_true rfl⟩ (fun v6 h7 n8 c9 => ?_) (fun E h9 n9 hx => mt_out rfl (by obtain ⟨rfl, hq, rfl, rfl⟩ := hx; exact cNo.a (by simp only [sp_first, dFit_n hq, dAt_s hr5 (by decide)])) (Nat.le_of_ble_eq_true rfl) (Nat.le_of_ble_eq_true rfl))
  obtain ⟨c9a, c9k, c9b, c9c⟩ := c9
  rw [c9a, c9b, c9c]
  show mT _ _ _ _ 11 [.ref 0, .int (nI r5), .int key, .int (mb (isLast)), .ref (2 + 3 * r5)] [] _ _ _ _
  refine mt_iload_n dX2_first_11 rfl ?_
  refine mt_if_eq dX2_first_12 (tgt := 24) rfl (fun q10 => ?_) (fun q10 => ?_)
  · have q10 : isLast = false := mb_0.mp q10
    refine mt_aload dX2_first_24 rfl rfl ?_
    refine mt_iload_n dX2_first_26 rfl ?_
    have H11 : rowAt h (2 + 3 * r5) (rroom r5) (mb (decide (r5 < 2))) (S.1 r5) := CR r5 (by omega)
    obtain ⟨f_16, g_16, ea_16, ek_16, es_16, ql_16, qr_16, qk_16, qt_16⟩ := id H11
    refine mt_callV (N := mX1_firstPlaceOf) (Rc := rX1_firstPlaceOf) (As := [.int key]) (st := []) dX2_first_27 (kX1_firstPlaceOf hl H11) sX1_firstPlaceOf mw_984 mKX1 rfl ea_16 rfl (Nat.le_of_ble_eq_true rfl) ⟨⟨Nat.le_of_ble_eq_true rfl, Nat.le_of_ble_eq_true rfl⟩, Nat.le_of_ble_eq_true rfl, Nat.le_of_ble_eq_true rfl⟩ (fun v12 h13 n14 c15 => ?_) (fun _ _ _ hx => hx.elim)
    obtain ⟨c15a, c15b, c15c⟩ := c15
    rw [c15a, c15b, c15c]
    show mT _ _ _ _ 30 [.ref 0, .int (nI r5), .int key, .int (mb (isLast)), .ref (2 + 3 * r5)] [.int (q_firstPlaceOf (S.1 r5) key)] _ _ _ _
    refine mt_ireturn dX2_first_30 rfl rfl (Nat.le_of_ble_eq_true rfl) (Nat.le_of_ble_eq_true rfl) ?_
    exact cOk.of (x := .int (q_firstPlaceOf (S.1 r5) key)) (S' := (S.1, S.2.1, S.2.2.1, S.2.2.2.1, S.2.2.2.2)) (by simp only [sp_first, dAt_s hr5 (by decide), dFit_s c9k, if_pos q10] <;> first | rfl | simp_all) rfl rfl ⟨C0, ⟨cg, C1, C1g⟩, C14, CR, ⟨_, HK15⟩, ⟨_, HK18⟩, ⟨_, HK21⟩, ⟨_, HK24⟩⟩ (fun j hj => rfl)
  · have q10 : isLast = true := mb_1.mp q10
    refine mt_aload dX2_first_15 rfl rfl ?_
    refine mt_iload_n dX2_first_17 rfl ?_
    have H17 : rowAt h (2 + 3 * r5) (rroom r5) (mb (decide (r5 < 2))) (S.1 r5) := CR r5 (by omega)
    obtain ⟨f_22, g_22, ea_22, ek_22, es_22, ql_22, qr_22, qk_22, qt_22⟩ := id H17
    refine mt_callV (N := mX1_lastPlaceOf) (Rc := rX1_lastPlaceOf) (As := [.int key]) (st := []) dX2_first_18 (kX1_lastPlaceOf hl H17) sX1_lastPlaceOf mw_980 mKX1 rfl ea_22 rfl (Nat.le_of_ble_eq_true rfl) ⟨⟨Nat.le_of_ble_eq_true rfl, Nat.le_of_ble_eq_true rfl⟩, Nat.le_of_ble_eq_true rfl, Nat.le_of_ble_eq_true rfl⟩ (fun v18 h19 n20 c21 => ?_) (fun _ _ _ hx => hx.elim)
    obtain ⟨c21a, c21b, c21c⟩ := c21
    rw [c21a, c21b, c21c]
    show mT _ _ _ _ 21 [.ref 0, .int (nI r5), .int key, .int (mb (isLast)), .ref (2 + 3 * r5)] [.int (q_lastPlaceOf (S.1 r5) key)] _ _ _ _
    refine mt_goto dX2_first_21 (tgt := 30) rfl ?_
    refine mt_ireturn dX2_first_30 rfl rfl (Nat.le_of_ble_eq_true rfl) (Nat.le_of_ble_eq_true rfl) ?_
    exact cOk.of (x := .int (q_lastPlaceOf (S.1 r5) key)) (S' := (S.1, S.2.1, S.2.2.1, S.2.2.2.1, S.2.2.2.2)) (by simp only [sp_first, dAt_s hr5 (by decide), dFit_s c9k, if_neg (bt_nf q10)] <;> first | rfl | simp_all) rfl rfl ⟨C0, ⟨cg, C1, C1g⟩, C14, CR, ⟨_, HK15⟩, ⟨_, HK18⟩, ⟨_, HK21⟩, ⟨_, HK24⟩⟩ (fun j hj => rfl)
def sp_end (S : cS) (row : Int32) (isGreatest : Bool) : Nat × Value × cS := dAt S 4 row fun r => (0, .int (if isGreatest = false then q_leastKey (S.1 r) else q_greatestKey (S.1 r)), S)
abbrev rX2_end : Room := { frames := 7, cells := 1, slots := 6, locals := 111 }
set_option maxRecDepth 100000 in
set_option maxHeartbeats 2000000 in
theorem kX2_end {l : Launch} (hl : l.stackTraces = false) {h : mH} {n : Nat} {S : cS} {row : Int32} {isGreatest : Bool} (C : cAt h S) : mC l mX2_end rX2_end [.ref 0, .int row, .int (mb (isGreatest))] h n (cOk (sp_end S row isGreatest) h n) (cNo (sp_end S row isGreatest).1 h n) := by
  obtain ⟨C0, ⟨cg, C1, C1g⟩, C14, CR, ⟨zs15, HK15⟩, ⟨zs18, HK18⟩, ⟨zs21, HK21⟩, ⟨zs24, HK24⟩⟩ := id C
  refine mm_enter hl (by decide +kernel) rfl rfl rfl (Nat.le_of_ble_eq_true rfl) ?_
  show mT _ _ _ _ 0 [.ref 0, .int row, .int (mb (isGreatest)), .double 0] [] _ _ 0 0
  refine mt_aload_n dX2_end_0 rfl rfl ?_
  refine mt_iload_n dX2_end_1 rfl ?_
  refine mt_callV (N := mX2_rowOf) (Rc := rX2_rowOf) (As := [.int row]) (st := []) dX2_end_2 (kX2_rowOf hl C) sX2_rowOf mw_230 mKX2 rfl C0 rfl (Nat.le_of_ble_eq_true rfl) ⟨⟨Nat.le_of_ble_eq_true rfl, Nat.le_of_ble_eq_true rfl⟩, Nat.le_of_ble_eq_true rfl, Nat.le_of_ble_eq_true rfl⟩ (fun v1 h2 n3 c4 => ?_) (fun E h9 n9 hx => mt_out rfl (by obtain ⟨rfl, hq, rfl, rfl⟩ := hx; exact cNo.i (by simp only [sp_end, dAt_n hq])) (Nat.le_of_ble_eq_true rfl) (Nat.le_of_ble_eq_true rfl))
  obtain ⟨r5, hr5, rfl, c4a, c4b, c4c⟩ := c4
  rw [c4a, c4b, c4c]
  have hLr5 := (CR r5 hr5).len
  show mT _ _ _ _ 5 [.ref 0, .int (nI r5), .int (mb (isGreatest)), .double 0] [.ref (2 + 3 * r5)] _ _ _ _
  refine mp_astore_n dX2_end_5 (ls' := [.ref 0, .int (nI r5), .int (mb (isGreatest)), .ref (2 + 3 * r5)]) rfl rfl (by decide) rfl ?_
  refine mt_iload_n dX2_end_6 rfl ?_
  refine mt_if_eq dX2_end_7 (tgt := 17) rfl (fun q6 => ?_) (fun q6 => ?_)
  · have q6 : isGreatest = false := mb_0.mp q6
    refine mt_aload_n dX2_end_17 rfl rfl ?_
    have H7 : rowAt h (2 + 3 * r5) (rroom r5) (mb (decide (r5 < 2))) (S.1 r5) := CR r5 (by omega)
    obtain ⟨f_12, g_12, ea_12, ek_12, es_12, ql_12, qr_12, qk_12, qt_12⟩ := id H7
    refine mt_callV (N := mX1_leastKey) (Rc := rX1_leastKey) (As := []) (st := []) dX2_end_18 (kX1_leastKey hl H7) sX1_leastKey mw_1000 mKX1 rfl ea_12 rfl (Nat.le_of_ble_eq_true rfl) ⟨⟨Nat.le_of_ble_eq_true rfl, Nat.le_of_ble_eq_true rfl⟩, Nat.le_of_ble_eq_true rfl, Nat.le_of_ble_eq_true rfl⟩ (fun v8 h9 n10 c11 => ?_) (fun _ _ _ hx => hx.elim)
    obtain ⟨c11a, c11b, c11c⟩ := c11
    rw [c11a, c11b, c11c]
    show mT _ _ _ _ 21 [.ref 0, .int (nI r5), .int (mb (isGreatest)), .ref (2 + 3 * r5)] [.int (q_leastKey (S.1 r5))] _ _ _ _
    refine mt_ireturn dX2_end_21 rfl rfl (Nat.le_of_ble_eq_true rfl) (Nat.le_of_ble_eq_true rfl) ?_
    exact cOk.of (x := .int (q_leastKey (S.1 r5))) (S' := (S.1, S.2.1, S.2.2.1, S.2.2.2.1, S.2.2.2.2)) (by simp only [sp_end, dAt_s hr5 (by decide), if_pos q6] <;> first | rfl | simp_all) rfl rfl ⟨C0, ⟨cg, C1, C1g⟩, C14, CR, ⟨_, HK15⟩, ⟨_, HK18⟩, ⟨_, HK21⟩, ⟨_, HK24⟩⟩ (fun j hj => rfl)
  · have q6 : isGreatest = true := mb_1.mp q6
    refine mt_aload_n dX2_end_10 rfl rfl ?_
    have H13 : rowAt h (2 + 3 * r5) (rroom r5) (mb (decide (r5 < 2))) (S.1 r5) := CR r5 (by omega)
    obtain ⟨f_18, g_18, ea_18, ek_18, es_18, ql_18, qr_18, qk_18, qt_18⟩ := id H13
    refine mt_callV (N := mX1_greatestKey) (Rc := rX1_greatestKey) (As := []) (st := []) dX2_end_11 (kX1_greatestKey hl H13) sX1_greatestKey mw_995 mKX1 rfl ea_18 rfl (Nat.le_of_ble_eq_true rfl) ⟨⟨Nat.le_of_ble_eq_true rfl, Nat.le_of_ble_eq_true rfl⟩, Nat.le_of_ble_eq_true rfl, Nat.le_of_ble_eq_true rfl⟩ (fun v14 h15 n16 c17 => ?_) (fun _ _ _ hx => hx.elim)
    obtain ⟨c17a, c17b, c17c⟩ := c17
    rw [c17a, c17b, c17c]
    show mT _ _ _ _ 14 [.ref 0, .int (nI r5), .int (mb (isGreatest)), .ref (2 + 3 * r5)] [.int (q_greatestKey (S.1 r5))] _ _ _ _
    refine mt_goto dX2_end_14 (tgt := 21) rfl ?_
    refine mt_ireturn dX2_end_21 rfl rfl (Nat.le_of_ble_eq_true rfl) (Nat.le_of_ble_eq_true rfl) ?_
    exact cOk.of (x := .int (q_greatestKey (S.1 r5))) (S' := (S.1, S.2.1, S.2.2.1, S.2.2.2.1, S.2.2.2.2)) (by simp only [sp_end, dAt_s hr5 (by decide), if_neg (bt_nf q6)] <;> first | rfl | simp_all) rfl rfl ⟨C0, ⟨cg, C1, C1g⟩, C14, CR, ⟨_, HK15⟩, ⟨_, HK18⟩, ⟨_, HK21⟩, ⟨_, HK24⟩⟩ (fun j hj => rfl)
def sp_wrong (S : cS) (row : Int32) (how : Int32) : Nat × Value × cS := dAt S 4 row fun r => if how = 0 then (0, .int (msort (S.1 r)).2, S) else if how = 1 then (0, .int (q_wrongPairs (S.1 r)), S) else (2, .null, S)
abbrev rX2_wrong : Room := { frames := 7, cells := 2, slots := 12, locals := 123 }
set_option maxRecDepth 100000 in
set_option maxHeartbeats 2000000 in
theorem kX2_wrong {l : Launch} (hl : l.stackTraces = false) {h : mH} {n : Nat} {S : cS} {row : Int32} {how : Int32} (C : cAt h S) : mC l mX2_wrong rX2_wrong [.ref 0, .int row, .int how] h n (cOk (sp_wrong S row how) h n) (cNo (sp_wrong S row how).1 h n) := by
  obtain ⟨C0, ⟨cg, C1, C1g⟩, C14, CR, ⟨zs15, HK15⟩, ⟨zs18, HK18⟩, ⟨zs21, HK21⟩, ⟨zs24, HK24⟩⟩ := id C
  refine mm_enter hl (by decide +kernel) rfl rfl rfl (Nat.le_of_ble_eq_true rfl) ?_
  show mT _ _ _ _ 0 [.ref 0, .int row, .int how, .double 0] [] _ _ 0 0
  refine mt_aload_n dX2_wrong_0 rfl rfl ?_
  refine mt_iload_n dX2_wrong_1 rfl ?_
  refine mt_callV (N := mX2_rowOf) (Rc := rX2_rowOf) (As := [.int row]) (st := []) dX2_wrong_2 (kX2_rowOf hl C) sX2_rowOf mw_230 mKX2 rfl C0 rfl (Nat.le_of_ble_eq_true rfl) ⟨⟨Nat.le_of_ble_eq_true rfl, Nat.le_of_ble_eq_true rfl⟩, Nat.le_of_ble_eq_true rfl, Nat.le_of_ble_eq_true rfl⟩ (fun v1 h2 n3 c4 => ?_) (fun E h9 n9 hx => mt_out rfl (by obtain ⟨rfl, hq, rfl, rfl⟩ := hx; exact cNo.i (by simp only [sp_wrong, dAt_n hq])) (Nat.le_of_ble_eq_true rfl) (Nat.le_of_ble_eq_true rfl))
  obtain ⟨r5, hr5, rfl, c4a, c4b, c4c⟩ := c4
  rw [c4a, c4b, c4c]
  have hLr5 := (CR r5 hr5).len
  show mT _ _ _ _ 5 [.ref 0, .int (nI r5), .int how, .double 0] [.ref (2 + 3 * r5)] _ _ _ _
  refine mp_astore_n dX2_wrong_5 (ls' := [.ref 0, .int (nI r5), .int how, .ref (2 + 3 * r5)]) rfl rfl (by decide) rfl ?_
  refine mt_iload_n dX2_wrong_6 rfl ?_
  refine mt_if_eq dX2_wrong_7 (tgt := 15) rfl (fun q6 => ?_) (fun q6 => ?_)
  · refine mt_iconst dX2_wrong_15 (v := nI 1) rfl ?_
    refine mt_goto dX2_wrong_16 (tgt := 20) rfl ?_
    refine mt_callS (N := mX2_demand) (Rc := rX2_demand) (As := [.int (nI 1)]) (st := []) dX2_wrong_20 (kX2_demand_t hl) sX2_demand mw_309 rfl (Nat.le_of_ble_eq_true rfl) ⟨⟨Nat.le_of_ble_eq_true rfl, Nat.le_of_ble_eq_true rfl⟩, Nat.le_of_ble_eq_true rfl, Nat.le_of_ble_eq_true rfl⟩ (fun v7 h8 n9 c10 => ?_) (fun _ _ _ hx => hx.elim)
    obtain ⟨c10a, c10b, c10c⟩ := c10
    rw [c10a, c10b, c10c]
    show mT _ _ _ _ 23 [.ref 0, .int (nI r5), .int how, .ref (2 + 3 * r5)] [] _ _ _ _
    refine mt_iload_n dX2_wrong_23 rfl ?_
    refine mt_if_ne dX2_wrong_24 (tgt := 45) rfl (fun q11 => ?_) (fun q11 => ?_)
    · refine mt_aload_n dX2_wrong_45 rfl rfl ?_
      have H12 : rowAt h (2 + 3 * r5) (rroom r5) (mb (decide (r5 < 2))) (S.1 r5) := CR r5 (by omega)
      obtain ⟨f_17, g_17, ea_17, ek_17, es_17, ql_17, qr_17, qk_17, qt_17⟩ := id H12
      refine mt_callV (N := mX1_wrongPairs) (Rc := rX1_wrongPairs) (As := []) (st := []) dX2_wrong_46 (kX1_wrongPairs hl H12) sX1_wrongPairs mw_178 mKX1 rfl ea_17 rfl (Nat.le_of_ble_eq_true rfl) ⟨⟨Nat.le_of_ble_eq_true rfl, Nat.le_of_ble_eq_true rfl⟩, Nat.le_of_ble_eq_true rfl, Nat.le_of_ble_eq_true rfl⟩ (fun v13 h14 n15 c16 => ?_) (fun _ _ _ hx => hx.elim)
      obtain ⟨c16a, c16b, c16c⟩ := c16
      rw [c16a, c16b, c16c]
      show mT _ _ _ _ 49 [.ref 0, .int (nI r5), .int how, .ref (2 + 3 * r5)] [.int (q_wrongPairs (S.1 r5))] _ _ _ _
      refine mt_ireturn dX2_wrong_49 rfl rfl (Nat.le_of_ble_eq_true rfl) (Nat.le_of_ble_eq_true rfl) ?_
      exact cOk.of (x := .int (q_wrongPairs (S.1 r5))) (S' := (S.1, S.2.1, S.2.2.1, S.2.2.2.1, S.2.2.2.2)) (by simp only [sp_wrong, dAt_s hr5 (by decide), if_pos q6, if_neg q11] <;> first | rfl | simp_all) rfl rfl ⟨C0, ⟨cg, C1, C1g⟩, C14, CR, ⟨_, HK15⟩, ⟨_, HK18⟩, ⟨_, HK21⟩, ⟨_, HK24⟩⟩ (fun j hj => rfl)
    · refine mt_aload_n dX2_wrong_27 rfl rfl ?_
      refine mt_getfield mKX2 (i := 1) (by decide) mw_113 dX2_wrong_28 C0 rfl ?_
      refine mt_aload_n dX2_wrong_31 rfl rfl ?_
      refine mt_aload_n dX2_wrong_32 rfl rfl ?_
      refine mt_getfield mKX2 (i := 1) (by decide) mw_113 dX2_wrong_33 C0 rfl ?_
      refine mt_getfield mKX0 (i := 0) (by decide) mw_97 dX2_wrong_36 C14 rfl ?_
      have H18 : rowAt h (2 + 3 * r5) (rroom r5) (mb (decide (r5 < 2))) (S.1 r5) := CR r5 (by omega)
      refine mt_callV (N := mX0_sortUp) (Rc := rX0_sortUp) (As := [.ref (2 + 3 * r5), .ref 15]) (st := []) dX2_wrong_39 (kX0_sortUp hl C14 HK15 H18 HK24 (by omega) (by omega) (by omega) (by omega)) sX0_sortUp mw_143 mKX0 rfl C14 rfl (Nat.le_of_ble_eq_true rfl) ⟨⟨Nat.le_of_ble_eq_true rfl, Nat.le_of_ble_eq_true rfl⟩, Nat.le_of_ble_eq_true rfl, Nat.le_of_ble_eq_true rfl⟩ (fun v19 h20 n21 c22 => ?_) (fun _ _ _ hx => hx.elim)
      obtain ⟨c22a, c22b, c22c, ⟨c22z, c22d⟩, c22e⟩ := c22
      rw [c22a, c22b]
      have c22f : ∀ j, ((j < 15 ∨ 15 + 3 ≤ j) ∧ (j < 24 ∨ 24 + 3 ≤ j)) → h20 j = h j := fun j hj => c22e j hj.1 hj.2
      have mlc22 := msort_len (ys := S.1 r5)
      show mT _ _ _ _ 42 [.ref 0, .int (nI r5), .int how, .ref (2 + 3 * r5)] [.int ((msort (S.1 r5)).2)] _ _ _ _
      refine mt_goto dX2_wrong_42 (tgt := 49) rfl ?_
      refine mt_ireturn dX2_wrong_49 rfl rfl (Nat.le_of_ble_eq_true rfl) (Nat.le_of_ble_eq_true rfl) ?_
      exact cOk.of (x := .int ((msort (S.1 r5)).2)) (S' := (S.1, S.2.1, S.2.2.1, S.2.2.2.1, S.2.2.2.2)) (by simp only [sp_wrong, dAt_s hr5 (by decide), if_pos q6, if_pos q11] <;> first | rfl | simp_all) rfl rfl ⟨(c22f (0) (by omega)).trans C0, ⟨cg, (c22f (1) (by omega)).trans C1, C1g⟩, (c22f (14) (by omega)).trans C14, cRows0 CR (fun j j1 j2 => c22f j (by omega)), ⟨_, c22c⟩, ⟨_, (HK18).fr (fun j j1 j2 => c22f j (by omega))⟩, ⟨_, (HK21).fr (fun j j1 j2 => c22f j (by omega))⟩, ⟨_, c22d⟩⟩ (fun j hj => c22f j (by omega))
  · refine mt_iload_n dX2_wrong_10 rfl ?_
    refine mt_iconst dX2_wrong_11 (v := nI 1) rfl ?_
    refine mt_icmp_ne dX2_wrong_12 (tgt := 19) rfl (fun q23 => ?_) (fun q23 => ?_)
    · simp only [mI_one, nI_0] at q23
      refine mt_iconst dX2_wrong_19 (v := nI 0) rfl ?_
      refine mt_callS (N := mX2_demand) (Rc := rX2_demand) (As := [.int (nI 0)]) (st := []) dX2_wrong_20 (kX2_demand_f hl) sX2_demand mw_309 rfl (Nat.le_of_ble_eq_true rfl) ⟨⟨Nat.le_of_ble_eq_true rfl, Nat.le_of_ble_eq_true rfl⟩, Nat.le_of_ble_eq_true rfl, Nat.le_of_ble_eq_true rfl⟩ (fun _ _ _ hv => hv.elim) (fun E h9 n9 hx => ?_)
      obtain ⟨rfl, rfl, rfl⟩ := hx
      refine mt_out rfl ?_ (Nat.le_of_ble_eq_true rfl) (Nat.le_of_ble_eq_true rfl)
      exact cNo.a (by simp only [sp_wrong, if_neg q6, if_neg q23, dAt_s hr5 (by decide)])
    · simp only [mI_one, nI_0] at q23
      refine mt_iconst dX2_wrong_15 (v := nI 1) rfl ?_
      refine mt_goto dX2_wrong_16 (tgt := 20) rfl ?_
      refine mt_callS (N := mX2_demand) (Rc := rX2_demand) (As := [.int (nI 1)]) (st := []) dX2_wrong_20 (kX2_demand_t hl) sX2_demand mw_309 rfl (Nat.le_of_ble_eq_true rfl) ⟨⟨Nat.le_of_ble_eq_true rfl, Nat.le_of_ble_eq_true rfl⟩, Nat.le_of_ble_eq_true rfl, Nat.le_of_ble_eq_true rfl⟩ (fun v28 h29 n30 c31 => ?_) (fun _ _ _ hx => hx.elim)
      obtain ⟨c31a, c31b, c31c⟩ := c31
      rw [c31a, c31b, c31c]
      show mT _ _ _ _ 23 [.ref 0, .int (nI r5), .int how, .ref (2 + 3 * r5)] [] _ _ _ _
      refine mt_iload_n dX2_wrong_23 rfl ?_
      refine mt_if_ne dX2_wrong_24 (tgt := 45) rfl (fun q32 => ?_) (fun q32 => ?_)
      · refine mt_aload_n dX2_wrong_45 rfl rfl ?_
        have H33 : rowAt h (2 + 3 * r5) (rroom r5) (mb (decide (r5 < 2))) (S.1 r5) := CR r5 (by omega)
        obtain ⟨f_38, g_38, ea_38, ek_38, es_38, ql_38, qr_38, qk_38, qt_38⟩ := id H33
        refine mt_callV (N := mX1_wrongPairs) (Rc := rX1_wrongPairs) (As := []) (st := []) dX2_wrong_46 (kX1_wrongPairs hl H33) sX1_wrongPairs mw_178 mKX1 rfl ea_38 rfl (Nat.le_of_ble_eq_true rfl) ⟨⟨Nat.le_of_ble_eq_true rfl, Nat.le_of_ble_eq_true rfl⟩, Nat.le_of_ble_eq_true rfl, Nat.le_of_ble_eq_true rfl⟩ (fun v34 h35 n36 c37 => ?_) (fun _ _ _ hx => hx.elim)
        obtain ⟨c37a, c37b, c37c⟩ := c37
        rw [c37a, c37b, c37c]
        show mT _ _ _ _ 49 [.ref 0, .int (nI r5), .int how, .ref (2 + 3 * r5)] [.int (q_wrongPairs (S.1 r5))] _ _ _ _
        refine mt_ireturn dX2_wrong_49 rfl rfl (Nat.le_of_ble_eq_true rfl) (Nat.le_of_ble_eq_true rfl) ?_
        exact cOk.of (x := .int (q_wrongPairs (S.1 r5))) (S' := (S.1, S.2.1, S.2.2.1, S.2.2.2.1, S.2.2.2.2)) (by simp only [sp_wrong, dAt_s hr5 (by decide), if_neg q6, if_pos q23, if_neg q32] <;> first | rfl | simp_all) rfl rfl ⟨C0, ⟨cg, C1, C1g⟩, C14, CR, ⟨_, HK15⟩, ⟨_, HK18⟩, ⟨_, HK21⟩, ⟨_, HK24⟩⟩ (fun j hj => rfl)
      · refine mt_aload_n dX2_wrong_27 rfl rfl ?_
        refine mt_getfield mKX2 (i := 1) (by decide) mw_113 dX2_wrong_28 C0 rfl ?_
        refine mt_aload_n dX2_wrong_31 rfl rfl ?_
        refine mt_aload_n dX2_wrong_32 rfl rfl ?_
        refine mt_getfield mKX2 (i := 1) (by decide) mw_113 dX2_wrong_33 C0 rfl ?_
        refine mt_getfield mKX0 (i := 0) (by decide) mw_97 dX2_wrong_36 C14 rfl ?_
        have H39 : rowAt h (2 + 3 * r5) (rroom r5) (mb (decide (r5 < 2))) (S.1 r5) := CR r5 (by omega)
        refine mt_callV (N := mX0_sortUp) (Rc := rX0_sortUp) (As := [.ref (2 + 3 * r5), .ref 15]) (st := []) dX2_wrong_39 (kX0_sortUp hl C14 HK15 H39 HK24 (by omega) (by omega) (by omega) (by omega)) sX0_sortUp mw_143 mKX0 rfl C14 rfl (Nat.le_of_ble_eq_true rfl) ⟨⟨Nat.le_of_ble_eq_true rfl, Nat.le_of_ble_eq_true rfl⟩, Nat.le_of_ble_eq_true rfl, Nat.le_of_ble_eq_true rfl⟩ (fun v40 h41 n42 c43 => ?_) (fun _ _ _ hx => hx.elim)
        obtain ⟨c43a, c43b, c43c, ⟨c43z, c43d⟩, c43e⟩ := c43
        rw [c43a, c43b]
        have c43f : ∀ j, ((j < 15 ∨ 15 + 3 ≤ j) ∧ (j < 24 ∨ 24 + 3 ≤ j)) → h41 j = h j := fun j hj => c43e j hj.1 hj.2
        have mlc43 := msort_len (ys := S.1 r5)
        show mT _ _ _ _ 42 [.ref 0, .int (nI r5), .int how, .ref (2 + 3 * r5)] [.int ((msort (S.1 r5)).2)] _ _ _ _
        refine mt_goto dX2_wrong_42 (tgt := 49) rfl ?_
        refine mt_ireturn dX2_wrong_49 rfl rfl (Nat.le_of_ble_eq_true rfl) (Nat.le_of_ble_eq_true rfl) ?_
        exact cOk.of (x := .int ((msort (S.1 r5)).2)) (S' := (S.1, S.2.1, S.2.2.1, S.2.2.2.1, S.2.2.2.2)) (by simp only [sp_wrong, dAt_s hr5 (by decide), if_neg q6, if_pos q23, if_pos q32] <;> first | rfl | simp_all) rfl rfl ⟨(c43f (0) (by omega)).trans C0, ⟨cg, (c43f (1) (by omega)).trans C1, C1g⟩, (c43f (14) (by omega)).trans C14, cRows0 CR (fun j j1 j2 => c43f j (by omega)), ⟨_, c43c⟩, ⟨_, (HK18).fr (fun j j1 j2 => c43f j (by omega))⟩, ⟨_, (HK21).fr (fun j j1 j2 => c43f j (by omega))⟩, ⟨_, c43d⟩⟩ (fun j hj => c43f j (by omega))
def sp_same (S : cS) (row : Int32) (other : Int32) : Nat × Value × cS := dAt S 4 row fun r => dAt S 4 other fun q => (0, .int (mb (decide ((S.1 r).length = (S.1 q).length) && decide (q_otherKeys (S.1 r) (S.1 q) = 0))), S)
abbrev rX2_same : Room := { frames := 7, cells := 2, slots := 12, locals := 111 }
set_option maxRecDepth 100000 in
set_option maxHeartbeats 2000000 in
theorem kX2_same {l : Launch} (hl : l.stackTraces = false) {h : mH} {n : Nat} {S : cS} {row : Int32} {other : Int32} (C : cAt h S) : mC l mX2_same rX2_same [.ref 0, .int row, .int other] h n (cOk (sp_same S row other) h n) (cNo (sp_same S row other).1 h n) := by
  obtain ⟨C0, ⟨cg, C1, C1g⟩, C14, CR, ⟨zs15, HK15⟩, ⟨zs18, HK18⟩, ⟨zs21, HK21⟩, ⟨zs24, HK24⟩⟩ := id C
  refine mm_enter hl (by decide +kernel) rfl rfl rfl (Nat.le_of_ble_eq_true rfl) ?_
  show mT _ _ _ _ 0 [.ref 0, .int row, .int other, .double 0, .double 0] [] _ _ 0 0
  refine mt_aload_n dX2_same_0 rfl rfl ?_
  refine mt_iload_n dX2_same_1 rfl ?_
  refine mt_callV (N := mX2_rowOf) (Rc := rX2_rowOf) (As := [.int row]) (st := []) dX2_same_2 (kX2_rowOf hl C) sX2_rowOf mw_230 mKX2 rfl C0 rfl (Nat.le_of_ble_eq_true rfl) ⟨⟨Nat.le_of_ble_eq_true rfl, Nat.le_of_ble_eq_true rfl⟩, Nat.le_of_ble_eq_true rfl, Nat.le_of_ble_eq_true rfl⟩ (fun v1 h2 n3 c4 => ?_) (fun E h9 n9 hx => mt_out rfl (by obtain ⟨rfl, hq, rfl, rfl⟩ := hx; exact cNo.i (by simp only [sp_same, dAt_n hq])) (Nat.le_of_ble_eq_true rfl) (Nat.le_of_ble_eq_true rfl))
  obtain ⟨r5, hr5, rfl, c4a, c4b, c4c⟩ := c4
  rw [c4a, c4b, c4c]
  have hLr5 := (CR r5 hr5).len
  show mT _ _ _ _ 5 [.ref 0, .int (nI r5), .int other, .double 0, .double 0] [.ref (2 + 3 * r5)] _ _ _ _
  refine mp_astore_n dX2_same_5 (ls' := [.ref 0, .int (nI r5), .int other, .ref (2 + 3 * r5), .double 0]) rfl rfl (by decide) rfl ?_
  refine mt_aload_n dX2_same_6 rfl rfl ?_
  refine mt_iload_n dX2_same_7 rfl ?_
  refine mt_callV (N := mX2_rowOf) (Rc := rX2_rowOf) (As := [.int other]) (st := []) dX2_same_8 (kX2_rowOf hl C) sX2_rowOf mw_230 mKX2 rfl C0 rfl (Nat.le_of_ble_eq_true rfl) ⟨⟨Nat.le_of_ble_eq_true rfl, Nat.le_of_ble_eq_true rfl⟩, Nat.le_of_ble_eq_true rfl, Nat.le_of_ble_eq_true rfl⟩ (fun v6 h7 n8 c9 => ?_) (fun E h9 n9 hx => mt_out rfl (by obtain ⟨rfl, hq, rfl, rfl⟩ := hx; exact cNo.i (by simp only [sp_same, dAt_n hq, dAt_s hr5 (by decide)])) (Nat.le_of_ble_eq_true rfl) (Nat.le_of_ble_eq_true rfl))
  obtain ⟨r10, hr10, rfl, c9a, c9b, c9c⟩ := c9
  rw [c9a, c9b, c9c]
  have hLr10 := (CR r10 hr10).len
  show mT _ _ _ _ 11 [.ref 0, .int (nI r5), .int (nI r10), .ref (2 + 3 * r5), .double 0] [.ref (2 + 3 * r10)] _ _ _ _
  refine mp_astore dX2_same_11 (ls' := [.ref 0, .int (nI r5), .int (nI r10), .ref (2 + 3 * r5), .ref (2 + 3 * r10)]) rfl rfl (by decide) rfl ?_
  refine mt_aload_n dX2_same_13 rfl rfl ?_
  obtain ⟨f_11, g_11, ea_11, ek_11, es_11, ql_11, qr_11, qk_11, qt_11⟩ := id CR r5 (by omega)
  refine mt_getfield mKX1 (i := 3) (by decide) mw_76 dX2_same_14 ea_11 rfl ?_
  refine mt_aload dX2_same_17 rfl rfl ?_
  obtain ⟨f_12, g_12, ea_12, ek_12, es_12, ql_12, qr_12, qk_12, qt_12⟩ := id CR r10 (by omega)
  refine mt_getfield mKX1 (i := 3) (by decide) mw_76 dX2_same_19 ea_12 rfl ?_
  refine mt_icmp_ne dX2_same_22 (tgt := 38) rfl (fun q13 => ?_) (fun q13 => ?_)
  · have q13 := (not_congr (nI_eq (by omega) (by omega))).mp q13
    refine mt_iconst dX2_same_38 (v := nI 0) rfl ?_
    refine mt_ireturn dX2_same_39 rfl rfl (Nat.le_of_ble_eq_true rfl) (Nat.le_of_ble_eq_true rfl) ?_
    exact cOk.of (x := .int (nI 0)) (S' := (S.1, S.2.1, S.2.2.1, S.2.2.2.1, S.2.2.2.2)) (by simp only [sp_same, dAt_s hr5 (by decide), dAt_s hr10 (by decide)]; exact congrArg (a₂ := false) (fun b => ((0 : Nat), Value.int (mb b), S)) (by simp [q13])) rfl rfl ⟨C0, ⟨cg, C1, C1g⟩, C14, CR, ⟨_, HK15⟩, ⟨_, HK18⟩, ⟨_, HK21⟩, ⟨_, HK24⟩⟩ (fun j hj => rfl)
  · have q13 := (nI_eq (by omega) (by omega)).mp q13
    refine mt_aload_n dX2_same_25 rfl rfl ?_
    refine mt_aload dX2_same_26 rfl rfl ?_
    have H14 : rowAt h (2 + 3 * r5) (rroom r5) (mb (decide (r5 < 2))) (S.1 r5) := CR r5 (by omega)
    have H15 : rowAt h (2 + 3 * r10) (rroom r10) (mb (decide (r10 < 2))) (S.1 r10) := CR r10 (by omega)
    refine mt_callV (N := mX1_otherKeys) (Rc := rX1_otherKeys) (As := [.ref (2 + 3 * r10)]) (st := []) dX2_same_28 (kX1_otherKeys hl H14 H15) sX1_otherKeys mw_510 mKX1 rfl ea_11 rfl (Nat.le_of_ble_eq_true rfl) ⟨⟨Nat.le_of_ble_eq_true rfl, Nat.le_of_ble_eq_true rfl⟩, Nat.le_of_ble_eq_true rfl, Nat.le_of_ble_eq_true rfl⟩ (fun v16 h17 n18 c19 => ?_) (fun _ _ _ hx => hx.elim)
    obtain ⟨c19a, c19b, c19c⟩ := c19
    rw [c19a, c19b, c19c]
    show mT _ _ _ _ 31 [.ref 0, .int (nI r5), .int (nI r10), .ref (2 + 3 * r5), .ref (2 + 3 * r10)] [.int (q_otherKeys (S.1 r5) (S.1 r10))] _ _ _ _
    refine mt_if_ne dX2_same_31 (tgt := 38) rfl (fun q20 => ?_) (fun q20 => ?_)
    · refine mt_iconst dX2_same_38 (v := nI 0) rfl ?_
      refine mt_ireturn dX2_same_39 rfl rfl (Nat.le_of_ble_eq_true rfl) (Nat.le_of_ble_eq_true rfl) ?_
      exact cOk.of (x := .int (nI 0)) (S' := (S.1, S.2.1, S.2.2.1, S.2.2.2.1, S.2.2.2.2)) (by simp only [sp_same, dAt_s hr5 (by decide), dAt_s hr10 (by decide)]; exact congrArg (a₂ := false) (fun b => ((0 : Nat), Value.int (mb b), S)) (by simp [q13, q20])) rfl rfl ⟨C0, ⟨cg, C1, C1g⟩, C14, CR, ⟨_, HK15⟩, ⟨_, HK18⟩, ⟨_, HK21⟩, ⟨_, HK24⟩⟩ (fun j hj => rfl)
    · refine mt_iconst dX2_same_34 (v := nI 1) rfl ?_
      refine mt_goto dX2_same_35 (tgt := 39) rfl ?_
      refine mt_ireturn dX2_same_39 rfl rfl (Nat.le_of_ble_eq_true rfl) (Nat.le_of_ble_eq_true rfl) ?_
      exact cOk.of (x := .int (nI 1)) (S' := (S.1, S.2.1, S.2.2.1, S.2.2.2.1, S.2.2.2.2)) (by simp only [sp_same, dAt_s hr5 (by decide), dAt_s hr10 (by decide)]; exact congrArg (a₂ := true) (fun b => ((0 : Nat), Value.int (mb b), S)) (by simp [q13, q20])) rfl rfl ⟨C0, ⟨cg, C1, C1g⟩, C14, CR, ⟨_, HK15⟩, ⟨_, HK18⟩, ⟨_, HK21⟩, ⟨_, HK24⟩⟩ (fun j hj => rfl)
def sp_bag (S : cS) (row : Int32) (other : Int32) : Nat × Value × cS := dAt S 4 row fun r => dAt S 4 other fun q => (0, .int (mb (decide ((S.1 r).length = (S.1 q).length) && decide (q_otherKeys (msort (S.1 r)).1 (msort (S.1 q)).1 = 0))), S)
abbrev rX2_bag : Room := { frames := 7, cells := 2, slots := 12, locals := 123 }
set_option maxRecDepth 100000 in
set_option maxHeartbeats 2000000 in
theorem kX2_bag {l : Launch} (hl : l.stackTraces = false) {h : mH} {n : Nat} {S : cS} {row : Int32} {other : Int32} (C : cAt h S) : mC l mX2_bag rX2_bag [.ref 0, .int row, .int other] h n (cOk (sp_bag S row other) h n) (cNo (sp_bag S row other).1 h n) := by
  obtain ⟨C0, ⟨cg, C1, C1g⟩, C14, CR, ⟨zs15, HK15⟩, ⟨zs18, HK18⟩, ⟨zs21, HK21⟩, ⟨zs24, HK24⟩⟩ := id C
  refine mm_enter hl (by decide +kernel) rfl rfl rfl (Nat.le_of_ble_eq_true rfl) ?_
  show mT _ _ _ _ 0 [.ref 0, .int row, .int other, .double 0, .double 0] [] _ _ 0 0
  refine mt_aload_n dX2_bag_0 rfl rfl ?_
  refine mt_iload_n dX2_bag_1 rfl ?_
  refine mt_callV (N := mX2_rowOf) (Rc := rX2_rowOf) (As := [.int row]) (st := []) dX2_bag_2 (kX2_rowOf hl C) sX2_rowOf mw_230 mKX2 rfl C0 rfl (Nat.le_of_ble_eq_true rfl) ⟨⟨Nat.le_of_ble_eq_true rfl, Nat.le_of_ble_eq_true rfl⟩, Nat.le_of_ble_eq_true rfl, Nat.le_of_ble_eq_true rfl⟩ (fun v1 h2 n3 c4 => ?_) (fun E h9 n9 hx => mt_out rfl (by obtain ⟨rfl, hq, rfl, rfl⟩ := hx; exact cNo.i (by simp only [sp_bag, dAt_n hq])) (Nat.le_of_ble_eq_true rfl) (Nat.le_of_ble_eq_true rfl))
  obtain ⟨r5, hr5, rfl, c4a, c4b, c4c⟩ := c4
  rw [c4a, c4b, c4c]
  have hLr5 := (CR r5 hr5).len
  show mT _ _ _ _ 5 [.ref 0, .int (nI r5), .int other, .double 0, .double 0] [.ref (2 + 3 * r5)] _ _ _ _
  refine mp_astore_n dX2_bag_5 (ls' := [.ref 0, .int (nI r5), .int other, .ref (2 + 3 * r5), .double 0]) rfl rfl (by decide) rfl ?_
  refine mt_aload_n dX2_bag_6 rfl rfl ?_
  refine mt_iload_n dX2_bag_7 rfl ?_
  refine mt_callV (N := mX2_rowOf) (Rc := rX2_rowOf) (As := [.int other]) (st := []) dX2_bag_8 (kX2_rowOf hl C) sX2_rowOf mw_230 mKX2 rfl C0 rfl (Nat.le_of_ble_eq_true rfl) ⟨⟨Nat.le_of_ble_eq_true rfl, Nat.le_of_ble_eq_true rfl⟩, Nat.le_of_ble_eq_true rfl, Nat.le_of_ble_eq_true rfl⟩ (fun v6 h7 n8 c9 => ?_) (fun E h9 n9 hx => mt_out rfl (by obtain ⟨rfl, hq, rfl, rfl⟩ := hx; exact cNo.i (by simp only [sp_bag, dAt_n hq, dAt_s hr5 (by decide)])) (Nat.le_of_ble_eq_true rfl) (Nat.le_of_ble_eq_true rfl))
  obtain ⟨r10, hr10, rfl, c9a, c9b, c9c⟩ := c9
  rw [c9a, c9b, c9c]
  have hLr10 := (CR r10 hr10).len
  show mT _ _ _ _ 11 [.ref 0, .int (nI r5), .int (nI r10), .ref (2 + 3 * r5), .double 0] [.ref (2 + 3 * r10)] _ _ _ _
  refine mp_astore dX2_bag_11 (ls' := [.ref 0, .int (nI r5), .int (nI r10), .ref (2 + 3 * r5), .ref (2 + 3 * r10)]) rfl rfl (by decide) rfl ?_
  refine mt_aload_n dX2_bag_13 rfl rfl ?_
  refine mt_getfield mKX2 (i := 1) (by decide) mw_113 dX2_bag_14 C0 rfl ?_
  refine mt_aload_n dX2_bag_17 rfl rfl ?_
  refine mt_aload_n dX2_bag_18 rfl rfl ?_
  refine mt_getfield mKX2 (i := 1) (by decide) mw_113 dX2_bag_19 C0 rfl ?_
  refine mt_getfield mKX0 (i := 0) (by decide) mw_97 dX2_bag_22 C14 rfl ?_
  have H11 : rowAt h (2 + 3 * r5) (rroom r5) (mb (decide (r5 < 2))) (S.1 r5) := CR r5 (by omega)
  refine mt_callV (N := mX0_sortUp) (Rc := rX0_sortUp) (As := [.ref (2 + 3 * r5), .ref 15]) (st := []) dX2_bag_25 (kX0_sortUp hl C14 HK15 H11 HK24 (by omega) (by omega) (by omega) (by omega)) sX0_sortUp mw_143 mKX0 rfl C14 rfl (Nat.le_of_ble_eq_true rfl) ⟨⟨Nat.le_of_ble_eq_true rfl, Nat.le_of_ble_eq_true rfl⟩, Nat.le_of_ble_eq_true rfl, Nat.le_of_ble_eq_true rfl⟩ (fun v12 h13 n14 c15 => ?_) (fun _ _ _ hx => hx.elim)
  obtain ⟨c15a, c15b, c15c, ⟨c15z, c15d⟩, c15e⟩ := c15
  rw [c15a, c15b]
  have c15f : ∀ j, ((j < 15 ∨ 15 + 3 ≤ j) ∧ (j < 24 ∨ 24 + 3 ≤ j)) → h13 j = h j := fun j hj => c15e j hj.1 hj.2
  have mlc15 := msort_len (ys := S.1 r5)
  show mT _ _ _ _ 28 [.ref 0, .int (nI r5), .int (nI r10), .ref (2 + 3 * r5), .ref (2 + 3 * r10)] [.int ((msort (S.1 r5)).2)] _ _ _ _
  refine mt_pop dX2_bag_28 rfl ?_
  refine mt_aload_n dX2_bag_29 rfl rfl ?_
  refine mt_getfield mKX2 (i := 1) (by decide) mw_113 dX2_bag_30 ((c15f (0) (by omega)).trans C0) rfl ?_
  refine mt_aload dX2_bag_33 rfl rfl ?_
  refine mt_aload_n dX2_bag_35 rfl rfl ?_
  refine mt_getfield mKX2 (i := 1) (by decide) mw_113 dX2_bag_36 ((c15f (0) (by omega)).trans C0) rfl ?_
  refine mt_getfield mKX0 (i := 2) (by decide) mw_101 dX2_bag_39 ((c15f (14) (by omega)).trans C14) rfl ?_
  have H16 : rowAt h13 21 320 (nI 1) zs21 := (HK21).fr (fun j j1 j2 => c15f j (by omega))
  have H17 : rowAt h13 (2 + 3 * r10) (rroom r10) (mb (decide (r10 < 2))) (S.1 r10) := (CR r10 (by omega)).fr (fun j j1 j2 => c15f j (by omega))
  refine mt_callV (N := mX0_sortUp) (Rc := rX0_sortUp) (As := [.ref (2 + 3 * r10), .ref 21]) (st := []) dX2_bag_42 (kX0_sortUp hl ((c15f (14) (by omega)).trans C14) H16 H17 c15d (by omega) (by omega) (by omega) (by omega)) sX0_sortUp mw_143 mKX0 rfl ((c15f (14) (by omega)).trans C14) rfl (Nat.le_of_ble_eq_true rfl) ⟨⟨Nat.le_of_ble_eq_true rfl, Nat.le_of_ble_eq_true rfl⟩, Nat.le_of_ble_eq_true rfl, Nat.le_of_ble_eq_true rfl⟩ (fun v18 h19 n20 c21 => ?_) (fun _ _ _ hx => hx.elim)
  obtain ⟨c21a, c21b, c21c, ⟨c21z, c21d⟩, c21e⟩ := c21
  rw [c21a, c21b]
  have c21f : ∀ j, ((j < 21 ∨ 21 + 3 ≤ j) ∧ (j < 24 ∨ 24 + 3 ≤ j)) → h19 j = h13 j := fun j hj => c21e j hj.1 hj.2
  have mlc21 := msort_len (ys := S.1 r10)
  show mT _ _ _ _ 45 [.ref 0, .int (nI r5), .int (nI r10), .ref (2 + 3 * r5), .ref (2 + 3 * r10)] [.int ((msort (S.1 r10)).2)] _ _ _ _
  refine mt_pop dX2_bag_45 rfl ?_
  refine mt_aload_n dX2_bag_46 rfl rfl ?_
  obtain ⟨f_22, g_22, ea_22, ek_22, es_22, ql_22, qr_22, qk_22, qt_22⟩ := id ((H11).fr (fun j j1 j2 => c15f j (by omega))).fr (fun j j1 j2 => c21f j (by omega))
  refine mt_getfield mKX1 (i := 3) (by decide) mw_76 dX2_bag_47 ea_22 rfl ?_
  refine mt_aload dX2_bag_50 rfl rfl ?_
  obtain ⟨f_23, g_23, ea_23, ek_23, es_23, ql_23, qr_23, qk_23, qt_23⟩ := id (H17).fr (fun j j1 j2 => c21f j (by omega))
  refine mt_getfield mKX1 (i := 3) (by decide) mw_76 dX2_bag_52 ea_23 rfl ?_
  refine mt_icmp_ne dX2_bag_55 (tgt := 82) rfl (fun q24 => ?_) (fun q24 => ?_)
  · have q24 := (not_congr (nI_eq (by omega) (by omega))).mp q24
    refine mt_iconst dX2_bag_82 (v := nI 0) rfl ?_
    refine mt_ireturn dX2_bag_83 rfl rfl (Nat.le_of_ble_eq_true rfl) (Nat.le_of_ble_eq_true rfl) ?_
    exact cOk.of (x := .int (nI 0)) (S' := (S.1, S.2.1, S.2.2.1, S.2.2.2.1, S.2.2.2.2)) (by simp only [sp_bag, dAt_s hr5 (by decide), dAt_s hr10 (by decide)]; exact congrArg (a₂ := false) (fun b => ((0 : Nat), Value.int (mb b), S)) (by simp [q24])) rfl rfl ⟨(c21f (0) (by omega)).trans ((c15f (0) (by omega)).trans C0), ⟨cg, (c21f (1) (by omega)).trans ((c15f (1) (by omega)).trans C1), C1g⟩, (c21f (14) (by omega)).trans ((c15f (14) (by omega)).trans C14), cRows0 CR (fun j j1 j2 => (c21f j (by omega)).trans (c15f j (by omega))), ⟨_, (c15c).fr (fun j j1 j2 => c21f j (by omega))⟩, ⟨_, ((HK18).fr (fun j j1 j2 => c15f j (by omega))).fr (fun j j1 j2 => c21f j (by omega))⟩, ⟨_, c21c⟩, ⟨_, c21d⟩⟩ (fun j hj => (c21f j (by omega)).trans (c15f j (by omega)))
  · have q24 := (nI_eq (by omega) (by omega)).mp q24
    refine mt_aload_n dX2_bag_58 rfl rfl ?_
    refine mt_getfield mKX2 (i := 1) (by decide) mw_113 dX2_bag_59 ((c21f (0) (by omega)).trans ((c15f (0) (by omega)).trans C0)) rfl ?_
    refine mt_getfield mKX0 (i := 0) (by decide) mw_97 dX2_bag_62 ((c21f (14) (by omega)).trans ((c15f (14) (by omega)).trans C14)) rfl ?_
    refine mt_aload_n dX2_bag_65 rfl rfl ?_
    refine mt_getfield mKX2 (i := 1) (by decide) mw_113 dX2_bag_66 ((c21f (0) (by omega)).trans ((c15f (0) (by omega)).trans C0)) rfl ?_
    refine mt_getfield mKX0 (i := 2) (by decide) mw_101 dX2_bag_69 ((c21f (14) (by omega)).trans ((c15f (14) (by omega)).trans C14)) rfl ?_
    have H25 : rowAt h19 15 320 (nI 1) ((msort (S.1 r5)).1) := (c15c).fr (fun j j1 j2 => c21f j (by omega))
    obtain ⟨f_30, g_30, ea_30, ek_30, es_30, ql_30, qr_30, qk_30, qt_30⟩ := id H25
    refine mt_callV (N := mX1_otherKeys) (Rc := rX1_otherKeys) (As := [.ref 21]) (st := []) dX2_bag_72 (kX1_otherKeys hl H25 c21c) sX1_otherKeys mw_510 mKX1 rfl ea_30 rfl (Nat.le_of_ble_eq_true rfl) ⟨⟨Nat.le_of_ble_eq_true rfl, Nat.le_of_ble_eq_true rfl⟩, Nat.le_of_ble_eq_true rfl, Nat.le_of_ble_eq_true rfl⟩ (fun v26 h27 n28 c29 => ?_) (fun _ _ _ hx => hx.elim)
    obtain ⟨c29a, c29b, c29c⟩ := c29
    rw [c29a, c29b, c29c]
    show mT _ _ _ _ 75 [.ref 0, .int (nI r5), .int (nI r10), .ref (2 + 3 * r5), .ref (2 + 3 * r10)] [.int (q_otherKeys ((msort (S.1 r5)).1) ((msort (S.1 r10)).1))] _ _ _ _
    refine mt_if_ne dX2_bag_75 (tgt := 82) rfl (fun q31 => ?_) (fun q31 => ?_)
    · refine mt_iconst dX2_bag_82 (v := nI 0) rfl ?_
      refine mt_ireturn dX2_bag_83 rfl rfl (Nat.le_of_ble_eq_true rfl) (Nat.le_of_ble_eq_true rfl) ?_
      exact cOk.of (x := .int (nI 0)) (S' := (S.1, S.2.1, S.2.2.1, S.2.2.2.1, S.2.2.2.2)) (by simp only [sp_bag, dAt_s hr5 (by decide), dAt_s hr10 (by decide)]; exact congrArg (a₂ := false) (fun b => ((0 : Nat), Value.int (mb b), S)) (by simp [q24, q31])) rfl rfl ⟨(c21f (0) (by omega)).trans ((c15f (0) (by omega)).trans C0), ⟨cg, (c21f (1) (by omega)).trans ((c15f (1) (by omega)).trans C1), C1g⟩, (c21f (14) (by omega)).trans ((c15f (14) (by omega)).trans C14), cRows0 CR (fun j j1 j2 => (c21f j (by omega)).trans (c15f j (by omega))), ⟨_, H25⟩, ⟨_, ((HK18).fr (fun j j1 j2 => c15f j (by omega))).fr (fun j j1 j2 => c21f j (by omega))⟩, ⟨_, c21c⟩, ⟨_, c21d⟩⟩ (fun j hj => (c21f j (by omega)).trans (c15f j (by omega)))
    · refine mt_iconst dX2_bag_78 (v := nI 1) rfl ?_
      refine mt_goto dX2_bag_79 (tgt := 83) rfl ?_
      refine mt_ireturn dX2_bag_83 rfl rfl (Nat.le_of_ble_eq_true rfl) (Nat.le_of_ble_eq_true rfl) ?_
      exact cOk.of (x := .int (nI 1)) (S' := (S.1, S.2.1, S.2.2.1, S.2.2.2.1, S.2.2.2.2)) (by simp only [sp_bag, dAt_s hr5 (by decide), dAt_s hr10 (by decide)]; exact congrArg (a₂ := true) (fun b => ((0 : Nat), Value.int (mb b), S)) (by simp [q24, q31])) rfl rfl ⟨(c21f (0) (by omega)).trans ((c15f (0) (by omega)).trans C0), ⟨cg, (c21f (1) (by omega)).trans ((c15f (1) (by omega)).trans C1), C1g⟩, (c21f (14) (by omega)).trans ((c15f (14) (by omega)).trans C14), cRows0 CR (fun j j1 j2 => (c21f j (by omega)).trans (c15f j (by omega))), ⟨_, H25⟩, ⟨_, ((HK18).fr (fun j j1 j2 => c15f j (by omega))).fr (fun j j1 j2 => c21f j (by omega))⟩, ⟨_, c21c⟩, ⟨_, c21d⟩⟩ (fun j hj => (c21f j (by omega)).trans (c15f j (by omega)))
def sp_knock (S : cS)  : Nat × Value × cS := (0, .int (S.2.2.2.2 + nI 1), (S.1, S.2.1, S.2.2.1, S.2.2.2.1, S.2.2.2.2 + nI 1))
abbrev rX2_knock : Room := { frames := 0, cells := 0, slots := 0, locals := 0 }
set_option maxRecDepth 100000 in
set_option maxHeartbeats 2000000 in
theorem kX2_knock {l : Launch} (hl : l.stackTraces = false) {h : mH} {n : Nat} {S : cS} (C : cAt h S) : mC l mX2_knock rX2_knock [.ref 0] h n (cOk (sp_knock S ) h n) (cNo (sp_knock S ).1 h n) := by
  obtain ⟨C0, ⟨cg, C1, C1g⟩, C14, CR, ⟨zs15, HK15⟩, ⟨zs18, HK18⟩, ⟨zs21, HK21⟩, ⟨zs24, HK24⟩⟩ := id C
  refine mm_enter hl (by decide +kernel) rfl rfl rfl (Nat.le_of_ble_eq_true rfl) ?_
  show mT _ _ _ _ 0 [.ref 0] [] _ _ 0 0
  refine mt_aload_n dX2_knock_0 rfl rfl ?_
  refine mt_dup dX2_knock_1 rfl ?_
  refine mt_getfield mKX2 (i := 5) (by decide) mw_117 dX2_knock_2 C0 rfl ?_
  refine mt_iconst dX2_knock_5 (v := nI 1) rfl ?_
  refine mp_iadd dX2_knock_6 (v := S.2.2.2.2 + (nI 1)) rfl ?_
  refine mp_putfield mKX2 (i := 5) (fs' := [.ref 1, .ref 14, .int S.2.1, .int S.2.2.1, .int S.2.2.2.1, .int (S.2.2.2.2 + (nI 1))]) (by decide) mw_117 rfl dX2_knock_7 C0 (Nat.le_of_ble_eq_true rfl) rfl rfl (fun h1 e2 f3 => ?_)
  refine mt_aload_n dX2_knock_10 rfl rfl ?_
  refine mt_getfield mKX2 (i := 5) (by decide) mw_117 dX2_knock_11 e2 rfl ?_
  refine mt_ireturn dX2_knock_14 rfl rfl (Nat.le_of_ble_eq_true rfl) (Nat.le_of_ble_eq_true rfl) ?_
  exact cOk.of (x := .int (S.2.2.2.2 + (nI 1))) (S' := (S.1, S.2.1, S.2.2.1, S.2.2.2.1, S.2.2.2.2 + (nI 1))) (by simp only [sp_knock] <;> first | rfl | simp_all) rfl rfl ⟨e2, ⟨cg, (f3 (1) (by omega)).trans C1, C1g⟩, (f3 (14) (by omega)).trans C14, cRows0 CR (fun j j1 j2 => f3 j (by omega)), ⟨_, (HK15).fr (fun j j1 j2 => f3 j (by omega))⟩, ⟨_, (HK18).fr (fun j j1 j2 => f3 j (by omega))⟩, ⟨_, (HK21).fr (fun j j1 j2 => f3 j (by omega))⟩, ⟨_, (HK24).fr (fun j j1 j2 => f3 j (by omega))⟩⟩ (fun j hj => f3 j (by omega))
abbrev rX2_mark : Room := { frames := 7, cells := 1, slots := 6, locals := 111 }
set_option maxRecDepth 100000 in
set_option maxHeartbeats 2000000 in
theorem tX2_mark_13 {l : Launch} {R : Room} {K : mK} {cc sc : Nat} {h : mH} {n a room rr : Nat} {fl r : Int32} {b : Bool} {xs : List mIt} (H : rowAt h a room fl xs) (kk0 : ∀ (e : Int32) (i : Nat), (e = r) → mT l mX2_mark R K 57 [.ref 0, .int (nI rr), .int (mb (b)), .ref a, .int e, .int (nI i)] [] h n cc sc) : ∀ (N0 : Nat) (i : Nat) (e : Int32), (xs.length - i) < N0 → (mlp (fun i e => e * nI 31 + (if b = false then xk xs i else xt xs i)) (xs.length - i) i e = r) → (i ≤ xs.length) → mT l mX2_mark R K 13 [.ref 0, .int (nI rr), .int (mb (b)), .ref a, .int e, .int (nI i)] [] h n cc sc := by
  intro N0
  induction N0 with
  | zero => intro i e hm; exact absurd hm (Nat.not_lt_zero _)
  | succ N0 ih =>
    intro i e hm hr hi
    obtain ⟨f_1, g_1, ea_1, ek_1, es_1, ql_1, qr_1, qk_1, qt_1⟩ := id H
    refine mt_iload dX2_mark_13 rfl ?_
    refine mt_aload_n dX2_mark_15 rfl rfl ?_
    refine mt_getfield mKX1 (i := 3) (by decide) mw_76 dX2_mark_16 ea_1 rfl ?_
    refine mt_icmp_ge dX2_mark_19 (tgt := 57) rfl (fun q2 => ?_) (fun q2 => ?_)
    · have q2 := Int32.not_lt.mpr q2
      have q2 := (not_congr (nI_ltI (by omega) (by omega))).mp q2
      exact kk0 e i ((mlp_end (f := fun i e => e * nI 31 + (if b = false then xk xs i else xt xs i)) (by omega)).symm.trans hr)
    · have q2 := Int32.not_le.mp q2
      have q2 := (nI_ltI (by omega) (by omega)).mp q2
      refine mt_iload dX2_mark_22 rfl ?_
      refine mt_bipush dX2_mark_24 (v := nI 31) (by decide) ?_
      refine mp_imul dX2_mark_26 (v := e * (nI 31)) rfl ?_
      refine mt_iload_n dX2_mark_27 rfl ?_
      refine mt_if_eq dX2_mark_28 (tgt := 41) rfl (fun q3 => ?_) (fun q3 => ?_)
      · have q3 : b = false := mb_0.mp q3
        refine mt_aload_n dX2_mark_41 rfl rfl ?_
        refine mt_getfield mKX1 (i := 0) (by decide) mw_68 dX2_mark_42 ea_1 rfl ?_
        refine mt_iload dX2_mark_45 rfl ?_
        refine mp_iaload dX2_mark_47 ek_1 rfl (by omega) (by omega) (v := xk xs i) (qk_1 _ (by omega)) ?_
        refine mp_iadd dX2_mark_48 (v := (e * (nI 31)) + (xk xs i)) rfl ?_
        refine mp_istore dX2_mark_49 (ls' := [.ref 0, .int (nI rr), .int (mb (b)), .ref a, .int ((e * (nI 31)) + (xk xs i)), .int (nI i)]) rfl (by decide) rfl ?_
        refine mp_iinc dX2_mark_51 rfl (v := nI (i + 1)) mI_inc (ls' := [.ref 0, .int (nI rr), .int (mb (b)), .ref a, .int ((e * (nI 31)) + (xk xs i)), .int (nI (i + 1))]) rfl (by decide) rfl ?_
        refine mt_goto dX2_mark_54 (tgt := 13) rfl ?_
        exact ih (i + 1) ((e * (nI 31)) + (xk xs i)) (by omega) ((mlp_go (f := fun i e => e * nI 31 + (if b = false then xk xs i else xt xs i)) (by omega) (by simp only [if_pos q3])).symm.trans hr) (by omega)
      · have q3 : b = true := mb_1.mp q3
        refine mt_aload_n dX2_mark_31 rfl rfl ?_
        refine mt_getfield mKX1 (i := 1) (by decide) mw_71 dX2_mark_32 ea_1 rfl ?_
        refine mt_iload dX2_mark_35 rfl ?_
        refine mp_iaload dX2_mark_37 es_1 rfl (by omega) (by omega) (v := xt xs i) (qt_1 _ (by omega)) ?_
        refine mt_goto dX2_mark_38 (tgt := 48) rfl ?_
        refine mp_iadd dX2_mark_48 (v := (e * (nI 31)) + (xt xs i)) rfl ?_
        refine mp_istore dX2_mark_49 (ls' := [.ref 0, .int (nI rr), .int (mb (b)), .ref a, .int ((e * (nI 31)) + (xt xs i)), .int (nI i)]) rfl (by decide) rfl ?_
        refine mp_iinc dX2_mark_51 rfl (v := nI (i + 1)) mI_inc (ls' := [.ref 0, .int (nI rr), .int (mb (b)), .ref a, .int ((e * (nI 31)) + (xt xs i)), .int (nI (i + 1))]) rfl (by decide) rfl ?_
        refine mt_goto dX2_mark_54 (tgt := 13) rfl ?_
        exact ih (i + 1) ((e * (nI 31)) + (xt xs i)) (by omega) ((mlp_go (f := fun i e => e * nI 31 + (if b = false then xk xs i else xt xs i)) (by omega) (by simp only [if_neg (bt_nf q3)])).symm.trans hr) (by omega)
def q_mark (xs : List mIt) (b : Bool) : Int32 := mlp (fun i e => e * nI 31 + (if b = false then xk xs i else xt xs i)) (xs.length - 0) 0 (nI 17)
def sp_mark (S : cS) (row : Int32) (isStamps : Bool) : Nat × Value × cS := dAt S 4 row fun r => (0, .int (q_mark (S.1 r) isStamps), S)
set_option maxRecDepth 100000 in
set_option maxHeartbeats 2000000 in
theorem kX2_mark {l : Launch} (hl : l.stackTraces = false) {h : mH} {n : Nat} {S : cS} {row : Int32} {isStamps : Bool} (C : cAt h S) : mC l mX2_mark rX2_mark [.ref 0, .int row, .int (mb (isStamps))] h n (cOk (sp_mark S row isStamps) h n) (cNo (sp_mark S row isStamps).1 h n) := by
  obtain ⟨C0, ⟨cg, C1, C1g⟩, C14, CR, ⟨zs15, HK15⟩, ⟨zs18, HK18⟩, ⟨zs21, HK21⟩, ⟨zs24, HK24⟩⟩ := id C
  refine mm_enter hl (by decide +kernel) rfl rfl rfl (Nat.le_of_ble_eq_true rfl) ?_
  show mT _ _ _ _ 0 [.ref 0, .int row, .int (mb (isStamps)), .double 0, .double 0, .double 0] [] _ _ 0 0
  refine mt_aload_n dX2_mark_0 rfl rfl ?_
  refine mt_iload_n dX2_mark_1 rfl ?_
  refine mt_callV (N := mX2_rowOf) (Rc := rX2_rowOf) (As := [.int row]) (st := []) dX2_mark_2 (kX2_rowOf hl C) sX2_rowOf mw_230 mKX2 rfl C0 rfl (Nat.le_of_ble_eq_true rfl) ⟨⟨Nat.le_of_ble_eq_true rfl, Nat.le_of_ble_eq_true rfl⟩, Nat.le_of_ble_eq_true rfl, Nat.le_of_ble_eq_true rfl⟩ (fun v1 h2 n3 c4 => ?_) (fun E h9 n9 hx => mt_out rfl (by obtain ⟨rfl, hq, rfl, rfl⟩ := hx; exact cNo.i (by simp only [sp_mark, dAt_n hq])) (Nat.le_of_ble_eq_true rfl) (Nat.le_of_ble_eq_true rfl))
  obtain ⟨r5, hr5, rfl, c4a, c4b, c4c⟩ := c4
  rw [c4a, c4b, c4c]
  have hLr5 := (CR r5 hr5).len
  show mT _ _ _ _ 5 [.ref 0, .int (nI r5), .int (mb (isStamps)), .double 0, .double 0, .double 0] [.ref (2 + 3 * r5)] _ _ _ _
  refine mp_astore_n dX2_mark_5 (ls' := [.ref 0, .int (nI r5), .int (mb (isStamps)), .ref (2 + 3 * r5), .double 0, .double 0]) rfl rfl (by decide) rfl ?_
  refine mt_bipush dX2_mark_6 (v := nI 17) (by decide) ?_
  refine mp_istore dX2_mark_8 (ls' := [.ref 0, .int (nI r5), .int (mb (isStamps)), .ref (2 + 3 * r5), .int (nI 17), .double 0]) rfl (by decide) rfl ?_
  have H6 : rowAt h (2 + 3 * r5) (rroom r5) (mb (decide (r5 < 2))) (S.1 r5) := CR r5 (by omega)
  obtain ⟨f_7, g_7, ea_7, ek_7, es_7, ql_7, qr_7, qk_7, qt_7⟩ := id H6
  refine mt_iconst dX2_mark_10 (v := nI 0) rfl ?_
  refine mp_istore dX2_mark_11 (ls' := [.ref 0, .int (nI r5), .int (mb (isStamps)), .ref (2 + 3 * r5), .int (nI 17), .int (nI 0)]) rfl (by decide) rfl ?_
  refine tX2_mark_13 H6 (fun e_8 i_9 z10 => ?_) _ 0 (nI 17) (Nat.lt_succ_self _) rfl (by omega)
  refine mt_iload dX2_mark_57 rfl ?_
  refine mt_ireturn dX2_mark_59 rfl rfl (Nat.le_of_ble_eq_true rfl) (Nat.le_of_ble_eq_true rfl) ?_
  exact cOk.of (x := .int e_8) (S' := (S.1, S.2.1, S.2.2.1, S.2.2.2.1, S.2.2.2.2)) (by simp only [sp_mark, dAt_s hr5 (by decide)]; exact congrArg (fun x => ((0 : Nat), Value.int x, S)) z10.symm) rfl rfl ⟨C0, ⟨cg, C1, C1g⟩, C14, CR, ⟨_, HK15⟩, ⟨_, HK18⟩, ⟨_, HK21⟩, ⟨_, HK24⟩⟩ (fun j hj => rfl)

/-! ===== the class: the whole ===== -/
abbrev rX2_itemsInAll : Room := { frames := 0, cells := 0, slots := 0, locals := 0 }
set_option maxRecDepth 100000 in
set_option maxHeartbeats 2000000 in
theorem tX2_itemsInAll_4 {l : Launch} {R : Room} {K : mK} {cc sc : Nat} {h : mH} {n : Nat} {S : cS} {r : Nat} (C : cAt h S) (kk0 : ∀ (acc : Nat) (i : Nat), (acc = r) → mT l mX2_itemsInAll R K 31 [.ref 0, .int (nI acc), .int (nI i)] [] h n cc sc) : ∀ (N0 : Nat) (i : Nat) (acc : Nat), (4 - i) < N0 → (mlp (fun i acc => acc + (S.1 i).length) (4 - i) i acc = r) → (i ≤ 4) → mT l mX2_itemsInAll R K 4 [.ref 0, .int (nI acc), .int (nI i)] [] h n cc sc := by
  intro N0
  induction N0 with
  | zero => intro i acc hm; exact absurd hm (Nat.not_lt_zero _)
  | succ N0 ih =>
    intro i acc hm hr hi
    obtain ⟨C0, ⟨cg, C1, C1g⟩, C14, CR, ⟨zs15, HK15⟩, ⟨zs18, HK18⟩, ⟨zs21, HK21⟩, ⟨zs24, HK24⟩⟩ := id C
    refine mt_iload_n dX2_itemsInAll_4 rfl ?_
    refine mt_aload_n dX2_itemsInAll_5 rfl rfl ?_
    refine mt_getfield mKX2 (i := 0) (by decide) mw_112 dX2_itemsInAll_6 C0 rfl ?_
    refine mt_alenq dX2_itemsInAll_9 C1 (fun _ => rfl) ?_
    refine mt_icmp_ge dX2_itemsInAll_10 (tgt := 31) rfl (fun q1 => ?_) (fun q1 => ?_)
    · have q1 := Int32.not_lt.mpr q1
      have q1 := (not_congr (nI_ltI (by omega) (by omega))).mp q1
      exact kk0 acc i ((mlp_end (f := fun i acc => acc + (S.1 i).length) (by omega)).symm.trans hr)
    · have q1 := Int32.not_le.mp q1
      have q1 := (nI_ltI (by omega) (by omega)).mp q1
      refine mt_iload_n dX2_itemsInAll_13 rfl ?_
      refine mt_aload_n dX2_itemsInAll_14 rfl rfl ?_
      refine mt_getfield mKX2 (i := 0) (by decide) mw_112 dX2_itemsInAll_15 C0 rfl ?_
      refine mt_iload_n dX2_itemsInAll_18 rfl ?_
      refine mp_aaload dX2_itemsInAll_19 C1 (fun _ => rfl) rfl rfl (by omega) (by omega) (v := .ref (2 + 3 * i)) (by rw [C1g _ (by omega)]; rfl) ?_
      obtain ⟨f_2, g_2, ea_2, ek_2, es_2, ql_2, qr_2, qk_2, qt_2⟩ := id CR i (by omega)
      refine mt_getfield mKX1 (i := 3) (by decide) mw_76 dX2_itemsInAll_20 ea_2 rfl ?_
      refine mp_iadd dX2_itemsInAll_23 (v := nI (acc + ((S.1 i).length))) (nI_add _ _) ?_
      refine mp_istore_n dX2_itemsInAll_24 (ls' := [.ref 0, .int (nI (acc + ((S.1 i).length))), .int (nI i)]) rfl (by decide) rfl ?_
      refine mp_iinc dX2_itemsInAll_25 rfl (v := nI (i + 1)) mI_inc (ls' := [.ref 0, .int (nI (acc + ((S.1 i).length))), .int (nI (i + 1))]) rfl (by decide) rfl ?_
      refine mt_goto dX2_itemsInAll_28 (tgt := 4) rfl ?_
      exact ih (i + 1) (acc + ((S.1 i).length)) (by omega) ((mlp_go (f := fun i acc => acc + (S.1 i).length) (by omega) rfl).symm.trans hr) (by omega)
def q_itemsInAll (S : cS) : Nat := mlp (fun i acc => acc + (S.1 i).length) (4 - 0) 0 0
set_option maxRecDepth 100000 in
set_option maxHeartbeats 2000000 in
theorem kX2_itemsInAll {l : Launch} (hl : l.stackTraces = false) {h : mH} {n : Nat} {S : cS} (C : cAt h S) : mC l mX2_itemsInAll rX2_itemsInAll [.ref 0] h n (mRi (nI (q_itemsInAll S)) h n) (mNX) := by
  obtain ⟨C0, ⟨cg, C1, C1g⟩, C14, CR, ⟨zs15, HK15⟩, ⟨zs18, HK18⟩, ⟨zs21, HK21⟩, ⟨zs24, HK24⟩⟩ := id C
  refine mm_enter hl (by decide +kernel) rfl rfl rfl (Nat.le_of_ble_eq_true rfl) ?_
  show mT _ _ _ _ 0 [.ref 0, .double 0, .double 0] [] _ _ 0 0
  refine mt_iconst dX2_itemsInAll_0 (v := nI 0) rfl ?_
  refine mp_istore_n dX2_itemsInAll_1 (ls' := [.ref 0, .int (nI 0), .double 0]) rfl (by decide) rfl ?_
  refine mt_iconst dX2_itemsInAll_2 (v := nI 0) rfl ?_
  refine mp_istore_n dX2_itemsInAll_3 (ls' := [.ref 0, .int (nI 0), .int (nI 0)]) rfl (by decide) rfl ?_
  refine tX2_itemsInAll_4 C (fun acc_1 i_2 z3 => ?_) _ 0 0 (Nat.lt_succ_self _) rfl (by omega)
  refine mt_iload_n dX2_itemsInAll_31 rfl ?_
  refine mt_ireturn dX2_itemsInAll_32 rfl rfl (Nat.le_of_ble_eq_true rfl) (Nat.le_of_ble_eq_true rfl) ?_
  exact ⟨congrArg (fun x => some (Value.int (nI x))) z3, rfl, rfl⟩
abbrev rX2_sortedRows : Room := { frames := 1, cells := 0, slots := 0, locals := 21 }
set_option maxRecDepth 100000 in
set_option maxHeartbeats 2000000 in
theorem tX2_sortedRows_4 {l : Launch} {K : mK} {h : mH} {n : Nat} {S : cS} {r : Int32} (hl : l.stackTraces = false) (C : cAt h S) (kk0 : ∀ (acc : Int32) (i : Nat), (acc = r) → mT l mX2_sortedRows rX2_sortedRows K 34 [.ref 0, .int acc, .int (nI i)] [] h n 0 0) : ∀ (N0 : Nat) (i : Nat) (acc : Int32), (4 - i) < N0 → (mlp (fun i acc => if q_isRising (S.1 i) = false then acc else acc + 1) (4 - i) i acc = r) → (i ≤ 4) → mT l mX2_sortedRows rX2_sortedRows K 4 [.ref 0, .int acc, .int (nI i)] [] h n 0 0 := by
  intro N0
  induction N0 with
  | zero => intro i acc hm; exact absurd hm (Nat.not_lt_zero _)
  | succ N0 ih =>
    intro i acc hm hr hi
    obtain ⟨C0, ⟨cg, C1, C1g⟩, C14, CR, ⟨zs15, HK15⟩, ⟨zs18, HK18⟩, ⟨zs21, HK21⟩, ⟨zs24, HK24⟩⟩ := id C
    refine mt_iload_n dX2_sortedRows_4 rfl ?_
    refine mt_aload_n dX2_sortedRows_5 rfl rfl ?_
    refine mt_getfield mKX2 (i := 0) (by decide) mw_112 dX2_sortedRows_6 C0 rfl ?_
    refine mt_alenq dX2_sortedRows_9 C1 (fun _ => rfl) ?_
    refine mt_icmp_ge dX2_sortedRows_10 (tgt := 34) rfl (fun q1 => ?_) (fun q1 => ?_)
    · have q1 := Int32.not_lt.mpr q1
      have q1 := (not_congr (nI_ltI (by omega) (by omega))).mp q1
      exact kk0 acc i ((mlp_end (f := fun i acc => if q_isRising (S.1 i) = false then acc else acc + 1) (by omega)).symm.trans hr)
    · have q1 := Int32.not_le.mp q1
      have q1 := (nI_ltI (by omega) (by omega)).mp q1
      refine mt_aload_n dX2_sortedRows_13 rfl rfl ?_
      refine mt_getfield mKX2 (i := 0) (by decide) mw_112 dX2_sortedRows_14 C0 rfl ?_
      refine mt_iload_n dX2_sortedRows_17 rfl ?_
      refine mp_aaload dX2_sortedRows_18 C1 (fun _ => rfl) rfl rfl (by omega) (by omega) (v := .ref (2 + 3 * i)) (by rw [C1g _ (by omega)]; rfl) ?_
      have H2 : rowAt h (2 + 3 * i) (rroom i) (mb (decide (i < 2))) (S.1 i) := CR i (by omega)
      obtain ⟨f_7, g_7, ea_7, ek_7, es_7, ql_7, qr_7, qk_7, qt_7⟩ := id H2
      refine mt_callV (N := mX1_isRising) (Rc := rX1_isRising) (As := []) (st := []) dX2_sortedRows_19 (kX1_isRising hl H2) sX1_isRising mw_182 mKX1 rfl ea_7 rfl (Nat.le_of_ble_eq_true rfl) ⟨⟨Nat.le_of_ble_eq_true rfl, Nat.le_of_ble_eq_true rfl⟩, Nat.le_of_ble_eq_true rfl, Nat.le_of_ble_eq_true rfl⟩ (fun v3 h4 n5 c6 => ?_) (fun _ _ _ hx => hx.elim)
      obtain ⟨c6a, c6b, c6c⟩ := c6
      rw [c6a, c6b, c6c]
      show mT _ _ _ _ 22 [.ref 0, .int acc, .int (nI i)] [.int (mb (q_isRising (S.1 i)))] _ _ _ _
      refine mt_if_eq dX2_sortedRows_22 (tgt := 28) rfl (fun q8 => ?_) (fun q8 => ?_)
      · have q8 : (q_isRising (S.1 i)) = false := mb_0.mp q8
        refine mp_iinc dX2_sortedRows_28 rfl (v := nI (i + 1)) mI_inc (ls' := [.ref 0, .int acc, .int (nI (i + 1))]) rfl (by decide) rfl ?_
        refine mt_goto dX2_sortedRows_31 (tgt := 4) rfl ?_
        exact ih (i + 1) acc (by omega) ((mlp_go (f := fun i acc => if q_isRising (S.1 i) = false then acc else acc + 1) (by omega) (if_pos q8)).symm.trans hr) (by omega)
      · have q8 : (q_isRising (S.1 i)) = true := mb_1.mp q8
        refine mp_iinc dX2_sortedRows_25 rfl (v := acc + 1) rfl (ls' := [.ref 0, .int (acc + 1), .int (nI i)]) rfl (by decide) rfl ?_
        refine mp_iinc dX2_sortedRows_28 rfl (v := nI (i + 1)) mI_inc (ls' := [.ref 0, .int (acc + 1), .int (nI (i + 1))]) rfl (by decide) rfl ?_
        refine mt_goto dX2_sortedRows_31 (tgt := 4) rfl ?_
        exact ih (i + 1) (acc + 1) (by omega) ((mlp_go (f := fun i acc => if q_isRising (S.1 i) = false then acc else acc + 1) (by omega) (if_neg (bt_nf q8))).symm.trans hr) (by omega)
def q_sortedRows (S : cS) : Int32 := mlp (fun i acc => if q_isRising (S.1 i) = false then acc else acc + 1) (4 - 0) 0 (nI 0)
set_option maxRecDepth 100000 in
set_option maxHeartbeats 2000000 in
theorem kX2_sortedRows {l : Launch} (hl : l.stackTraces = false) {h : mH} {n : Nat} {S : cS} (C : cAt h S) : mC l mX2_sortedRows rX2_sortedRows [.ref 0] h n (mRi (q_sortedRows S) h n) (mNX) := by
  obtain ⟨C0, ⟨cg, C1, C1g⟩, C14, CR, ⟨zs15, HK15⟩, ⟨zs18, HK18⟩, ⟨zs21, HK21⟩, ⟨zs24, HK24⟩⟩ := id C
  refine mm_enter hl (by decide +kernel) rfl rfl rfl (Nat.le_of_ble_eq_true rfl) ?_
  show mT _ _ _ _ 0 [.ref 0, .double 0, .double 0] [] _ _ 0 0
  refine mt_iconst dX2_sortedRows_0 (v := nI 0) rfl ?_
  refine mp_istore_n dX2_sortedRows_1 (ls' := [.ref 0, .int (nI 0), .double 0]) rfl (by decide) rfl ?_
  refine mt_iconst dX2_sortedRows_2 (v := nI 0) rfl ?_
  refine mp_istore_n dX2_sortedRows_3 (ls' := [.ref 0, .int (nI 0), .int (nI 0)]) rfl (by decide) rfl ?_
  refine tX2_sortedRows_4 hl C (fun acc_1 i_2 z3 => ?_) _ 0 (nI 0) (Nat.lt_succ_self _) rfl (by omega)
  refine mt_iload_n dX2_sortedRows_34 rfl ?_
  refine mt_ireturn dX2_sortedRows_35 rfl rfl (Nat.le_of_ble_eq_true rfl) (Nat.le_of_ble_eq_true rfl) ?_
  exact ⟨congrArg (fun x => some (Value.int x)) z3, rfl, rfl⟩
def sp_house (S : cS) (what : Int32) : Nat × Value × cS := match inN 6 what with
  | none => (2, .null, S)
  | some 0 => (0, .int (nI (q_itemsInAll S)), S)
  | some 1 => (0, .int S.2.2.1, S)
  | some 2 => (0, .int S.2.2.2.1, S)
  | some 3 => (0, .int S.2.2.2.2, S)
  | some 4 => (0, .int S.2.1, S)
  | some _ => (0, .int (q_sortedRows S), S)
abbrev rX2_house : Room := { frames := 6, cells := 1, slots := 6, locals := 90 }
set_option maxRecDepth 100000 in
set_option maxHeartbeats 2000000 in
theorem kX2_house {l : Launch} (hl : l.stackTraces = false) {h : mH} {n : Nat} {S : cS} {what : Int32} (C : cAt h S) : mC l mX2_house rX2_house [.ref 0, .int what] h n (cOk (sp_house S what) h n) (cNo (sp_house S what).1 h n) := by
  obtain ⟨C0, ⟨cg, C1, C1g⟩, C14, CR, ⟨zs15, HK15⟩, ⟨zs18, HK18⟩, ⟨zs21, HK21⟩, ⟨zs24, HK24⟩⟩ := id C
  refine mm_enter hl (by decide +kernel) rfl rfl rfl (Nat.le_of_ble_eq_true rfl) ?_
  show mT _ _ _ _ 0 [.ref 0, .int what] [] _ _ 0 0
  refine mt_iload_n dX2_house_0 rfl ?_
  rcases hq : inN 6 what with _ | wn
  · have hno := inN_no hq (by decide)
    refine mt_tableOut dX2_house_1 (by omega) (tgt := 70) rfl ?_
    refine mt_throwS (by decide +kernel) mX_fit mw_312 mw_40 (fun G U t => ⟨_, t.2.2.1⟩) mX_at239 mX_ot239 dX2_house_70 dX2_house_73 dX2_house_74 dX2_house_76 dX2_house_79 rfl ⟨Nat.le_of_ble_eq_true rfl, Nat.le_of_ble_eq_true rfl⟩ (Nat.le_of_ble_eq_true rfl) (Nat.le_of_ble_eq_true rfl) (Nat.le_of_ble_eq_true rfl) ?_
    exact cNo.a (by simp only [sp_house, hq])
  · obtain ⟨hw6, rfl⟩ := inN_of hq (by decide)
    obtain rfl | rfl | rfl | rfl | rfl | rfl : wn = 0 ∨ wn = 1 ∨ wn = 2 ∨ wn = 3 ∨ wn = 4 ∨ wn = 5 := by omega
    · refine mt_tableIn dX2_house_1 (off := 39) (by decide +kernel) (by decide +kernel) (by decide +kernel) (tgt := 40) rfl ?_
      refine mt_aload_n dX2_house_40 rfl rfl ?_
      refine mt_callV (N := mX2_itemsInAll) (Rc := rX2_itemsInAll) (As := []) (st := []) dX2_house_41 (kX2_itemsInAll hl C) sX2_itemsInAll mw_371 mKX2 rfl C0 rfl (Nat.le_of_ble_eq_true rfl) ⟨⟨Nat.le_of_ble_eq_true rfl, Nat.le_of_ble_eq_true rfl⟩, Nat.le_of_ble_eq_true rfl, Nat.le_of_ble_eq_true rfl⟩ (fun v1 h2 n3 c4 => ?_) (fun _ _ _ hx => hx.elim)
      obtain ⟨c4a, c4b, c4c⟩ := c4
      rw [c4a, c4b, c4c]
      show mT _ _ _ _ 44 [.ref 0, .int (nI 0)] [.int (nI (q_itemsInAll S))] _ _ _ _
      refine mt_ireturn dX2_house_44 rfl rfl (Nat.le_of_ble_eq_true rfl) (Nat.le_of_ble_eq_true rfl) ?_
      exact cOk.of (x := .int (nI (q_itemsInAll S))) (S' := (S.1, S.2.1, S.2.2.1, S.2.2.2.1, S.2.2.2.2)) (by simp only [sp_house, hq]) rfl rfl ⟨C0, ⟨cg, C1, C1g⟩, C14, CR, ⟨_, HK15⟩, ⟨_, HK18⟩, ⟨_, HK21⟩, ⟨_, HK24⟩⟩ (fun j hj => rfl)
    · refine mt_tableIn dX2_house_1 (off := 44) (by decide +kernel) (by decide +kernel) (by decide +kernel) (tgt := 45) rfl ?_
      refine mt_aload_n dX2_house_45 rfl rfl ?_
      refine mt_getfield mKX2 (i := 3) (by decide) mw_115 dX2_house_46 C0 rfl ?_
      refine mt_ireturn dX2_house_49 rfl rfl (Nat.le_of_ble_eq_true rfl) (Nat.le_of_ble_eq_true rfl) ?_
      exact cOk.of (x := .int S.2.2.1) (S' := (S.1, S.2.1, S.2.2.1, S.2.2.2.1, S.2.2.2.2)) (by simp only [sp_house, hq]) rfl rfl ⟨C0, ⟨cg, C1, C1g⟩, C14, CR, ⟨_, HK15⟩, ⟨_, HK18⟩, ⟨_, HK21⟩, ⟨_, HK24⟩⟩ (fun j hj => rfl)
    · refine mt_tableIn dX2_house_1 (off := 49) (by decide +kernel) (by decide +kernel) (by decide +kernel) (tgt := 50) rfl ?_
      refine mt_aload_n dX2_house_50 rfl rfl ?_
      refine mt_getfield mKX2 (i := 4) (by decide) mw_116 dX2_house_51 C0 rfl ?_
      refine mt_ireturn dX2_house_54 rfl rfl (Nat.le_of_ble_eq_true rfl) (Nat.le_of_ble_eq_true rfl) ?_
      exact cOk.of (x := .int S.2.2.2.1) (S' := (S.1, S.2.1, S.2.2.1, S.2.2.2.1, S.2.2.2.2)) (by simp only [sp_house, hq]) rfl rfl ⟨C0, ⟨cg, C1, C1g⟩, C14, CR, ⟨_, HK15⟩, ⟨_, HK18⟩, ⟨_, HK21⟩, ⟨_, HK24⟩⟩ (fun j hj => rfl)
    · refine mt_tableIn dX2_house_1 (off := 54) (by decide +kernel) (by decide +kernel) (by decide +kernel) (tgt := 55) rfl ?_
      refine mt_aload_n dX2_house_55 rfl rfl ?_
      refine mt_getfield mKX2 (i := 5) (by decide) mw_117 dX2_house_56 C0 rfl ?_
      refine mt_ireturn dX2_house_59 rfl rfl (Nat.le_of_ble_eq_true rfl) (Nat.le_of_ble_eq_true rfl) ?_
      exact cOk.of (x := .int S.2.2.2.2) (S' := (S.1, S.2.1, S.2.2.1, S.2.2.2.1, S.2.2.2.2)) (by simp only [sp_house, hq]) rfl rfl ⟨C0, ⟨cg, C1, C1g⟩, C14, CR, ⟨_, HK15⟩, ⟨_, HK18⟩, ⟨_, HK21⟩, ⟨_, HK24⟩⟩ (fun j hj => rfl)
    · refine mt_tableIn dX2_house_1 (off := 59) (by decide +kernel) (by decide +kernel) (by decide +kernel) (tgt := 60) rfl ?_
      refine mt_aload_n dX2_house_60 rfl rfl ?_
      refine mt_getfield mKX2 (i := 2) (by decide) mw_114 dX2_house_61 C0 rfl ?_
      refine mt_ireturn dX2_house_64 rfl rfl (Nat.le_of_ble_eq_true rfl) (Nat.le_of_ble_eq_true rfl) ?_
      exact cOk.of (x := .int S.2.1) (S' := (S.1, S.2.1, S.2.2.1, S.2.2.2.1, S.2.2.2.2)) (by simp only [sp_house, hq]) rfl rfl ⟨C0, ⟨cg, C1, C1g⟩, C14, CR, ⟨_, HK15⟩, ⟨_, HK18⟩, ⟨_, HK21⟩, ⟨_, HK24⟩⟩ (fun j hj => rfl)
    · refine mt_tableIn dX2_house_1 (off := 64) (by decide +kernel) (by decide +kernel) (by decide +kernel) (tgt := 65) rfl ?_
      refine mt_aload_n dX2_house_65 rfl rfl ?_
      refine mt_callV (N := mX2_sortedRows) (Rc := rX2_sortedRows) (As := []) (st := []) dX2_house_66 (kX2_sortedRows hl C) sX2_sortedRows mw_375 mKX2 rfl C0 rfl (Nat.le_of_ble_eq_true rfl) ⟨⟨Nat.le_of_ble_eq_true rfl, Nat.le_of_ble_eq_true rfl⟩, Nat.le_of_ble_eq_true rfl, Nat.le_of_ble_eq_true rfl⟩ (fun v5 h6 n7 c8 => ?_) (fun _ _ _ hx => hx.elim)
      obtain ⟨c8a, c8b, c8c⟩ := c8
      rw [c8a, c8b, c8c]
      show mT _ _ _ _ 69 [.ref 0, .int (nI 5)] [.int (q_sortedRows S)] _ _ _ _
      refine mt_ireturn dX2_house_69 rfl rfl (Nat.le_of_ble_eq_true rfl) (Nat.le_of_ble_eq_true rfl) ?_
      exact cOk.of (x := .int (q_sortedRows S)) (S' := (S.1, S.2.1, S.2.2.1, S.2.2.2.1, S.2.2.2.2)) (by simp only [sp_house, hq]) rfl rfl ⟨C0, ⟨cg, C1, C1g⟩, C14, CR, ⟨_, HK15⟩, ⟨_, HK18⟩, ⟨_, HK21⟩, ⟨_, HK24⟩⟩ (fun j hj => rfl)
def q_rowSound (xs : List mIt) : Bool := decide ((msort xs).2 = q_wrongPairs xs) && (decide ((msort xs).2 = 0) == q_isRising xs) && decide ((msort xs).2 + q_rightPairs xs + q_tiedPairsOfSorted (msort xs).1 = nI xs.length * (nI xs.length - 1) / nI 2) && q_standsByRanksIn xs (msort xs).1
def q_weaveSound (xs ys : List mIt) (room : Nat) : Bool := !(q_isRising xs) || !(q_isRising ys) || decide (room - xs.length < ys.length) || (decide ((weave (xs ++ span ys 0 ys.length) xs.length).length = (msort (xs ++ span ys 0 ys.length)).1.length) && decide (q_otherItems (weave (xs ++ span ys 0 ys.length) xs.length) (msort (xs ++ span ys 0 ys.length)).1 = 0))
theorem mb_eq {x y : Bool} : mb x = mb y ↔ x = y := by cases x <;> cases y <;> decide
abbrev rX2_isRowSound : Room := { frames := 5, cells := 0, slots := 0, locals := 123 }
set_option maxRecDepth 100000 in
set_option maxHeartbeats 2000000 in
theorem kX2_isRowSound {l : Launch} (hl : l.stackTraces = false) {h : mH} {n : Nat} {S : cS} {r : Nat} (C : cAt h S) (hr : r < 4) : mC l mX2_isRowSound rX2_isRowSound [.ref 0, .ref (2 + 3 * r)] h n (cOk ((0 : Nat), Value.int (mb (q_rowSound (S.1 r))), S) h n) (mNX) := by
  obtain ⟨C0, ⟨cg, C1, C1g⟩, C14, CR, ⟨zs15, HK15⟩, ⟨zs18, HK18⟩, ⟨zs21, HK21⟩, ⟨zs24, HK24⟩⟩ := id C
  have hLr := (CR r hr).len
  refine mm_enter hl (by decide +kernel) rfl rfl rfl (Nat.le_of_ble_eq_true rfl) ?_
  show mT _ _ _ _ 0 [.ref 0, .ref (2 + 3 * r), .double 0, .double 0] [] _ _ 0 0
  refine mt_aload_n dX2_isRowSound_0 rfl rfl ?_
  refine mt_getfield mKX2 (i := 1) (by decide) mw_113 dX2_isRowSound_1 C0 rfl ?_
  refine mt_aload_n dX2_isRowSound_4 rfl rfl ?_
  refine mt_aload_n dX2_isRowSound_5 rfl rfl ?_
  refine mt_getfield mKX2 (i := 1) (by decide) mw_113 dX2_isRowSound_6 C0 rfl ?_
  refine mt_getfield mKX0 (i := 0) (by decide) mw_97 dX2_isRowSound_9 C14 rfl ?_
  have H1 : rowAt h (2 + 3 * r) (rroom r) (mb (decide (r < 2))) (S.1 r) := CR r (by omega)
  refine mt_callV (N := mX0_sortUp) (Rc := rX0_sortUp) (As := [.ref (2 + 3 * r), .ref 15]) (st := []) dX2_isRowSound_12 (kX0_sortUp hl C14 HK15 H1 HK24 (by omega) (by omega) (by omega) (by omega)) sX0_sortUp mw_143 mKX0 rfl C14 rfl (Nat.le_of_ble_eq_true rfl) ⟨⟨Nat.le_of_ble_eq_true rfl, Nat.le_of_ble_eq_true rfl⟩, Nat.le_of_ble_eq_true rfl, Nat.le_of_ble_eq_true rfl⟩ (fun v2 h3 n4 c5 => ?_) (fun _ _ _ hx => hx.elim)
  obtain ⟨c5a, c5b, c5c, ⟨c5z, c5d⟩, c5e⟩ := c5
  rw [c5a, c5b]
  have c5f : ∀ j, ((j < 15 ∨ 15 + 3 ≤ j) ∧ (j < 24 ∨ 24 + 3 ≤ j)) → h3 j = h j := fun j hj => c5e j hj.1 hj.2
  have mlc5 := msort_len (ys := S.1 r)
  show mT _ _ _ _ 15 [.ref 0, .ref (2 + 3 * r), .double 0, .double 0] [.int ((msort (S.1 r)).2)] _ _ _ _
  refine mp_istore_n dX2_isRowSound_15 (ls' := [.ref 0, .ref (2 + 3 * r), .int ((msort (S.1 r)).2), .double 0]) rfl (by decide) rfl ?_
  refine mt_aload_n dX2_isRowSound_16 rfl rfl ?_
  obtain ⟨f_6, g_6, ea_6, ek_6, es_6, ql_6, qr_6, qk_6, qt_6⟩ := id (H1).fr (fun j j1 j2 => c5f j (by omega))
  refine mt_getfield mKX1 (i := 3) (by decide) mw_76 dX2_isRowSound_17 ea_6 rfl ?_
  refine mt_aload_n dX2_isRowSound_20 rfl rfl ?_
  refine mt_getfield mKX1 (i := 3) (by decide) mw_76 dX2_isRowSound_21 ea_6 rfl ?_
  refine mt_iconst dX2_isRowSound_24 (v := nI 1) rfl ?_
  refine mp_isub dX2_isRowSound_25 (v := (nI ((S.1 r).length)) - (nI 1)) rfl ?_
  refine mp_imul dX2_isRowSound_26 (v := (nI ((S.1 r).length)) * ((nI ((S.1 r).length)) - (nI 1))) rfl ?_
  refine mt_iconst dX2_isRowSound_27 (v := nI 2) rfl ?_
  refine mp_idiv dX2_isRowSound_28 ((mI_ne0 (by first | decide | omega) (by first | decide | omega))) (v := ((nI ((S.1 r).length)) * ((nI ((S.1 r).length)) - (nI 1))) / (nI 2)) rfl ?_
  refine mp_istore_n dX2_isRowSound_29 (ls' := [.ref 0, .ref (2 + 3 * r), .int ((msort (S.1 r)).2), .int (((nI ((S.1 r).length)) * ((nI ((S.1 r).length)) - (nI 1))) / (nI 2))]) rfl (by decide) rfl ?_
  refine mt_iload_n dX2_isRowSound_30 rfl ?_
  refine mt_aload_n dX2_isRowSound_31 rfl rfl ?_
  have H7 : rowAt h3 (2 + 3 * r) (rroom r) (mb (decide (r < 2))) (S.1 r) := (H1).fr (fun j j1 j2 => c5f j (by omega))
  refine mt_callV (N := mX1_wrongPairs) (Rc := rX1_wrongPairs) (As := []) (st := [.int ((msort (S.1 r)).2)]) dX2_isRowSound_32 (kX1_wrongPairs hl H7) sX1_wrongPairs mw_178 mKX1 rfl ea_6 rfl (Nat.le_of_ble_eq_true rfl) ⟨⟨Nat.le_of_ble_eq_true rfl, Nat.le_of_ble_eq_true rfl⟩, Nat.le_of_ble_eq_true rfl, Nat.le_of_ble_eq_true rfl⟩ (fun v8 h9 n10 c11 => ?_) (fun _ _ _ hx => hx.elim)
  obtain ⟨c11a, c11b, c11c⟩ := c11
  rw [c11a, c11b, c11c]
  show mT _ _ _ _ 35 [.ref 0, .ref (2 + 3 * r), .int ((msort (S.1 r)).2), .int (((nI ((S.1 r).length)) * ((nI ((S.1 r).length)) - (nI 1))) / (nI 2))] [.int (q_wrongPairs (S.1 r)), .int ((msort (S.1 r)).2)] _ _ _ _
  refine mt_icmp_ne dX2_isRowSound_35 (tgt := 93) rfl (fun q12 => ?_) (fun q12 => ?_)
  · refine mt_iconst dX2_isRowSound_93 (v := nI 0) rfl ?_
    refine mt_ireturn dX2_isRowSound_94 rfl rfl (Nat.le_of_ble_eq_true rfl) (Nat.le_of_ble_eq_true rfl) ?_
    exact cOk.of (x := .int (nI 0)) (S' := (S.1, S.2.1, S.2.2.1, S.2.2.2.1, S.2.2.2.2)) ((congrArg (a₂ := false) (fun b => ((0 : Nat), Value.int (mb b), S)) (by simp [q_rowSound, decide_eq_false q12]))) rfl rfl ⟨(c5f (0) (by omega)).trans C0, ⟨cg, (c5f (1) (by omega)).trans C1, C1g⟩, (c5f (14) (by omega)).trans C14, cRows0 CR (fun j j1 j2 => c5f j (by omega)), ⟨_, c5c⟩, ⟨_, (HK18).fr (fun j j1 j2 => c5f j (by omega))⟩, ⟨_, (HK21).fr (fun j j1 j2 => c5f j (by omega))⟩, ⟨_, c5d⟩⟩ (fun j hj => c5f j (by omega))
  · refine mt_iload_n dX2_isRowSound_38 rfl ?_
    refine mt_if_ne dX2_isRowSound_39 (tgt := 46) rfl (fun q13 => ?_) (fun q13 => ?_)
    · refine mt_iconst dX2_isRowSound_46 (v := nI 0) rfl ?_
      refine mt_aload_n dX2_isRowSound_47 rfl rfl ?_
      refine mt_callV (N := mX1_isRising) (Rc := rX1_isRising) (As := []) (st := [.int (nI 0)]) dX2_isRowSound_48 (kX1_isRising hl H7) sX1_isRising mw_182 mKX1 rfl ea_6 rfl (Nat.le_of_ble_eq_true rfl) ⟨⟨Nat.le_of_ble_eq_true rfl, Nat.le_of_ble_eq_true rfl⟩, Nat.le_of_ble_eq_true rfl, Nat.le_of_ble_eq_true rfl⟩ (fun v14 h15 n16 c17 => ?_) (fun _ _ _ hx => hx.elim)
      obtain ⟨c17a, c17b, c17c⟩ := c17
      rw [c17a, c17b, c17c]
      show mT _ _ _ _ 51 [.ref 0, .ref (2 + 3 * r), .int ((msort (S.1 r)).2), .int (((nI ((S.1 r).length)) * ((nI ((S.1 r).length)) - (nI 1))) / (nI 2))] [.int (mb (q_isRising (S.1 r))), .int (nI 0)] _ _ _ _
      refine mt_icmp_ne dX2_isRowSound_51 (tgt := 93) rfl (fun q18 => ?_) (fun q18 => ?_)
      · have q18 := (not_congr (mb_eq (x := false) (y := q_isRising (S.1 r)))).mp q18
        have q18 : q_isRising (S.1 r) = true := by simpa using q18
        refine mt_iconst dX2_isRowSound_93 (v := nI 0) rfl ?_
        refine mt_ireturn dX2_isRowSound_94 rfl rfl (Nat.le_of_ble_eq_true rfl) (Nat.le_of_ble_eq_true rfl) ?_
        exact cOk.of (x := .int (nI 0)) (S' := (S.1, S.2.1, S.2.2.1, S.2.2.2.1, S.2.2.2.2)) ((congrArg (a₂ := false) (fun b => ((0 : Nat), Value.int (mb b), S)) (by simp [q_rowSound, decide_eq_true q12, decide_eq_false q13, q18]))) rfl rfl ⟨(c5f (0) (by omega)).trans C0, ⟨cg, (c5f (1) (by omega)).trans C1, C1g⟩, (c5f (14) (by omega)).trans C14, cRows0 CR (fun j j1 j2 => c5f j (by omega)), ⟨_, c5c⟩, ⟨_, (HK18).fr (fun j j1 j2 => c5f j (by omega))⟩, ⟨_, (HK21).fr (fun j j1 j2 => c5f j (by omega))⟩, ⟨_, c5d⟩⟩ (fun j hj => c5f j (by omega))
      · have q18 := (mb_eq (x := false) (y := q_isRising (S.1 r))).mp q18
        have q18 := q18.symm
        refine mt_iload_n dX2_isRowSound_54 rfl ?_
        refine mt_aload_n dX2_isRowSound_55 rfl rfl ?_
        refine mt_callV (N := mX1_rightPairs) (Rc := rX1_rightPairs) (As := []) (st := [.int ((msort (S.1 r)).2)]) dX2_isRowSound_56 (kX1_rightPairs hl H7) sX1_rightPairs mw_186 mKX1 rfl ea_6 rfl (Nat.le_of_ble_eq_true rfl) ⟨⟨Nat.le_of_ble_eq_true rfl, Nat.le_of_ble_eq_true rfl⟩, Nat.le_of_ble_eq_true rfl, Nat.le_of_ble_eq_true rfl⟩ (fun v19 h20 n21 c22 => ?_) (fun _ _ _ hx => hx.elim)
        obtain ⟨c22a, c22b, c22c⟩ := c22
        rw [c22a, c22b, c22c]
        show mT _ _ _ _ 59 [.ref 0, .ref (2 + 3 * r), .int ((msort (S.1 r)).2), .int (((nI ((S.1 r).length)) * ((nI ((S.1 r).length)) - (nI 1))) / (nI 2))] [.int (q_rightPairs (S.1 r)), .int ((msort (S.1 r)).2)] _ _ _ _
        refine mp_iadd dX2_isRowSound_59 (v := ((msort (S.1 r)).2) + (q_rightPairs (S.1 r))) rfl ?_
        refine mt_aload_n dX2_isRowSound_60 rfl rfl ?_
        refine mt_getfield mKX2 (i := 1) (by decide) mw_113 dX2_isRowSound_61 ((c5f (0) (by omega)).trans C0) rfl ?_
        refine mt_getfield mKX0 (i := 0) (by decide) mw_97 dX2_isRowSound_64 ((c5f (14) (by omega)).trans C14) rfl ?_
        obtain ⟨f_27, g_27, ea_27, ek_27, es_27, ql_27, qr_27, qk_27, qt_27⟩ := id c5c
        refine mt_callV (N := mX1_tiedPairsOfSorted) (Rc := rX1_tiedPairsOfSorted) (As := []) (st := [.int (((msort (S.1 r)).2) + (q_rightPairs (S.1 r)))]) dX2_isRowSound_67 (kX1_tiedPairsOfSorted hl c5c) sX1_tiedPairsOfSorted mw_190 mKX1 rfl ea_27 rfl (Nat.le_of_ble_eq_true rfl) ⟨⟨Nat.le_of_ble_eq_true rfl, Nat.le_of_ble_eq_true rfl⟩, Nat.le_of_ble_eq_true rfl, Nat.le_of_ble_eq_true rfl⟩ (fun v23 h24 n25 c26 => ?_) (fun _ _ _ hx => hx.elim)
        obtain ⟨c26a, c26b, c26c⟩ := c26
        rw [c26a, c26b, c26c]
        show mT _ _ _ _ 70 [.ref 0, .ref (2 + 3 * r), .int ((msort (S.1 r)).2), .int (((nI ((S.1 r).length)) * ((nI ((S.1 r).length)) - (nI 1))) / (nI 2))] [.int (q_tiedPairsOfSorted ((msort (S.1 r)).1)), .int (((msort (S.1 r)).2) + (q_rightPairs (S.1 r)))] _ _ _ _
        refine mp_iadd dX2_isRowSound_70 (v := (((msort (S.1 r)).2) + (q_rightPairs (S.1 r))) + (q_tiedPairsOfSorted ((msort (S.1 r)).1))) rfl ?_
        refine mt_iload_n dX2_isRowSound_71 rfl ?_
        refine mt_icmp_ne dX2_isRowSound_72 (tgt := 93) rfl (fun q28 => ?_) (fun q28 => ?_)
        · simp only [mI_one, nI_0] at q28
          refine mt_iconst dX2_isRowSound_93 (v := nI 0) rfl ?_
          refine mt_ireturn dX2_isRowSound_94 rfl rfl (Nat.le_of_ble_eq_true rfl) (Nat.le_of_ble_eq_true rfl) ?_
          exact cOk.of (x := .int (nI 0)) (S' := (S.1, S.2.1, S.2.2.1, S.2.2.2.1, S.2.2.2.2)) ((congrArg (a₂ := false) (fun b => ((0 : Nat), Value.int (mb b), S)) (by simp [q_rowSound, decide_eq_true q12, decide_eq_false q13, q18, decide_eq_false q28]))) rfl rfl ⟨(c5f (0) (by omega)).trans C0, ⟨cg, (c5f (1) (by omega)).trans C1, C1g⟩, (c5f (14) (by omega)).trans C14, cRows0 CR (fun j j1 j2 => c5f j (by omega)), ⟨_, c5c⟩, ⟨_, (HK18).fr (fun j j1 j2 => c5f j (by omega))⟩, ⟨_, (HK21).fr (fun j j1 j2 => c5f j (by omega))⟩, ⟨_, c5d⟩⟩ (fun j hj => c5f j (by omega))
        · simp only [mI_one, nI_0] at q28
          refine mt_aload_n dX2_isRowSound_75 rfl rfl ?_
          refine mt_aload_n dX2_isRowSound_76 rfl rfl ?_
          refine mt_getfield mKX2 (i := 1) (by decide) mw_113 dX2_isRowSound_77 ((c5f (0) (by omega)).trans C0) rfl ?_
          refine mt_getfield mKX0 (i := 0) (by decide) mw_97 dX2_isRowSound_80 ((c5f (14) (by omega)).trans C14) rfl ?_
          refine mt_callV (N := mX1_standsByRanksIn) (Rc := rX1_standsByRanksIn) (As := [.ref 15]) (st := []) dX2_isRowSound_83 (kX1_standsByRanksIn hl H7 c5c) sX1_standsByRanksIn mw_194 mKX1 rfl ea_6 rfl (Nat.le_of_ble_eq_true rfl) ⟨⟨Nat.le_of_ble_eq_true rfl, Nat.le_of_ble_eq_true rfl⟩, Nat.le_of_ble_eq_true rfl, Nat.le_of_ble_eq_true rfl⟩ (fun v29 h30 n31 c32 => ?_) (fun _ _ _ hx => hx.elim)
          obtain ⟨c32a, c32b, c32c⟩ := c32
          rw [c32a, c32b, c32c]
          show mT _ _ _ _ 86 [.ref 0, .ref (2 + 3 * r), .int ((msort (S.1 r)).2), .int (((nI ((S.1 r).length)) * ((nI ((S.1 r).length)) - (nI 1))) / (nI 2))] [.int (mb (q_standsByRanksIn (S.1 r) ((msort (S.1 r)).1)))] _ _ _ _
          refine mt_if_eq dX2_isRowSound_86 (tgt := 93) rfl (fun q33 => ?_) (fun q33 => ?_)
          · have q33 : (q_standsByRanksIn (S.1 r) ((msort (S.1 r)).1)) = false := mb_0.mp q33
            refine mt_iconst dX2_isRowSound_93 (v := nI 0) rfl ?_
            refine mt_ireturn dX2_isRowSound_94 rfl rfl (Nat.le_of_ble_eq_true rfl) (Nat.le_of_ble_eq_true rfl) ?_
            exact cOk.of (x := .int (nI 0)) (S' := (S.1, S.2.1, S.2.2.1, S.2.2.2.1, S.2.2.2.2)) ((congrArg (a₂ := false) (fun b => ((0 : Nat), Value.int (mb b), S)) (by simp [q_rowSound, decide_eq_true q12, decide_eq_false q13, q18, decide_eq_true q28, q33]))) rfl rfl ⟨(c5f (0) (by omega)).trans C0, ⟨cg, (c5f (1) (by omega)).trans C1, C1g⟩, (c5f (14) (by omega)).trans C14, cRows0 CR (fun j j1 j2 => c5f j (by omega)), ⟨_, c5c⟩, ⟨_, (HK18).fr (fun j j1 j2 => c5f j (by omega))⟩, ⟨_, (HK21).fr (fun j j1 j2 => c5f j (by omega))⟩, ⟨_, c5d⟩⟩ (fun j hj => c5f j (by omega))
          · have q33 : (q_standsByRanksIn (S.1 r) ((msort (S.1 r)).1)) = true := mb_1.mp q33
            refine mt_iconst dX2_isRowSound_89 (v := nI 1) rfl ?_
            refine mt_goto dX2_isRowSound_90 (tgt := 94) rfl ?_
            refine mt_ireturn dX2_isRowSound_94 rfl rfl (Nat.le_of_ble_eq_true rfl) (Nat.le_of_ble_eq_true rfl) ?_
            exact cOk.of (x := .int (nI 1)) (S' := (S.1, S.2.1, S.2.2.1, S.2.2.2.1, S.2.2.2.2)) ((congrArg (a₂ := true) (fun b => ((0 : Nat), Value.int (mb b), S)) (by simp [q_rowSound, decide_eq_true q12, decide_eq_false q13, q18, decide_eq_true q28, q33]))) rfl rfl ⟨(c5f (0) (by omega)).trans C0, ⟨cg, (c5f (1) (by omega)).trans C1, C1g⟩, (c5f (14) (by omega)).trans C14, cRows0 CR (fun j j1 j2 => c5f j (by omega)), ⟨_, c5c⟩, ⟨_, (HK18).fr (fun j j1 j2 => c5f j (by omega))⟩, ⟨_, (HK21).fr (fun j j1 j2 => c5f j (by omega))⟩, ⟨_, c5d⟩⟩ (fun j hj => c5f j (by omega))
    · refine mt_iconst dX2_isRowSound_42 (v := nI 1) rfl ?_
      refine mt_goto dX2_isRowSound_43 (tgt := 47) rfl ?_
      refine mt_aload_n dX2_isRowSound_47 rfl rfl ?_
      refine mt_callV (N := mX1_isRising) (Rc := rX1_isRising) (As := []) (st := [.int (nI 1)]) dX2_isRowSound_48 (kX1_isRising hl H7) sX1_isRising mw_182 mKX1 rfl ea_6 rfl (Nat.le_of_ble_eq_true rfl) ⟨⟨Nat.le_of_ble_eq_true rfl, Nat.le_of_ble_eq_true rfl⟩, Nat.le_of_ble_eq_true rfl, Nat.le_of_ble_eq_true rfl⟩ (fun v34 h35 n36 c37 => ?_) (fun _ _ _ hx => hx.elim)
      obtain ⟨c37a, c37b, c37c⟩ := c37
      rw [c37a, c37b, c37c]
      show mT _ _ _ _ 51 [.ref 0, .ref (2 + 3 * r), .int ((msort (S.1 r)).2), .int (((nI ((S.1 r).length)) * ((nI ((S.1 r).length)) - (nI 1))) / (nI 2))] [.int (mb (q_isRising (S.1 r))), .int (nI 1)] _ _ _ _
      refine mt_icmp_ne dX2_isRowSound_51 (tgt := 93) rfl (fun q38 => ?_) (fun q38 => ?_)
      · have q38 := (not_congr (mb_eq (x := true) (y := q_isRising (S.1 r)))).mp q38
        have q38 : q_isRising (S.1 r) = false := by simpa using q38
        refine mt_iconst dX2_isRowSound_93 (v := nI 0) rfl ?_
        refine mt_ireturn dX2_isRowSound_94 rfl rfl (Nat.le_of_ble_eq_true rfl) (Nat.le_of_ble_eq_true rfl) ?_
        exact cOk.of (x := .int (nI 0)) (S' := (S.1, S.2.1, S.2.2.1, S.2.2.2.1, S.2.2.2.2)) ((congrArg (a₂ := false) (fun b => ((0 : Nat), Value.int (mb b), S)) (by simp [q_rowSound, decide_eq_true q12, decide_eq_true q13, q38]))) rfl rfl ⟨(c5f (0) (by omega)).trans C0, ⟨cg, (c5f (1) (by omega)).trans C1, C1g⟩, (c5f (14) (by omega)).trans C14, cRows0 CR (fun j j1 j2 => c5f j (by omega)), ⟨_, c5c⟩, ⟨_, (HK18).fr (fun j j1 j2 => c5f j (by omega))⟩, ⟨_, (HK21).fr (fun j j1 j2 => c5f j (by omega))⟩, ⟨_, c5d⟩⟩ (fun j hj => c5f j (by omega))
      · have q38 := (mb_eq (x := true) (y := q_isRising (S.1 r))).mp q38
        have q38 := q38.symm
        refine mt_iload_n dX2_isRowSound_54 rfl ?_
        refine mt_aload_n dX2_isRowSound_55 rfl rfl ?_
        refine mt_callV (N := mX1_rightPairs) (Rc := rX1_rightPairs) (As := []) (st := [.int ((msort (S.1 r)).2)]) dX2_isRowSound_56 (kX1_rightPairs hl H7) sX1_rightPairs mw_186 mKX1 rfl ea_6 rfl (Nat.le_of_ble_eq_true rfl) ⟨⟨Nat.le_of_ble_eq_true rfl, Nat.le_of_ble_eq_true rfl⟩, Nat.le_of_ble_eq_true rfl, Nat.le_of_ble_eq_true rfl⟩ (fun v39 h40 n41 c42 => ?_) (fun _ _ _ hx => hx.elim)
        obtain ⟨c42a, c42b, c42c⟩ := c42
        rw [c42a, c42b, c42c]
        show mT _ _ _ _ 59 [.ref 0, .ref (2 + 3 * r), .int ((msort (S.1 r)).2), .int (((nI ((S.1 r).length)) * ((nI ((S.1 r).length)) - (nI 1))) / (nI 2))] [.int (q_rightPairs (S.1 r)), .int ((msort (S.1 r)).2)] _ _ _ _
        refine mp_iadd dX2_isRowSound_59 (v := ((msort (S.1 r)).2) + (q_rightPairs (S.1 r))) rfl ?_
        refine mt_aload_n dX2_isRowSound_60 rfl rfl ?_
        refine mt_getfield mKX2 (i := 1) (by decide) mw_113 dX2_isRowSound_61 ((c5f (0) (by omega)).trans C0) rfl ?_
        refine mt_getfield mKX0 (i := 0) (by decide) mw_97 dX2_isRowSound_64 ((c5f (14) (by omega)).trans C14) rfl ?_
        obtain ⟨f_47, g_47, ea_47, ek_47, es_47, ql_47, qr_47, qk_47, qt_47⟩ := id c5c
        refine mt_callV (N := mX1_tiedPairsOfSorted) (Rc := rX1_tiedPairsOfSorted) (As := []) (st := [.int (((msort (S.1 r)).2) + (q_rightPairs (S.1 r)))]) dX2_isRowSound_67 (kX1_tiedPairsOfSorted hl c5c) sX1_tiedPairsOfSorted mw_190 mKX1 rfl ea_47 rfl (Nat.le_of_ble_eq_true rfl) ⟨⟨Nat.le_of_ble_eq_true rfl, Nat.le_of_ble_eq_true rfl⟩, Nat.le_of_ble_eq_true rfl, Nat.le_of_ble_eq_true rfl⟩ (fun v43 h44 n45 c46 => ?_) (fun _ _ _ hx => hx.elim)
        obtain ⟨c46a, c46b, c46c⟩ := c46
        rw [c46a, c46b, c46c]
        show mT _ _ _ _ 70 [.ref 0, .ref (2 + 3 * r), .int ((msort (S.1 r)).2), .int (((nI ((S.1 r).length)) * ((nI ((S.1 r).length)) - (nI 1))) / (nI 2))] [.int (q_tiedPairsOfSorted ((msort (S.1 r)).1)), .int (((msort (S.1 r)).2) + (q_rightPairs (S.1 r)))] _ _ _ _
        refine mp_iadd dX2_isRowSound_70 (v := (((msort (S.1 r)).2) + (q_rightPairs (S.1 r))) + (q_tiedPairsOfSorted ((msort (S.1 r)).1))) rfl ?_
        refine mt_iload_n dX2_isRowSound_71 rfl ?_
        refine mt_icmp_ne dX2_isRowSound_72 (tgt := 93) rfl (fun q48 => ?_) (fun q48 => ?_)
        · simp only [mI_one, nI_0] at q48
          refine mt_iconst dX2_isRowSound_93 (v := nI 0) rfl ?_
          refine mt_ireturn dX2_isRowSound_94 rfl rfl (Nat.le_of_ble_eq_true rfl) (Nat.le_of_ble_eq_true rfl) ?_
          exact cOk.of (x := .int (nI 0)) (S' := (S.1, S.2.1, S.2.2.1, S.2.2.2.1, S.2.2.2.2)) ((congrArg (a₂ := false) (fun b => ((0 : Nat), Value.int (mb b), S)) (by simp [q_rowSound, decide_eq_true q12, decide_eq_true q13, q38, decide_eq_false q48]))) rfl rfl ⟨(c5f (0) (by omega)).trans C0, ⟨cg, (c5f (1) (by omega)).trans C1, C1g⟩, (c5f (14) (by omega)).trans C14, cRows0 CR (fun j j1 j2 => c5f j (by omega)), ⟨_, c5c⟩, ⟨_, (HK18).fr (fun j j1 j2 => c5f j (by omega))⟩, ⟨_, (HK21).fr (fun j j1 j2 => c5f j (by omega))⟩, ⟨_, c5d⟩⟩ (fun j hj => c5f j (by omega))
        · simp only [mI_one, nI_0] at q48
          refine mt_aload_n dX2_isRowSound_75 rfl rfl ?_
          refine mt_aload_n dX2_isRowSound_76 rfl rfl ?_
          refine mt_getfield mKX2 (i := 1) (by decide) mw_113 dX2_isRowSound_77 ((c5f (0) (by omega)).trans C0) rfl ?_
          refine mt_getfield mKX0 (i := 0) (by decide) mw_97 dX2_isRowSound_80 ((c5f (14) (by omega)).trans C14) rfl ?_
          refine mt_callV (N := mX1_standsByRanksIn) (Rc := rX1_standsByRanksIn) (As := [.ref 15]) (st := []) dX2_isRowSound_83 (kX1_standsByRanksIn hl H7 c5c) sX1_standsByRanksIn mw_194 mKX1 rfl ea_6 rfl (Nat.le_of_ble_eq_true rfl) ⟨⟨Nat.le_of_ble_eq_true rfl, Nat.le_of_ble_eq_true rfl⟩, Nat.le_of_ble_eq_true rfl, Nat.le_of_ble_eq_true rfl⟩ (fun v49 h50 n51 c52 => ?_) (fun _ _ _ hx => hx.elim)
          obtain ⟨c52a, c52b, c52c⟩ := c52
          rw [c52a, c52b, c52c]
          show mT _ _ _ _ 86 [.ref 0, .ref (2 + 3 * r), .int ((msort (S.1 r)).2), .int (((nI ((S.1 r).length)) * ((nI ((S.1 r).length)) - (nI 1))) / (nI 2))] [.int (mb (q_standsByRanksIn (S.1 r) ((msort (S.1 r)).1)))] _ _ _ _
          refine mt_if_eq dX2_isRowSound_86 (tgt := 93) rfl (fun q53 => ?_) (fun q53 => ?_)
          · have q53 : (q_standsByRanksIn (S.1 r) ((msort (S.1 r)).1)) = false := mb_0.mp q53
            refine mt_iconst dX2_isRowSound_93 (v := nI 0) rfl ?_
            refine mt_ireturn dX2_isRowSound_94 rfl rfl (Nat.le_of_ble_eq_true rfl) (Nat.le_of_ble_eq_true rfl) ?_
            exact cOk.of (x := .int (nI 0)) (S' := (S.1, S.2.1, S.2.2.1, S.2.2.2.1, S.2.2.2.2)) ((congrArg (a₂ := false) (fun b => ((0 : Nat), Value.int (mb b), S)) (by simp [q_rowSound, decide_eq_true q12, decide_eq_true q13, q38, decide_eq_true q48, q53]))) rfl rfl ⟨(c5f (0) (by omega)).trans C0, ⟨cg, (c5f (1) (by omega)).trans C1, C1g⟩, (c5f (14) (by omega)).trans C14, cRows0 CR (fun j j1 j2 => c5f j (by omega)), ⟨_, c5c⟩, ⟨_, (HK18).fr (fun j j1 j2 => c5f j (by omega))⟩, ⟨_, (HK21).fr (fun j j1 j2 => c5f j (by omega))⟩, ⟨_, c5d⟩⟩ (fun j hj => c5f j (by omega))
          · have q53 : (q_standsByRanksIn (S.1 r) ((msort (S.1 r)).1)) = true := mb_1.mp q53
            refine mt_iconst dX2_isRowSound_89 (v := nI 1) rfl ?_
            refine mt_goto dX2_isRowSound_90 (tgt := 94) rfl ?_
            refine mt_ireturn dX2_isRowSound_94 rfl rfl (Nat.le_of_ble_eq_true rfl) (Nat.le_of_ble_eq_true rfl) ?_
            exact cOk.of (x := .int (nI 1)) (S' := (S.1, S.2.1, S.2.2.1, S.2.2.2.1, S.2.2.2.2)) ((congrArg (a₂ := true) (fun b => ((0 : Nat), Value.int (mb b), S)) (by simp [q_rowSound, decide_eq_true q12, decide_eq_true q13, q38, decide_eq_true q48, q53]))) rfl rfl ⟨(c5f (0) (by omega)).trans C0, ⟨cg, (c5f (1) (by omega)).trans C1, C1g⟩, (c5f (14) (by omega)).trans C14, cRows0 CR (fun j j1 j2 => c5f j (by omega)), ⟨_, c5c⟩, ⟨_, (HK18).fr (fun j j1 j2 => c5f j (by omega))⟩, ⟨_, (HK21).fr (fun j j1 j2 => c5f j (by omega))⟩, ⟨_, c5d⟩⟩ (fun j hj => c5f j (by omega))
abbrev rX2_isWeaveSound : Room := { frames := 5, cells := 0, slots := 0, locals := 123 }
set_option maxRecDepth 100000 in
set_option maxHeartbeats 2000000 in
theorem kX2_isWeaveSound {l : Launch} (hl : l.stackTraces = false) {h : mH} {n : Nat} {S : cS} (C : cAt h S) : mC l mX2_isWeaveSound rX2_isWeaveSound [.ref 0, .ref (2 + 3 * 0), .ref (2 + 3 * 1)] h n (cOk ((0 : Nat), Value.int (mb (q_weaveSound (S.1 0) (S.1 1) (rroom 0))), S) h n) (mNX) := by
  obtain ⟨C0, ⟨cg, C1, C1g⟩, C14, CR, ⟨zs15, HK15⟩, ⟨zs18, HK18⟩, ⟨zs21, HK21⟩, ⟨zs24, HK24⟩⟩ := id C
  have hL0 := (CR 0 (by decide)).len
  have hL1 := (CR 1 (by decide)).len
  refine mm_enter hl (by decide +kernel) rfl rfl rfl (Nat.le_of_ble_eq_true rfl) ?_
  show mT _ _ _ _ 0 [.ref 0, .ref (2 + 3 * 0), .ref (2 + 3 * 1)] [] _ _ 0 0
  refine mt_aload_n dX2_isWeaveSound_0 rfl rfl ?_
  have H1 : rowAt h (2 + 3 * 0) (rroom 0) (mb (decide (0 < 2))) (S.1 0) := CR 0 (by omega)
  obtain ⟨f_6, g_6, ea_6, ek_6, es_6, ql_6, qr_6, qk_6, qt_6⟩ := id H1
  refine mt_callV (N := mX1_isRising) (Rc := rX1_isRising) (As := []) (st := []) dX2_isWeaveSound_1 (kX1_isRising hl H1) sX1_isRising mw_182 mKX1 rfl ea_6 rfl (Nat.le_of_ble_eq_true rfl) ⟨⟨Nat.le_of_ble_eq_true rfl, Nat.le_of_ble_eq_true rfl⟩, Nat.le_of_ble_eq_true rfl, Nat.le_of_ble_eq_true rfl⟩ (fun v2 h3 n4 c5 => ?_) (fun _ _ _ hx => hx.elim)
  obtain ⟨c5a, c5b, c5c⟩ := c5
  rw [c5a, c5b, c5c]
  show mT _ _ _ _ 4 [.ref 0, .ref (2 + 3 * 0), .ref (2 + 3 * 1)] [.int (mb (q_isRising (S.1 0)))] _ _ _ _
  refine mt_if_eq dX2_isWeaveSound_4 (tgt := 25) rfl (fun q7 => ?_) (fun q7 => ?_)
  · have q7 : (q_isRising (S.1 0)) = false := mb_0.mp q7
    refine mt_iconst dX2_isWeaveSound_25 (v := nI 1) rfl ?_
    refine mt_ireturn dX2_isWeaveSound_26 rfl rfl (Nat.le_of_ble_eq_true rfl) (Nat.le_of_ble_eq_true rfl) ?_
    exact cOk.of (x := .int (nI 1)) (S' := (S.1, S.2.1, S.2.2.1, S.2.2.2.1, S.2.2.2.2)) ((congrArg (a₂ := true) (fun b => ((0 : Nat), Value.int (mb b), S)) (by simp [q_weaveSound, q7]))) rfl rfl ⟨C0, ⟨cg, C1, C1g⟩, C14, CR, ⟨_, HK15⟩, ⟨_, HK18⟩, ⟨_, HK21⟩, ⟨_, HK24⟩⟩ (fun j hj => rfl)
  · have q7 : (q_isRising (S.1 0)) = true := mb_1.mp q7
    refine mt_aload_n dX2_isWeaveSound_7 rfl rfl ?_
    have H8 : rowAt h (2 + 3 * 1) (rroom 1) (mb (decide (1 < 2))) (S.1 1) := CR 1 (by omega)
    obtain ⟨f_13, g_13, ea_13, ek_13, es_13, ql_13, qr_13, qk_13, qt_13⟩ := id H8
    refine mt_callV (N := mX1_isRising) (Rc := rX1_isRising) (As := []) (st := []) dX2_isWeaveSound_8 (kX1_isRising hl H8) sX1_isRising mw_182 mKX1 rfl ea_13 rfl (Nat.le_of_ble_eq_true rfl) ⟨⟨Nat.le_of_ble_eq_true rfl, Nat.le_of_ble_eq_true rfl⟩, Nat.le_of_ble_eq_true rfl, Nat.le_of_ble_eq_true rfl⟩ (fun v9 h10 n11 c12 => ?_) (fun _ _ _ hx => hx.elim)
    obtain ⟨c12a, c12b, c12c⟩ := c12
    rw [c12a, c12b, c12c]
    show mT _ _ _ _ 11 [.ref 0, .ref (2 + 3 * 0), .ref (2 + 3 * 1)] [.int (mb (q_isRising (S.1 1)))] _ _ _ _
    refine mt_if_eq dX2_isWeaveSound_11 (tgt := 25) rfl (fun q14 => ?_) (fun q14 => ?_)
    · have q14 : (q_isRising (S.1 1)) = false := mb_0.mp q14
      refine mt_iconst dX2_isWeaveSound_25 (v := nI 1) rfl ?_
      refine mt_ireturn dX2_isWeaveSound_26 rfl rfl (Nat.le_of_ble_eq_true rfl) (Nat.le_of_ble_eq_true rfl) ?_
      exact cOk.of (x := .int (nI 1)) (S' := (S.1, S.2.1, S.2.2.1, S.2.2.2.1, S.2.2.2.2)) ((congrArg (a₂ := true) (fun b => ((0 : Nat), Value.int (mb b), S)) (by simp [q_weaveSound, q7, q14]))) rfl rfl ⟨C0, ⟨cg, C1, C1g⟩, C14, CR, ⟨_, HK15⟩, ⟨_, HK18⟩, ⟨_, HK21⟩, ⟨_, HK24⟩⟩ (fun j hj => rfl)
    · have q14 : (q_isRising (S.1 1)) = true := mb_1.mp q14
      refine mt_aload_n dX2_isWeaveSound_14 rfl rfl ?_
      refine mt_getfield mKX1 (i := 3) (by decide) mw_76 dX2_isWeaveSound_15 ea_13 rfl ?_
      refine mt_aload_n dX2_isWeaveSound_18 rfl rfl ?_
      refine mt_callV (N := mX1_free) (Rc := rX1_free) (As := []) (st := [.int (nI ((S.1 1).length))]) dX2_isWeaveSound_19 (kX1_free hl H1) sX1_free mw_206 mKX1 rfl ea_6 rfl (Nat.le_of_ble_eq_true rfl) ⟨⟨Nat.le_of_ble_eq_true rfl, Nat.le_of_ble_eq_true rfl⟩, Nat.le_of_ble_eq_true rfl, Nat.le_of_ble_eq_true rfl⟩ (fun v15 h16 n17 c18 => ?_) (fun _ _ _ hx => hx.elim)
      obtain ⟨c18a, c18b, c18c⟩ := c18
      rw [c18a, c18b, c18c]
      show mT _ _ _ _ 22 [.ref 0, .ref (2 + 3 * 0), .ref (2 + 3 * 1)] [.int (nI ((rroom 0) - (S.1 0).length)), .int (nI ((S.1 1).length))] _ _ _ _
      refine mt_icmp_le dX2_isWeaveSound_22 (tgt := 27) rfl (fun q19 => ?_) (fun q19 => ?_)
      · have q19 := Int32.not_lt.mpr q19
        have q19 := (not_congr (nI_ltI (by omega) (by omega))).mp q19
        refine mt_aload_n dX2_isWeaveSound_27 rfl rfl ?_
        refine mt_getfield mKX2 (i := 1) (by decide) mw_113 dX2_isWeaveSound_28 C0 rfl ?_
        refine mt_getfield mKX0 (i := 1) (by decide) mw_99 dX2_isWeaveSound_31 C14 rfl ?_
        refine mt_aload_n dX2_isWeaveSound_34 rfl rfl ?_
        obtain ⟨f_24, g_24, ea_24, ek_24, es_24, ql_24, qr_24, qk_24, qt_24⟩ := id HK18
        refine mt_callV (N := mX1_become) (Rc := rX1_become) (As := [.ref (2 + 3 * 0)]) (st := []) dX2_isWeaveSound_35 (kX1_become hl HK18 H1 (by omega) (by first | omega | assumption | (simp only [List.length_append, List.length_cons, List.length_nil, span_len, Nat.sub_zero] at *; omega))) sX1_become mw_210 mKX1 rfl ea_24 rfl (Nat.le_of_ble_eq_true rfl) ⟨⟨Nat.le_of_ble_eq_true rfl, Nat.le_of_ble_eq_true rfl⟩, Nat.le_of_ble_eq_true rfl, Nat.le_of_ble_eq_true rfl⟩ (fun v20 h21 n22 c23 => ?_) (fun _ _ _ hx => hx.elim)
        obtain ⟨c23a, c23b, c23c, c23d⟩ := c23
        rw [c23a, c23b]
        show mT _ _ _ _ 38 [.ref 0, .ref (2 + 3 * 0), .ref (2 + 3 * 1)] [] _ _ _ _
        refine mt_aload_n dX2_isWeaveSound_38 rfl rfl ?_
        refine mt_getfield mKX2 (i := 1) (by decide) mw_113 dX2_isWeaveSound_39 ((c23d (0) (by omega)).trans C0) rfl ?_
        refine mt_getfield mKX0 (i := 1) (by decide) mw_99 dX2_isWeaveSound_42 ((c23d (14) (by omega)).trans C14) rfl ?_
        refine mt_aload_n dX2_isWeaveSound_45 rfl rfl ?_
        refine mt_iconst dX2_isWeaveSound_46 (v := nI 0) rfl ?_
        refine mt_aload_n dX2_isWeaveSound_47 rfl rfl ?_
        refine mt_getfield mKX1 (i := 3) (by decide) mw_76 dX2_isWeaveSound_48 ((c23d (2 + 3 * 1) (by omega)).trans ea_13) rfl ?_
        have H25 : rowAt h21 (2 + 3 * 1) (rroom 1) (mb (decide (1 < 2))) (S.1 1) := (H8).fr (fun j j1 j2 => c23d j (by omega))
        obtain ⟨f_30, g_30, ea_30, ek_30, es_30, ql_30, qr_30, qk_30, qt_30⟩ := id c23c
        refine mt_callV (N := mX1_appendSpan) (Rc := rX1_appendSpan) (As := [.ref (2 + 3 * 1), .int (nI 0), .int (nI ((S.1 1).length))]) (st := []) dX2_isWeaveSound_51 (kX1_appendSpan hl c23c H25 (by omega) (by omega) (by first | omega | assumption | (simp only [List.length_append, List.length_cons, List.length_nil, span_len, Nat.sub_zero] at *; omega)) (by omega)) sX1_appendSpan mw_211 mKX1 rfl ea_30 rfl (Nat.le_of_ble_eq_true rfl) ⟨⟨Nat.le_of_ble_eq_true rfl, Nat.le_of_ble_eq_true rfl⟩, Nat.le_of_ble_eq_true rfl, Nat.le_of_ble_eq_true rfl⟩ (fun v26 h27 n28 c29 => ?_) (fun _ _ _ hx => hx.elim)
        have al63 : ((S.1 0) ++ span (S.1 1) 0 ((S.1 1).length)).length = (S.1 0).length + (span (S.1 1) 0 ((S.1 1).length)).length := List.length_append
        have sl64 := span_len (ys := S.1 1) (i := 0) (e := (S.1 1).length) (by omega)
        obtain ⟨c29a, c29b, c29c, c29d⟩ := c29
        rw [c29a, c29b]
        show mT _ _ _ _ 54 [.ref 0, .ref (2 + 3 * 0), .ref (2 + 3 * 1)] [] _ _ _ _
        refine mt_aload_n dX2_isWeaveSound_54 rfl rfl ?_
        refine mt_getfield mKX2 (i := 1) (by decide) mw_113 dX2_isWeaveSound_55 ((c29d (0) (by omega)).trans ((c23d (0) (by omega)).trans C0)) rfl ?_
        refine mt_aload_n dX2_isWeaveSound_58 rfl rfl ?_
        refine mt_getfield mKX1 (i := 3) (by decide) mw_76 dX2_isWeaveSound_59 ((c29d (2 + 3 * 0) (by omega)).trans ((c23d (2 + 3 * 0) (by omega)).trans ea_6)) rfl ?_
        have H31 : rowAt h27 21 320 (nI 1) zs21 := ((HK21).fr (fun j j1 j2 => c23d j (by omega))).fr (fun j j1 j2 => c29d j (by omega))
        refine mt_callV (N := mX0_weaveJoined) (Rc := rX0_weaveJoined) (As := [.int (nI ((S.1 0).length))]) (st := []) dX2_isWeaveSound_62 (kX0_weaveJoined hl ((c29d (14) (by omega)).trans ((c23d (14) (by omega)).trans C14)) c29c H31 (by omega) (by omega) (by omega)) sX0_weaveJoined mw_212 mKX0 rfl ((c29d (14) (by omega)).trans ((c23d (14) (by omega)).trans C14)) rfl (Nat.le_of_ble_eq_true rfl) ⟨⟨Nat.le_of_ble_eq_true rfl, Nat.le_of_ble_eq_true rfl⟩, Nat.le_of_ble_eq_true rfl, Nat.le_of_ble_eq_true rfl⟩ (fun v32 h33 n34 c35 => ?_) (fun _ _ _ hx => hx.elim)
        have wl74 := weave_len (xs := (S.1 0) ++ span (S.1 1) 0 ((S.1 1).length)) (m := (S.1 0).length) (by omega)
        obtain ⟨c35a, c35b, c35c, c35d⟩ := c35
        rw [c35a, c35b]
        have H36 : rowAt h33 21 320 (nI 1) (weave ((S.1 0) ++ span (S.1 1) 0 ((S.1 1).length)) ((S.1 0).length)) := c35c
        show mT _ _ _ _ 65 [.ref 0, .ref (2 + 3 * 0), .ref (2 + 3 * 1)] [] _ _ _ _
        refine mt_aload_n dX2_isWeaveSound_65 rfl rfl ?_
        refine mt_getfield mKX2 (i := 1) (by decide) mw_113 dX2_isWeaveSound_66 ((c35d (0) (by omega)).trans ((c29d (0) (by omega)).trans ((c23d (0) (by omega)).trans C0))) rfl ?_
        refine mt_aload_n dX2_isWeaveSound_69 rfl rfl ?_
        refine mt_getfield mKX2 (i := 1) (by decide) mw_113 dX2_isWeaveSound_70 ((c35d (0) (by omega)).trans ((c29d (0) (by omega)).trans ((c23d (0) (by omega)).trans C0))) rfl ?_
        refine mt_getfield mKX0 (i := 1) (by decide) mw_99 dX2_isWeaveSound_73 ((c35d (14) (by omega)).trans ((c29d (14) (by omega)).trans ((c23d (14) (by omega)).trans C14))) rfl ?_
        refine mt_aload_n dX2_isWeaveSound_76 rfl rfl ?_
        refine mt_getfield mKX2 (i := 1) (by decide) mw_113 dX2_isWeaveSound_77 ((c35d (0) (by omega)).trans ((c29d (0) (by omega)).trans ((c23d (0) (by omega)).trans C0))) rfl ?_
        refine mt_getfield mKX0 (i := 0) (by decide) mw_97 dX2_isWeaveSound_80 ((c35d (14) (by omega)).trans ((c29d (14) (by omega)).trans ((c23d (14) (by omega)).trans C14))) rfl ?_
        have H37 : rowAt h33 15 320 (nI 1) zs15 := (((HK15).fr (fun j j1 j2 => c23d j (by omega))).fr (fun j j1 j2 => c29d j (by omega))).fr (fun j j1 j2 => c35d j (by omega))
        have H38 : rowAt h33 18 320 (nI 1) ((S.1 0) ++ span (S.1 1) 0 ((S.1 1).length)) := (c29c).fr (fun j j1 j2 => c35d j (by omega))
        have H39 : rowAt h33 24 320 (nI 1) zs24 := (((HK24).fr (fun j j1 j2 => c23d j (by omega))).fr (fun j j1 j2 => c29d j (by omega))).fr (fun j j1 j2 => c35d j (by omega))
        refine mt_callV (N := mX0_sortUp) (Rc := rX0_sortUp) (As := [.ref 18, .ref 15]) (st := []) dX2_isWeaveSound_83 (kX0_sortUp hl ((c35d (14) (by omega)).trans ((c29d (14) (by omega)).trans ((c23d (14) (by omega)).trans C14))) H37 H38 H39 (by omega) (by omega) (by omega) (by omega)) sX0_sortUp mw_143 mKX0 rfl ((c35d (14) (by omega)).trans ((c29d (14) (by omega)).trans ((c23d (14) (by omega)).trans C14))) rfl (Nat.le_of_ble_eq_true rfl) ⟨⟨Nat.le_of_ble_eq_true rfl, Nat.le_of_ble_eq_true rfl⟩, Nat.le_of_ble_eq_true rfl, Nat.le_of_ble_eq_true rfl⟩ (fun v40 h41 n42 c43 => ?_) (fun _ _ _ hx => hx.elim)
        obtain ⟨c43a, c43b, c43c, ⟨c43z, c43d⟩, c43e⟩ := c43
        rw [c43a, c43b]
        have c43f : ∀ j, ((j < 15 ∨ 15 + 3 ≤ j) ∧ (j < 24 ∨ 24 + 3 ≤ j)) → h41 j = h33 j := fun j hj => c43e j hj.1 hj.2
        have mlc43 := msort_len (ys := (S.1 0) ++ span (S.1 1) 0 ((S.1 1).length))
        show mT _ _ _ _ 86 [.ref 0, .ref (2 + 3 * 0), .ref (2 + 3 * 1)] [.int ((msort ((S.1 0) ++ span (S.1 1) 0 ((S.1 1).length))).2)] _ _ _ _
        refine mt_pop dX2_isWeaveSound_86 rfl ?_
        refine mt_aload_n dX2_isWeaveSound_87 rfl rfl ?_
        refine mt_getfield mKX2 (i := 1) (by decide) mw_113 dX2_isWeaveSound_88 ((c43f (0) (by omega)).trans ((c35d (0) (by omega)).trans ((c29d (0) (by omega)).trans ((c23d (0) (by omega)).trans C0)))) rfl ?_
        refine mt_getfield mKX0 (i := 2) (by decide) mw_101 dX2_isWeaveSound_91 ((c43f (14) (by omega)).trans ((c35d (14) (by omega)).trans ((c29d (14) (by omega)).trans ((c23d (14) (by omega)).trans C14)))) rfl ?_
        obtain ⟨f_44, g_44, ea_44, ek_44, es_44, ql_44, qr_44, qk_44, qt_44⟩ := id (H36).fr (fun j j1 j2 => c43f j (by omega))
        refine mt_getfield mKX1 (i := 3) (by decide) mw_76 dX2_isWeaveSound_94 ea_44 rfl ?_
        refine mt_aload_n dX2_isWeaveSound_97 rfl rfl ?_
        refine mt_getfield mKX2 (i := 1) (by decide) mw_113 dX2_isWeaveSound_98 ((c43f (0) (by omega)).trans ((c35d (0) (by omega)).trans ((c29d (0) (by omega)).trans ((c23d (0) (by omega)).trans C0)))) rfl ?_
        refine mt_getfield mKX0 (i := 0) (by decide) mw_97 dX2_isWeaveSound_101 ((c43f (14) (by omega)).trans ((c35d (14) (by omega)).trans ((c29d (14) (by omega)).trans ((c23d (14) (by omega)).trans C14)))) rfl ?_
        obtain ⟨f_45, g_45, ea_45, ek_45, es_45, ql_45, qr_45, qk_45, qt_45⟩ := id c43c
        refine mt_getfield mKX1 (i := 3) (by decide) mw_76 dX2_isWeaveSound_104 ea_45 rfl ?_
        refine mt_icmp_ne dX2_isWeaveSound_107 (tgt := 134) rfl (fun q46 => ?_) (fun q46 => ?_)
        · have q46 := (not_congr (nI_eq (by omega) (by omega))).mp q46
          refine mt_iconst dX2_isWeaveSound_134 (v := nI 0) rfl ?_
          refine mt_ireturn dX2_isWeaveSound_135 rfl rfl (Nat.le_of_ble_eq_true rfl) (Nat.le_of_ble_eq_true rfl) ?_
          exact cOk.of (x := .int (nI 0)) (S' := (S.1, S.2.1, S.2.2.1, S.2.2.2.1, S.2.2.2.2)) ((congrArg (a₂ := false) (fun b => ((0 : Nat), Value.int (mb b), S)) (by simp [q_weaveSound, q7, q14, decide_eq_false q19, decide_eq_false q46]))) rfl rfl ⟨(c43f (0) (by omega)).trans ((c35d (0) (by omega)).trans ((c29d (0) (by omega)).trans ((c23d (0) (by omega)).trans C0))), ⟨cg, (c43f (1) (by omega)).trans ((c35d (1) (by omega)).trans ((c29d (1) (by omega)).trans ((c23d (1) (by omega)).trans C1))), C1g⟩, (c43f (14) (by omega)).trans ((c35d (14) (by omega)).trans ((c29d (14) (by omega)).trans ((c23d (14) (by omega)).trans C14))), cRows0 CR (fun j j1 j2 => (c43f j (by omega)).trans ((c35d j (by omega)).trans ((c29d j (by omega)).trans (c23d j (by omega))))), ⟨_, c43c⟩, ⟨_, (H38).fr (fun j j1 j2 => c43f j (by omega))⟩, ⟨_, (H36).fr (fun j j1 j2 => c43f j (by omega))⟩, ⟨_, c43d⟩⟩ (fun j hj => (c43f j (by omega)).trans ((c35d j (by omega)).trans ((c29d j (by omega)).trans (c23d j (by omega)))))
        · have q46 := (nI_eq (by omega) (by omega)).mp q46
          refine mt_aload_n dX2_isWeaveSound_110 rfl rfl ?_
          refine mt_getfield mKX2 (i := 1) (by decide) mw_113 dX2_isWeaveSound_111 ((c43f (0) (by omega)).trans ((c35d (0) (by omega)).trans ((c29d (0) (by omega)).trans ((c23d (0) (by omega)).trans C0)))) rfl ?_
          refine mt_getfield mKX0 (i := 2) (by decide) mw_101 dX2_isWeaveSound_114 ((c43f (14) (by omega)).trans ((c35d (14) (by omega)).trans ((c29d (14) (by omega)).trans ((c23d (14) (by omega)).trans C14)))) rfl ?_
          refine mt_aload_n dX2_isWeaveSound_117 rfl rfl ?_
          refine mt_getfield mKX2 (i := 1) (by decide) mw_113 dX2_isWeaveSound_118 ((c43f (0) (by omega)).trans ((c35d (0) (by omega)).trans ((c29d (0) (by omega)).trans ((c23d (0) (by omega)).trans C0)))) rfl ?_
          refine mt_getfield mKX0 (i := 0) (by decide) mw_97 dX2_isWeaveSound_121 ((c43f (14) (by omega)).trans ((c35d (14) (by omega)).trans ((c29d (14) (by omega)).trans ((c23d (14) (by omega)).trans C14)))) rfl ?_
          have H47 : rowAt h41 21 320 (nI 1) (weave ((S.1 0) ++ span (S.1 1) 0 ((S.1 1).length)) ((S.1 0).length)) := (H36).fr (fun j j1 j2 => c43f j (by omega))
          refine mt_callV (N := mX1_otherItems) (Rc := rX1_otherItems) (As := [.ref 15]) (st := []) dX2_isWeaveSound_124 (kX1_otherItems hl H47 c43c) sX1_otherItems mw_216 mKX1 rfl ea_44 rfl (Nat.le_of_ble_eq_true rfl) ⟨⟨Nat.le_of_ble_eq_true rfl, Nat.le_of_ble_eq_true rfl⟩, Nat.le_of_ble_eq_true rfl, Nat.le_of_ble_eq_true rfl⟩ (fun v48 h49 n50 c51 => ?_) (fun _ _ _ hx => hx.elim)
          obtain ⟨c51a, c51b, c51c⟩ := c51
          rw [c51a, c51b, c51c]
          show mT _ _ _ _ 127 [.ref 0, .ref (2 + 3 * 0), .ref (2 + 3 * 1)] [.int (q_otherItems (weave ((S.1 0) ++ span (S.1 1) 0 ((S.1 1).length)) ((S.1 0).length)) ((msort ((S.1 0) ++ span (S.1 1) 0 ((S.1 1).length))).1))] _ _ _ _
          refine mt_if_ne dX2_isWeaveSound_127 (tgt := 134) rfl (fun q52 => ?_) (fun q52 => ?_)
          · refine mt_iconst dX2_isWeaveSound_134 (v := nI 0) rfl ?_
            refine mt_ireturn dX2_isWeaveSound_135 rfl rfl (Nat.le_of_ble_eq_true rfl) (Nat.le_of_ble_eq_true rfl) ?_
            exact cOk.of (x := .int (nI 0)) (S' := (S.1, S.2.1, S.2.2.1, S.2.2.2.1, S.2.2.2.2)) ((congrArg (a₂ := false) (fun b => ((0 : Nat), Value.int (mb b), S)) (by simp [q_weaveSound, q7, q14, decide_eq_false q19, decide_eq_true q46, decide_eq_false q52]))) rfl rfl ⟨(c43f (0) (by omega)).trans ((c35d (0) (by omega)).trans ((c29d (0) (by omega)).trans ((c23d (0) (by omega)).trans C0))), ⟨cg, (c43f (1) (by omega)).trans ((c35d (1) (by omega)).trans ((c29d (1) (by omega)).trans ((c23d (1) (by omega)).trans C1))), C1g⟩, (c43f (14) (by omega)).trans ((c35d (14) (by omega)).trans ((c29d (14) (by omega)).trans ((c23d (14) (by omega)).trans C14))), cRows0 CR (fun j j1 j2 => (c43f j (by omega)).trans ((c35d j (by omega)).trans ((c29d j (by omega)).trans (c23d j (by omega))))), ⟨_, c43c⟩, ⟨_, (H38).fr (fun j j1 j2 => c43f j (by omega))⟩, ⟨_, H47⟩, ⟨_, c43d⟩⟩ (fun j hj => (c43f j (by omega)).trans ((c35d j (by omega)).trans ((c29d j (by omega)).trans (c23d j (by omega)))))
          · refine mt_iconst dX2_isWeaveSound_130 (v := nI 1) rfl ?_
            refine mt_goto dX2_isWeaveSound_131 (tgt := 135) rfl ?_
            refine mt_ireturn dX2_isWeaveSound_135 rfl rfl (Nat.le_of_ble_eq_true rfl) (Nat.le_of_ble_eq_true rfl) ?_
            exact cOk.of (x := .int (nI 1)) (S' := (S.1, S.2.1, S.2.2.1, S.2.2.2.1, S.2.2.2.2)) ((congrArg (a₂ := true) (fun b => ((0 : Nat), Value.int (mb b), S)) (by simp [q_weaveSound, q7, q14, decide_eq_false q19, decide_eq_true q46, decide_eq_true q52]))) rfl rfl ⟨(c43f (0) (by omega)).trans ((c35d (0) (by omega)).trans ((c29d (0) (by omega)).trans ((c23d (0) (by omega)).trans C0))), ⟨cg, (c43f (1) (by omega)).trans ((c35d (1) (by omega)).trans ((c29d (1) (by omega)).trans ((c23d (1) (by omega)).trans C1))), C1g⟩, (c43f (14) (by omega)).trans ((c35d (14) (by omega)).trans ((c29d (14) (by omega)).trans ((c23d (14) (by omega)).trans C14))), cRows0 CR (fun j j1 j2 => (c43f j (by omega)).trans ((c35d j (by omega)).trans ((c29d j (by omega)).trans (c23d j (by omega))))), ⟨_, c43c⟩, ⟨_, (H38).fr (fun j j1 j2 => c43f j (by omega))⟩, ⟨_, H47⟩, ⟨_, c43d⟩⟩ (fun j hj => (c43f j (by omega)).trans ((c35d j (by omega)).trans ((c29d j (by omega)).trans (c23d j (by omega)))))
      · have q19 := Int32.not_le.mp q19
        have q19 := (nI_ltI (by omega) (by omega)).mp q19
        refine mt_iconst dX2_isWeaveSound_25 (v := nI 1) rfl ?_
        refine mt_ireturn dX2_isWeaveSound_26 rfl rfl (Nat.le_of_ble_eq_true rfl) (Nat.le_of_ble_eq_true rfl) ?_
        exact cOk.of (x := .int (nI 1)) (S' := (S.1, S.2.1, S.2.2.1, S.2.2.2.1, S.2.2.2.2)) ((congrArg (a₂ := true) (fun b => ((0 : Nat), Value.int (mb b), S)) (by simp [q_weaveSound, q7, q14, decide_eq_true q19]))) rfl rfl ⟨C0, ⟨cg, C1, C1g⟩, C14, CR, ⟨_, HK15⟩, ⟨_, HK18⟩, ⟨_, HK21⟩, ⟨_, HK24⟩⟩ (fun j hj => rfl)
def q_sound (S : cS) : Bool := mall (fun i => q_rowSound (S.1 i)) (4 - 0) 0 && q_weaveSound (S.1 0) (S.1 1) (rroom 0)
abbrev rX2_isSound : Room := { frames := 6, cells := 0, slots := 0, locals := 146 }
set_option maxRecDepth 100000 in
set_option maxHeartbeats 2000000 in
theorem tX2_isSound_2 {l : Launch} {K : mK} {n : Nat} {S : cS} {r : Bool} {h0 : mH} (hl : l.stackTraces = false) (kk0 : ∀ (i : Nat) (h : mH), (cAt h S) → (∀ j, 27 ≤ j → h j = h0 j) → (r = true) → mT l mX2_isSound rX2_isSound K 32 [.ref 0, .int (nI i)] [] h n 0 0) (kk1 : ∀ (i : Nat) (h : mH), (cAt h S) → (∀ j, 27 ≤ j → h j = h0 j) → (r = false) → mT l mX2_isSound rX2_isSound K 24 [.ref 0, .int (nI i)] [] h n 0 0) : ∀ (N0 : Nat) (i : Nat) (h : mH), (4 - i) < N0 → (cAt h S) → (∀ j, 27 ≤ j → h j = h0 j) → (mall (fun i => q_rowSound (S.1 i)) (4 - i) i = r) → (i ≤ 4) → mT l mX2_isSound rX2_isSound K 2 [.ref 0, .int (nI i)] [] h n 0 0 := by
  intro N0
  induction N0 with
  | zero => intro i h hm; exact absurd hm (Nat.not_lt_zero _)
  | succ N0 ih =>
    intro i h hm C hfr hr hi
    obtain ⟨C0_1, ⟨cg_1, C1_1, C1g_1⟩, C14_1, CR_1, ⟨zs15_1, HK15_1⟩, ⟨zs18_1, HK18_1⟩, ⟨zs21_1, HK21_1⟩, ⟨zs24_1, HK24_1⟩⟩ := id C
    refine mt_iload_n dX2_isSound_2 rfl ?_
    refine mt_aload_n dX2_isSound_3 rfl rfl ?_
    refine mt_getfield mKX2 (i := 0) (by decide) mw_112 dX2_isSound_4 C0_1 rfl ?_
    refine mt_alenq dX2_isSound_7 C1_1 (fun _ => rfl) ?_
    refine mt_icmp_ge dX2_isSound_8 (tgt := 32) rfl (fun q2 => ?_) (fun q2 => ?_)
    · have q2 := Int32.not_lt.mpr q2
      have q2 := (not_congr (nI_ltI (by omega) (by omega))).mp q2
      exact kk0 i h C hfr (((mall_end (p := fun i => q_rowSound (S.1 i)) (by omega)).symm.trans hr).symm)
    · have q2 := Int32.not_le.mp q2
      have q2 := (nI_ltI (by omega) (by omega)).mp q2
      refine mt_aload_n dX2_isSound_11 rfl rfl ?_
      refine mt_aload_n dX2_isSound_12 rfl rfl ?_
      refine mt_getfield mKX2 (i := 0) (by decide) mw_112 dX2_isSound_13 C0_1 rfl ?_
      refine mt_iload_n dX2_isSound_16 rfl ?_
      refine mp_aaload dX2_isSound_17 C1_1 (fun _ => rfl) rfl rfl (by omega) (by omega) (v := .ref (2 + 3 * i)) (by rw [C1g_1 _ (by omega)]; rfl) ?_
      refine mt_callV (N := mX2_isRowSound) (Rc := rX2_isRowSound) (As := [.ref (2 + 3 * i)]) (st := []) dX2_isSound_18 (kX2_isRowSound hl C (by omega)) sX2_isRowSound mw_139 mKX2 rfl C0_1 rfl (Nat.le_of_ble_eq_true rfl) ⟨⟨Nat.le_of_ble_eq_true rfl, Nat.le_of_ble_eq_true rfl⟩, Nat.le_of_ble_eq_true rfl, Nat.le_of_ble_eq_true rfl⟩ (fun v3 h4 n5 c6 => ?_) (fun _ _ _ hx => hx.elim)
      obtain ⟨-, c6a, c6b, c6c, c6d⟩ := c6
      rw [c6a, c6b]
      obtain ⟨C0_7, ⟨cg_7, C1_7, C1g_7⟩, C14_7, CR_7, ⟨zs15_7, HK15_7⟩, ⟨zs18_7, HK18_7⟩, ⟨zs21_7, HK21_7⟩, ⟨zs24_7, HK24_7⟩⟩ := id c6c
      show mT _ _ _ _ 21 [.ref 0, .int (nI i)] [.int (mb (q_rowSound (S.1 i)))] _ _ _ _
      refine mt_if_ne dX2_isSound_21 (tgt := 26) rfl (fun q8 => ?_) (fun q8 => ?_)
      · have q8 : (q_rowSound (S.1 i)) = true := mb_1.mp q8
        refine mp_iinc dX2_isSound_26 rfl (v := nI (i + 1)) mI_inc (ls' := [.ref 0, .int (nI (i + 1))]) rfl (by decide) rfl ?_
        refine mt_goto dX2_isSound_29 (tgt := 2) rfl ?_
        exact ih (i + 1) h4 (by omega) c6c (fun j hj => (c6d j (by omega)).trans (hfr j hj)) ((mall_go (p := fun i => q_rowSound (S.1 i)) (by omega) q8).symm.trans hr) (by omega)
      · have q8 : (q_rowSound (S.1 i)) = false := mb_0.mp q8
        exact kk1 i h4 c6c (fun j hj => (c6d j (by omega)).trans (hfr j hj)) (((mall_no (p := fun i => q_rowSound (S.1 i)) (by omega) q8).symm.trans hr).symm)
set_option maxRecDepth 100000 in
set_option maxHeartbeats 2000000 in
theorem kX2_isSound {l : Launch} (hl : l.stackTraces = false) {h : mH} {n : Nat} {S : cS} (C : cAt h S) : mC l mX2_isSound rX2_isSound [.ref 0] h n (cOk ((0 : Nat), Value.int (mb (q_sound S)), S) h n) (mNX) := by
  obtain ⟨C0_1, ⟨cg_1, C1_1, C1g_1⟩, C14_1, CR_1, ⟨zs15_1, HK15_1⟩, ⟨zs18_1, HK18_1⟩, ⟨zs21_1, HK21_1⟩, ⟨zs24_1, HK24_1⟩⟩ := id C
  refine mm_enter hl (by decide +kernel) rfl rfl rfl (Nat.le_of_ble_eq_true rfl) ?_
  show mT _ _ _ _ 0 [.ref 0, .double 0] [] _ _ 0 0
  refine mt_iconst dX2_isSound_0 (v := nI 0) rfl ?_
  refine mp_istore_n dX2_isSound_1 (ls' := [.ref 0, .int (nI 0)]) rfl (by decide) rfl ?_
  refine tX2_isSound_2 hl (fun i_2 h_3 z4 z5 z6 => ?_) (fun i_7 h_8 z9 z10 z11 => ?_) _ 0 h (Nat.lt_succ_self _) C (fun _ _ => rfl) rfl (by omega)
  obtain ⟨C0_12, ⟨cg_12, C1_12, C1g_12⟩, C14_12, CR_12, ⟨zs15_12, HK15_12⟩, ⟨zs18_12, HK18_12⟩, ⟨zs21_12, HK21_12⟩, ⟨zs24_12, HK24_12⟩⟩ := id z4
  · refine mt_aload_n dX2_isSound_32 rfl rfl ?_
    refine mt_aload_n dX2_isSound_33 rfl rfl ?_
    refine mt_getfield mKX2 (i := 0) (by decide) mw_112 dX2_isSound_34 C0_12 rfl ?_
    refine mt_iconst dX2_isSound_37 (v := nI 0) rfl ?_
    refine mp_aaload dX2_isSound_38 C1_12 (fun _ => rfl) rfl rfl (by omega) (by omega) (v := .ref (2 + 3 * 0)) (by rw [C1g_12 _ (by omega)]; rfl) ?_
    refine mt_aload_n dX2_isSound_39 rfl rfl ?_
    refine mt_getfield mKX2 (i := 0) (by decide) mw_112 dX2_isSound_40 C0_12 rfl ?_
    refine mt_iconst dX2_isSound_43 (v := nI 1) rfl ?_
    refine mp_aaload dX2_isSound_44 C1_12 (fun _ => rfl) rfl rfl (by omega) (by omega) (v := .ref (2 + 3 * 1)) (by rw [C1g_12 _ (by omega)]; rfl) ?_
    refine mt_callV (N := mX2_isWeaveSound) (Rc := rX2_isWeaveSound) (As := [.ref (2 + 3 * 0), .ref (2 + 3 * 1)]) (st := []) dX2_isSound_45 (kX2_isWeaveSound hl z4) sX2_isWeaveSound mw_202 mKX2 rfl C0_12 rfl (Nat.le_of_ble_eq_true rfl) ⟨⟨Nat.le_of_ble_eq_true rfl, Nat.le_of_ble_eq_true rfl⟩, Nat.le_of_ble_eq_true rfl, Nat.le_of_ble_eq_true rfl⟩ (fun v13 h14 n15 c16 => ?_) (fun _ _ _ hx => hx.elim)
    obtain ⟨-, c16a, c16b, c16c, c16d⟩ := c16
    rw [c16a, c16b]
    obtain ⟨C0_17, ⟨cg_17, C1_17, C1g_17⟩, C14_17, CR_17, ⟨zs15_17, HK15_17⟩, ⟨zs18_17, HK18_17⟩, ⟨zs21_17, HK21_17⟩, ⟨zs24_17, HK24_17⟩⟩ := id c16c
    show mT _ _ _ _ 48 [.ref 0, .int (nI i_2)] [.int (mb (q_weaveSound (S.1 0) (S.1 1) (rroom 0)))] _ _ _ _
    refine mt_ireturn dX2_isSound_48 rfl narrow_mb (Nat.le_of_ble_eq_true rfl) (Nat.le_of_ble_eq_true rfl) ?_
    exact cOk.of (x := .int (mb (q_weaveSound (S.1 0) (S.1 1) (rroom 0)))) (S' := S) (congrArg (fun b => ((0 : Nat), Value.int (mb b), S)) (by simp only [q_sound, z6, Bool.false_and, Bool.true_and])) rfl rfl c16c (fun j hj => (c16d j hj).trans (z5 j hj))
  obtain ⟨C0_18, ⟨cg_18, C1_18, C1g_18⟩, C14_18, CR_18, ⟨zs15_18, HK15_18⟩, ⟨zs18_18, HK18_18⟩, ⟨zs21_18, HK21_18⟩, ⟨zs24_18, HK24_18⟩⟩ := id z9
  · refine mt_iconst dX2_isSound_24 (v := nI 0) rfl ?_
    refine mt_ireturn dX2_isSound_25 rfl rfl (Nat.le_of_ble_eq_true rfl) (Nat.le_of_ble_eq_true rfl) ?_
    exact cOk.of (x := .int (mb (false))) (S' := S) (congrArg (fun b => ((0 : Nat), Value.int (mb b), S)) (by simp only [q_sound, z11, Bool.false_and, Bool.true_and])) rfl rfl z9 (fun j hj => z10 j hj)
abbrev rX2_init : Room := { frames := 3, cells := 26, slots := 5160, locals := 63 }
def cS0 : cS := (fun _ => [], nI 0, nI 0, nI 0, nI 0)
set_option maxRecDepth 100000 in
set_option maxHeartbeats 2000000 in
theorem kX2_init {l : Launch} (hl : l.stackTraces = false) {h : mH} (H : h 0 = .inr (.inr (4, [.null, .null, .int (nI 0), .int (nI 0), .int (nI 0), .int (nI 0)]))) : mC l mX2_init rX2_init [.ref 0] h 1 (fun v h' n' => v = none ∧ n' = 27 ∧ cAt h' cS0) (mNX) := by
  refine mm_enter hl (by decide +kernel) rfl rfl rfl (Nat.le_of_ble_eq_true rfl) ?_
  show mT _ _ _ _ 0 [.ref 0] [] _ _ 0 0
  refine mt_aload_n dX2_init_0 rfl rfl ?_
  refine mt_objInit dX2_init_1 mw_57 mw_58 mw_59 (Nat.le_of_ble_eq_true rfl) ⟨Nat.le_of_ble_eq_true rfl, Nat.le_of_ble_eq_true rfl⟩ ?_
  refine mt_aload_n dX2_init_4 rfl rfl ?_
  refine mt_iconst dX2_init_5 (v := nI 4) rfl ?_
  refine mp_anewrow dX2_init_6 mw_60 rfl (by omega) (by simp only [rX2_init]; omega) (by simp only [rX2_init]; omega) (fun h1 e2 f3 => ?_)
  refine mp_putfinal mKX2 (i := 0) (fs' := [.ref 1, .null, .int (nI 0), .int (nI 0), .int (nI 0), .int (nI 0)]) (by decide) mw_112 rfl rfl rfl dX2_init_9 ((f3 (0) (by omega)).trans H) (Nat.le_of_ble_eq_true rfl) rfl rfl (fun h4 e5 f6 => ?_)
  refine mt_aload_n dX2_init_12 rfl rfl ?_
  refine mt_getfield mKX2 (i := 0) (by decide) mw_112 dX2_init_13 e5 rfl ?_
  refine mt_iconst dX2_init_16 (v := nI 0) rfl ?_
  refine mp_new mKX1 dX2_init_17 mw_60 mw_62 mw_32 (fs := [.null, .null, .int (nI 0), .int (nI 0)]) mDX1 (mdf_ok rfl) (by simp only [rX2_init]; omega) (by simp only [rX2_init]; omega) (fun h7 e8 f9 => ?_)
  refine mt_dup dX2_init_20 rfl ?_
  refine mt_sipush dX2_init_21 (v := nI 150) (by decide) ?_
  refine mt_iconst dX2_init_24 (v := nI 1) rfl ?_
  refine mt_callI (N := mX1_init) (Rc := rX1_init) (As := [.int (nI 150), .int (nI 1)]) (st := [.ref 2, .int (nI 0), .ref 1]) dX2_init_25 (kX1_init hl e8 (by decide) rfl) sX1_init mw_63 rfl (Nat.le_of_ble_eq_true rfl) ⟨⟨Nat.le_of_ble_eq_true rfl, Nat.le_of_ble_eq_true rfl⟩, Nat.le_of_ble_eq_true rfl, Nat.le_of_ble_eq_true rfl⟩ (fun v10 h11 n12 c13 => ?_)
  obtain ⟨c13a, c13b, c13c, c13d⟩ := c13
  rw [c13a, c13b]
  show mT _ _ _ _ 28 [.ref 0] [.ref 2, .int (nI 0), .ref 1] _ _ _ _
  obtain ⟨f_14, g_14, ea_14, ek_14, es_14, ql_14, qr_14, qk_14, qt_14⟩ := id c13c
  refine mp_aastoreR dX2_init_28 ((c13d (1) (by omega)).trans ((f9 (1) (by omega)).trans ((f6 (1) (by omega)).trans e2))) ea_14 rfl (by omega) (by omega) (fun h15 e16 f17 => ?_)
  refine mt_aload_n dX2_init_29 rfl rfl ?_
  refine mt_getfield mKX2 (i := 0) (by decide) mw_112 dX2_init_30 ((f17 (0) (by omega)).trans ((c13d (0) (by omega)).trans ((f9 (0) (by omega)).trans e5))) rfl ?_
  refine mt_iconst dX2_init_33 (v := nI 1) rfl ?_
  refine mp_new mKX1 dX2_init_34 mw_60 mw_62 mw_32 (fs := [.null, .null, .int (nI 0), .int (nI 0)]) mDX1 (mdf_ok rfl) (by simp only [rX2_init]; omega) (by simp only [rX2_init]; omega) (fun h18 e19 f20 => ?_)
  refine mt_dup dX2_init_37 rfl ?_
  refine mt_sipush dX2_init_38 (v := nI 150) (by decide) ?_
  refine mt_iconst dX2_init_41 (v := nI 1) rfl ?_
  refine mt_callI (N := mX1_init) (Rc := rX1_init) (As := [.int (nI 150), .int (nI 1)]) (st := [.ref 5, .int (nI 1), .ref 1]) dX2_init_42 (kX1_init hl e19 (by decide) rfl) sX1_init mw_63 rfl (Nat.le_of_ble_eq_true rfl) ⟨⟨Nat.le_of_ble_eq_true rfl, Nat.le_of_ble_eq_true rfl⟩, Nat.le_of_ble_eq_true rfl, Nat.le_of_ble_eq_true rfl⟩ (fun v21 h22 n23 c24 => ?_)
  obtain ⟨c24a, c24b, c24c, c24d⟩ := c24
  rw [c24a, c24b]
  show mT _ _ _ _ 45 [.ref 0] [.ref 5, .int (nI 1), .ref 1] _ _ _ _
  obtain ⟨f_25, g_25, ea_25, ek_25, es_25, ql_25, qr_25, qk_25, qt_25⟩ := id c24c
  refine mp_aastoreR dX2_init_45 ((c24d (1) (by omega)).trans ((f20 (1) (by omega)).trans e16)) ea_25 rfl (by omega) (by omega) (fun h26 e27 f28 => ?_)
  refine mt_aload_n dX2_init_46 rfl rfl ?_
  refine mt_getfield mKX2 (i := 0) (by decide) mw_112 dX2_init_47 ((f28 (0) (by omega)).trans ((c24d (0) (by omega)).trans ((f20 (0) (by omega)).trans ((f17 (0) (by omega)).trans ((c13d (0) (by omega)).trans ((f9 (0) (by omega)).trans e5)))))) rfl ?_
  refine mt_iconst dX2_init_50 (v := nI 2) rfl ?_
  refine mp_new mKX1 dX2_init_51 mw_60 mw_62 mw_32 (fs := [.null, .null, .int (nI 0), .int (nI 0)]) mDX1 (mdf_ok rfl) (by simp only [rX2_init]; omega) (by simp only [rX2_init]; omega) (fun h29 e30 f31 => ?_)
  refine mt_dup dX2_init_54 rfl ?_
  refine mt_sipush dX2_init_55 (v := nI 150) (by decide) ?_
  refine mt_iconst dX2_init_58 (v := nI 0) rfl ?_
  refine mt_callI (N := mX1_init) (Rc := rX1_init) (As := [.int (nI 150), .int (nI 0)]) (st := [.ref 8, .int (nI 2), .ref 1]) dX2_init_59 (kX1_init hl e30 (by decide) rfl) sX1_init mw_63 rfl (Nat.le_of_ble_eq_true rfl) ⟨⟨Nat.le_of_ble_eq_true rfl, Nat.le_of_ble_eq_true rfl⟩, Nat.le_of_ble_eq_true rfl, Nat.le_of_ble_eq_true rfl⟩ (fun v32 h33 n34 c35 => ?_)
  obtain ⟨c35a, c35b, c35c, c35d⟩ := c35
  rw [c35a, c35b]
  show mT _ _ _ _ 62 [.ref 0] [.ref 8, .int (nI 2), .ref 1] _ _ _ _
  obtain ⟨f_36, g_36, ea_36, ek_36, es_36, ql_36, qr_36, qk_36, qt_36⟩ := id c35c
  refine mp_aastoreR dX2_init_62 ((c35d (1) (by omega)).trans ((f31 (1) (by omega)).trans e27)) ea_36 rfl (by omega) (by omega) (fun h37 e38 f39 => ?_)
  refine mt_aload_n dX2_init_63 rfl rfl ?_
  refine mt_getfield mKX2 (i := 0) (by decide) mw_112 dX2_init_64 ((f39 (0) (by omega)).trans ((c35d (0) (by omega)).trans ((f31 (0) (by omega)).trans ((f28 (0) (by omega)).trans ((c24d (0) (by omega)).trans ((f20 (0) (by omega)).trans ((f17 (0) (by omega)).trans ((c13d (0) (by omega)).trans ((f9 (0) (by omega)).trans e5))))))))) rfl ?_
  refine mt_iconst dX2_init_67 (v := nI 3) rfl ?_
  refine mp_new mKX1 dX2_init_68 mw_60 mw_62 mw_32 (fs := [.null, .null, .int (nI 0), .int (nI 0)]) mDX1 (mdf_ok rfl) (by simp only [rX2_init]; omega) (by simp only [rX2_init]; omega) (fun h40 e41 f42 => ?_)
  refine mt_dup dX2_init_71 rfl ?_
  refine mt_sipush dX2_init_72 (v := nI 320) (by decide) ?_
  refine mt_iconst dX2_init_75 (v := nI 0) rfl ?_
  refine mt_callI (N := mX1_init) (Rc := rX1_init) (As := [.int (nI 320), .int (nI 0)]) (st := [.ref 11, .int (nI 3), .ref 1]) dX2_init_76 (kX1_init hl e41 (by decide) rfl) sX1_init mw_63 rfl (Nat.le_of_ble_eq_true rfl) ⟨⟨Nat.le_of_ble_eq_true rfl, Nat.le_of_ble_eq_true rfl⟩, Nat.le_of_ble_eq_true rfl, Nat.le_of_ble_eq_true rfl⟩ (fun v43 h44 n45 c46 => ?_)
  obtain ⟨c46a, c46b, c46c, c46d⟩ := c46
  rw [c46a, c46b]
  show mT _ _ _ _ 79 [.ref 0] [.ref 11, .int (nI 3), .ref 1] _ _ _ _
  obtain ⟨f_47, g_47, ea_47, ek_47, es_47, ql_47, qr_47, qk_47, qt_47⟩ := id c46c
  refine mp_aastoreR dX2_init_79 ((c46d (1) (by omega)).trans ((f42 (1) (by omega)).trans e38)) ea_47 rfl (by omega) (by omega) (fun h48 e49 f50 => ?_)
  refine mt_aload_n dX2_init_80 rfl rfl ?_
  refine mp_new mKX0 dX2_init_81 mw_88 mw_89 mw_33 (fs := [.null, .null, .null, .null]) mDX0 (mdf_ok rfl) (by simp only [rX2_init]; omega) (by simp only [rX2_init]; omega) (fun h51 e52 f53 => ?_)
  refine mt_dup dX2_init_84 rfl ?_
  refine mt_sipush dX2_init_85 (v := nI 320) (by decide) ?_
  refine mt_callI (N := mX0_init) (Rc := rX0_init) (As := [.int (nI 320)]) (st := [.ref 14, .ref 0]) dX2_init_88 (kX0_init hl e52) sX0_init mw_90 rfl (Nat.le_of_ble_eq_true rfl) ⟨⟨Nat.le_of_ble_eq_true rfl, Nat.le_of_ble_eq_true rfl⟩, Nat.le_of_ble_eq_true rfl, Nat.le_of_ble_eq_true rfl⟩ (fun v54 h55 n56 c57 => ?_)
  obtain ⟨c57a, c57b, c57c, c57d, c57e, c57f, c57g, c57i⟩ := c57
  rw [c57a, c57b]
  show mT _ _ _ _ 91 [.ref 0] [.ref 14, .ref 0] _ _ _ _
  refine mp_putfinal mKX2 (i := 1) (fs' := [.ref 1, .ref 14, .int (nI 0), .int (nI 0), .int (nI 0), .int (nI 0)]) (by decide) mw_113 rfl rfl rfl dX2_init_91 ((c57i (0) (by omega)).trans ((f53 (0) (by omega)).trans ((f50 (0) (by omega)).trans ((c46d (0) (by omega)).trans ((f42 (0) (by omega)).trans ((f39 (0) (by omega)).trans ((c35d (0) (by omega)).trans ((f31 (0) (by omega)).trans ((f28 (0) (by omega)).trans ((c24d (0) (by omega)).trans ((f20 (0) (by omega)).trans ((f17 (0) (by omega)).trans ((c13d (0) (by omega)).trans ((f9 (0) (by omega)).trans e5)))))))))))))) (Nat.le_of_ble_eq_true rfl) rfl rfl (fun h58 e59 f60 => ?_)
  refine mt_return dX2_init_94 rfl (by simp only [rX2_init]; omega) (by simp only [rX2_init]; omega) ?_
  have H61 : rowAt h58 2 150 (nI 1) ([]) := (((((((((((((c13c).fr (fun j j1 j2 => f17 j (by omega))).fr (fun j j1 j2 => f20 j (by omega))).fr (fun j j1 j2 => c24d j (by omega))).fr (fun j j1 j2 => f28 j (by omega))).fr (fun j j1 j2 => f31 j (by omega))).fr (fun j j1 j2 => c35d j (by omega))).fr (fun j j1 j2 => f39 j (by omega))).fr (fun j j1 j2 => f42 j (by omega))).fr (fun j j1 j2 => c46d j (by omega))).fr (fun j j1 j2 => f50 j (by omega))).fr (fun j j1 j2 => f53 j (by omega))).fr (fun j j1 j2 => c57i j (by omega))).fr (fun j j1 j2 => f60 j (by omega))
  have H62 : rowAt h58 5 150 (nI 1) ([]) := ((((((((((c24c).fr (fun j j1 j2 => f28 j (by omega))).fr (fun j j1 j2 => f31 j (by omega))).fr (fun j j1 j2 => c35d j (by omega))).fr (fun j j1 j2 => f39 j (by omega))).fr (fun j j1 j2 => f42 j (by omega))).fr (fun j j1 j2 => c46d j (by omega))).fr (fun j j1 j2 => f50 j (by omega))).fr (fun j j1 j2 => f53 j (by omega))).fr (fun j j1 j2 => c57i j (by omega))).fr (fun j j1 j2 => f60 j (by omega))
  have H63 : rowAt h58 8 150 (nI 0) ([]) := (((((((c35c).fr (fun j j1 j2 => f39 j (by omega))).fr (fun j j1 j2 => f42 j (by omega))).fr (fun j j1 j2 => c46d j (by omega))).fr (fun j j1 j2 => f50 j (by omega))).fr (fun j j1 j2 => f53 j (by omega))).fr (fun j j1 j2 => c57i j (by omega))).fr (fun j j1 j2 => f60 j (by omega))
  have H64 : rowAt h58 11 320 (nI 0) ([]) := ((((c46c).fr (fun j j1 j2 => f50 j (by omega))).fr (fun j j1 j2 => f53 j (by omega))).fr (fun j j1 j2 => c57i j (by omega))).fr (fun j j1 j2 => f60 j (by omega))
  exact ⟨rfl, rfl, e59, ⟨_, (f60 (1) (by omega)).trans ((c57i (1) (by omega)).trans ((f53 (1) (by omega)).trans e49)), fun r hr => (by
    obtain rfl | rfl | rfl | rfl : r = 0 ∨ r = 1 ∨ r = 2 ∨ r = 3 := by omega
    all_goals rfl)⟩, (f60 (14) (by omega)).trans c57c, fun r hr => (by
    obtain rfl | rfl | rfl | rfl : r = 0 ∨ r = 1 ∨ r = 2 ∨ r = 3 := by omega
    · exact H61
    · exact H62
    · exact H63
    · exact H64), ⟨_, (c57d).fr (fun j j1 j2 => f60 j (by omega))⟩, ⟨_, (c57e).fr (fun j j1 j2 => f60 j (by omega))⟩, ⟨_, (c57f).fr (fun j j1 j2 => f60 j (by omega))⟩, ⟨_, (c57g).fr (fun j j1 j2 => f60 j (by omega))⟩⟩

/-! ===== the class: digest ===== -/
def q_house (S : cS) (w : Nat) : Int32 := match w with
  | 0 => nI (q_itemsInAll S)
  | 1 => S.2.2.1
  | 2 => S.2.2.2.1
  | 3 => S.2.2.2.2
  | 4 => S.2.1
  | _ => q_sortedRows S
theorem house_s {S : cS} {w : Nat} (h : w < 6) : sp_house S (nI w) = (0, .int (q_house S w), S) := by
  unfold sp_house
  rw [inN_some h (by decide)]
  obtain rfl | rfl | rfl | rfl | rfl | rfl : w = 0 ∨ w = 1 ∨ w = 2 ∨ w = 3 ∨ w = 4 ∨ w = 5 := by omega
  all_goals rfl
theorem wrong0_s {S : cS} {r : Nat} (h : r < 4) : sp_wrong S (nI r) (nI 0) = (0, .int (msort (S.1 r)).2, S) := by
  unfold sp_wrong
  rw [dAt_s h (by decide), if_pos nI_0]
def dgRow (S : cS) (i : Nat) (d : Int64) : Int64 := ((((((((d * 31 + (nI (S.1 i).length).toInt64) * 31 + (q_mark (S.1 i) false).toInt64) * 31 + (q_mark (S.1 i) true).toInt64) * 31 + ((msort (S.1 i)).2).toInt64) * 31 + (q_tiedPairsOfSorted (msort (S.1 i)).1).toInt64) * 31 + (q_runsInAll (S.1 i)).toInt64) * 31 + (q_longestRun (S.1 i)).toInt64) * 31 + (q_keysTogether (S.1 i)).toInt64) * 31 + (q_unlikeKeysOfSorted (msort (S.1 i)).1).toInt64
def dgHouse (S : cS) (w : Nat) (d : Int64) : Int64 := d * 31 + (q_house S w).toInt64
def q_digest (S : cS) : Int64 := mlp (dgHouse S) (6 - 0) 0 (mlp (dgRow S) (4 - 0) 0 8007) * 31 + (mb (q_sound S)).toInt64
abbrev rX2_digest : Room := { frames := 8, cells := 46, slots := 276, locals := 167 }
set_option maxRecDepth 100000 in
set_option maxHeartbeats 2000000 in
theorem tX2_digest_6 {l : Launch} {K : mK} {n : Nat} {S : cS} {r : Int64} {h0 : mH} (hl : l.stackTraces = false) (kk0 : ∀ (i : Nat) (h : mH) (d : Int64), (cAt h S) → (∀ j, 27 ≤ j → h j = h0 j) → (d = r) → mT l mX2_digest rX2_digest K 141 [.ref 0, .long d, .double 0, .int (nI i)] [] h n 40 240) : ∀ (N0 : Nat) (i : Nat) (d : Int64) (h : mH), (4 - i) < N0 → (cAt h S) → (∀ j, 27 ≤ j → h j = h0 j) → (mlp (dgRow S) (4 - i) i d = r) → (i ≤ 4) → mT l mX2_digest rX2_digest K 6 [.ref 0, .long d, .double 0, .int (nI i)] [] h n (10 * i) (60 * i) := by
  intro N0
  induction N0 with
  | zero => intro i d h hm; exact absurd hm (Nat.not_lt_zero _)
  | succ N0 ih =>
    intro i d h hm C hfr hr hi
    obtain ⟨C0_1, ⟨cg_1, C1_1, C1g_1⟩, C14_1, CR_1, ⟨zs15_1, HK15_1⟩, ⟨zs18_1, HK18_1⟩, ⟨zs21_1, HK21_1⟩, ⟨zs24_1, HK24_1⟩⟩ := id C
    refine mt_iload_n dX2_digest_6 rfl ?_
    refine mt_aload_n dX2_digest_7 rfl rfl ?_
    refine mt_getfield mKX2 (i := 0) (by decide) mw_112 dX2_digest_8 C0_1 rfl ?_
    refine mt_alenq dX2_digest_11 C1_1 (fun _ => rfl) ?_
    refine mt_icmp_ge dX2_digest_12 (tgt := 141) rfl (fun q2 => ?_) (fun q2 => ?_)
    · have q2 := Int32.not_lt.mpr q2
      have q2 := (not_congr (nI_ltI (by omega) (by omega))).mp q2
      refine mt_widen (cc' := 40) (sc' := 240) (by first | omega | (simp only [rX2_many, rX2_mark, rX2_wrong, rX2_ties, rX2_runs, rX2_longest, rX2_sum, rX2_unlike, rX2_house, rX2_isSound, rX2_digest]; omega)) (by first | omega | (simp only [rX2_many, rX2_mark, rX2_wrong, rX2_ties, rX2_runs, rX2_longest, rX2_sum, rX2_unlike, rX2_house, rX2_isSound, rX2_digest]; omega)) ?_
      exact kk0 i h d C hfr ((mlp_end (f := dgRow S) (by omega)).symm.trans hr)
    · have q2 := Int32.not_le.mp q2
      have q2 := (nI_ltI (by omega) (by omega)).mp q2
      refine mt_lload_n dX2_digest_15 rfl ?_
      refine mt_ldc2 (v := 31) dX2_digest_16 mw_225 ?_
      refine mt_lmul dX2_digest_19 ?_
      refine mt_aload_n dX2_digest_20 rfl rfl ?_
      refine mt_iload_n dX2_digest_21 rfl ?_
      have hs3 := show sp_many S (nI i) = (0, .int (nI (S.1 i).length), S) from by simp only [sp_many, dAt_s (show i < 4 by omega) (by decide)]
      refine mt_callV (N := mX2_many) (Rc := rX2_many) (As := [.int (nI i)]) (st := [.long (d * 31)]) dX2_digest_22 (kX2_many hl C) sX2_many mw_226 mKX2 rfl C0_1 rfl (Nat.le_of_ble_eq_true rfl) ⟨⟨Nat.le_of_ble_eq_true rfl, Nat.le_of_ble_eq_true rfl⟩, (by simp only [rX2_many, rX2_mark, rX2_wrong, rX2_ties, rX2_runs, rX2_longest, rX2_sum, rX2_unlike, rX2_house, rX2_isSound, rX2_digest]; omega), (by simp only [rX2_many, rX2_mark, rX2_wrong, rX2_ties, rX2_runs, rX2_longest, rX2_sum, rX2_unlike, rX2_house, rX2_isSound, rX2_digest]; omega)⟩ (fun v4 h5 n6 c7 => ?_) (fun _ _ _ hx => (cNo_no (congrArg Prod.fst hs3) hx).elim)
      obtain ⟨c7a, c7b, c7c, c7d⟩ := c7.use hs3
      rw [c7a, c7b]
      obtain ⟨C0_8, ⟨cg_8, C1_8, C1g_8⟩, C14_8, CR_8, ⟨zs15_8, HK15_8⟩, ⟨zs18_8, HK18_8⟩, ⟨zs21_8, HK21_8⟩, ⟨zs24_8, HK24_8⟩⟩ := id c7c
      show mT _ _ _ _ 25 [.ref 0, .long d, .double 0, .int (nI i)] [.int (nI ((S.1 i).length)), .long (d * 31)] _ _ _ _
      refine mt_i2l dX2_digest_25 ?_
      refine mt_ladd dX2_digest_26 ?_
      refine mp_lstore_n dX2_digest_27 (ls' := [.ref 0, .long ((d * 31) + ((nI ((S.1 i).length)).toInt64)), .double 0, .int (nI i)]) rfl (by decide) rfl ?_
      refine mt_lload_n dX2_digest_28 rfl ?_
      refine mt_ldc2 (v := 31) dX2_digest_29 mw_225 ?_
      refine mt_lmul dX2_digest_32 ?_
      refine mt_aload_n dX2_digest_33 rfl rfl ?_
      refine mt_iload_n dX2_digest_34 rfl ?_
      refine mt_iconst dX2_digest_35 (v := nI 0) rfl ?_
      have hs9 := show sp_mark S (nI i) false = (0, .int (q_mark (S.1 i) false), S) from by simp only [sp_mark, dAt_s (show i < 4 by omega) (by decide)]
      refine mt_callV (N := mX2_mark) (Rc := rX2_mark) (As := [.int (nI i), .int (nI 0)]) (st := [.long (((d * 31) + ((nI ((S.1 i).length)).toInt64)) * 31)]) dX2_digest_36 (kX2_mark (isStamps := false) hl c7c) sX2_mark mw_301 mKX2 rfl C0_8 rfl (Nat.le_of_ble_eq_true rfl) ⟨⟨Nat.le_of_ble_eq_true rfl, Nat.le_of_ble_eq_true rfl⟩, (by simp only [rX2_many, rX2_mark, rX2_wrong, rX2_ties, rX2_runs, rX2_longest, rX2_sum, rX2_unlike, rX2_house, rX2_isSound, rX2_digest]; omega), (by simp only [rX2_many, rX2_mark, rX2_wrong, rX2_ties, rX2_runs, rX2_longest, rX2_sum, rX2_unlike, rX2_house, rX2_isSound, rX2_digest]; omega)⟩ (fun v10 h11 n12 c13 => ?_) (fun _ _ _ hx => (cNo_no (congrArg Prod.fst hs9) hx).elim)
      obtain ⟨c13a, c13b, c13c, c13d⟩ := c13.use hs9
      rw [c13a, c13b]
      have c13e : ∀ j, 27 ≤ j → h11 j = h j := fun j hj => (c13d j hj).trans (c7d j hj)
      obtain ⟨C0_14, ⟨cg_14, C1_14, C1g_14⟩, C14_14, CR_14, ⟨zs15_14, HK15_14⟩, ⟨zs18_14, HK18_14⟩, ⟨zs21_14, HK21_14⟩, ⟨zs24_14, HK24_14⟩⟩ := id c13c
      show mT _ _ _ _ 39 [.ref 0, .long ((d * 31) + ((nI ((S.1 i).length)).toInt64)), .double 0, .int (nI i)] [.int (q_mark (S.1 i) false), .long (((d * 31) + ((nI ((S.1 i).length)).toInt64)) * 31)] _ _ _ _
      refine mt_i2l dX2_digest_39 ?_
      refine mt_ladd dX2_digest_40 ?_
      refine mp_lstore_n dX2_digest_41 (ls' := [.ref 0, .long ((((d * 31) + ((nI ((S.1 i).length)).toInt64)) * 31) + ((q_mark (S.1 i) false).toInt64)), .double 0, .int (nI i)]) rfl (by decide) rfl ?_
      refine mt_lload_n dX2_digest_42 rfl ?_
      refine mt_ldc2 (v := 31) dX2_digest_43 mw_225 ?_
      refine mt_lmul dX2_digest_46 ?_
      refine mt_aload_n dX2_digest_47 rfl rfl ?_
      refine mt_iload_n dX2_digest_48 rfl ?_
      refine mt_iconst dX2_digest_49 (v := nI 1) rfl ?_
      have hs15 := show sp_mark S (nI i) true = (0, .int (q_mark (S.1 i) true), S) from by simp only [sp_mark, dAt_s (show i < 4 by omega) (by decide)]
      refine mt_callV (N := mX2_mark) (Rc := rX2_mark) (As := [.int (nI i), .int (nI 1)]) (st := [.long (((((d * 31) + ((nI ((S.1 i).length)).toInt64)) * 31) + ((q_mark (S.1 i) false).toInt64)) * 31)]) dX2_digest_50 (kX2_mark (isStamps := true) hl c13c) sX2_mark mw_301 mKX2 rfl C0_14 rfl (Nat.le_of_ble_eq_true rfl) ⟨⟨Nat.le_of_ble_eq_true rfl, Nat.le_of_ble_eq_true rfl⟩, (by simp only [rX2_many, rX2_mark, rX2_wrong, rX2_ties, rX2_runs, rX2_longest, rX2_sum, rX2_unlike, rX2_house, rX2_isSound, rX2_digest]; omega), (by simp only [rX2_many, rX2_mark, rX2_wrong, rX2_ties, rX2_runs, rX2_longest, rX2_sum, rX2_unlike, rX2_house, rX2_isSound, rX2_digest]; omega)⟩ (fun v16 h17 n18 c19 => ?_) (fun _ _ _ hx => (cNo_no (congrArg Prod.fst hs15) hx).elim)
      obtain ⟨c19a, c19b, c19c, c19d⟩ := c19.use hs15
      rw [c19a, c19b]
      have c19e : ∀ j, 27 ≤ j → h17 j = h j := fun j hj => (c19d j hj).trans (c13e j hj)
      obtain ⟨C0_20, ⟨cg_20, C1_20, C1g_20⟩, C14_20, CR_20, ⟨zs15_20, HK15_20⟩, ⟨zs18_20, HK18_20⟩, ⟨zs21_20, HK21_20⟩, ⟨zs24_20, HK24_20⟩⟩ := id c19c
      show mT _ _ _ _ 53 [.ref 0, .long ((((d * 31) + ((nI ((S.1 i).length)).toInt64)) * 31) + ((q_mark (S.1 i) false).toInt64)), .double 0, .int (nI i)] [.int (q_mark (S.1 i) true), .long (((((d * 31) + ((nI ((S.1 i).length)).toInt64)) * 31) + ((q_mark (S.1 i) false).toInt64)) * 31)] _ _ _ _
      refine mt_i2l dX2_digest_53 ?_
      refine mt_ladd dX2_digest_54 ?_
      refine mp_lstore_n dX2_digest_55 (ls' := [.ref 0, .long ((((((d * 31) + ((nI ((S.1 i).length)).toInt64)) * 31) + ((q_mark (S.1 i) false).toInt64)) * 31) + ((q_mark (S.1 i) true).toInt64)), .double 0, .int (nI i)]) rfl (by decide) rfl ?_
      refine mt_lload_n dX2_digest_56 rfl ?_
      refine mt_ldc2 (v := 31) dX2_digest_57 mw_225 ?_
      refine mt_lmul dX2_digest_60 ?_
      refine mt_aload_n dX2_digest_61 rfl rfl ?_
      refine mt_iload_n dX2_digest_62 rfl ?_
      refine mt_iconst dX2_digest_63 (v := nI 0) rfl ?_
      have hs21 := wrong0_s (S := S) (show i < 4 by omega)
      refine mt_callV (N := mX2_wrong) (Rc := rX2_wrong) (As := [.int (nI i), .int (nI 0)]) (st := [.long (((((((d * 31) + ((nI ((S.1 i).length)).toInt64)) * 31) + ((q_mark (S.1 i) false).toInt64)) * 31) + ((q_mark (S.1 i) true).toInt64)) * 31)]) dX2_digest_64 (kX2_wrong hl c19c) sX2_wrong mw_305 mKX2 rfl C0_20 rfl (Nat.le_of_ble_eq_true rfl) ⟨⟨Nat.le_of_ble_eq_true rfl, Nat.le_of_ble_eq_true rfl⟩, (by simp only [rX2_many, rX2_mark, rX2_wrong, rX2_ties, rX2_runs, rX2_longest, rX2_sum, rX2_unlike, rX2_house, rX2_isSound, rX2_digest]; omega), (by simp only [rX2_many, rX2_mark, rX2_wrong, rX2_ties, rX2_runs, rX2_longest, rX2_sum, rX2_unlike, rX2_house, rX2_isSound, rX2_digest]; omega)⟩ (fun v22 h23 n24 c25 => ?_) (fun _ _ _ hx => (cNo_no (congrArg Prod.fst hs21) hx).elim)
      obtain ⟨c25a, c25b, c25c, c25d⟩ := c25.use hs21
      rw [c25a, c25b]
      have c25e : ∀ j, 27 ≤ j → h23 j = h j := fun j hj => (c25d j hj).trans (c19e j hj)
      obtain ⟨C0_26, ⟨cg_26, C1_26, C1g_26⟩, C14_26, CR_26, ⟨zs15_26, HK15_26⟩, ⟨zs18_26, HK18_26⟩, ⟨zs21_26, HK21_26⟩, ⟨zs24_26, HK24_26⟩⟩ := id c25c
      show mT _ _ _ _ 67 [.ref 0, .long ((((((d * 31) + ((nI ((S.1 i).length)).toInt64)) * 31) + ((q_mark (S.1 i) false).toInt64)) * 31) + ((q_mark (S.1 i) true).toInt64)), .double 0, .int (nI i)] [.int ((msort (S.1 i)).2), .long (((((((d * 31) + ((nI ((S.1 i).length)).toInt64)) * 31) + ((q_mark (S.1 i) false).toInt64)) * 31) + ((q_mark (S.1 i) true).toInt64)) * 31)] _ _ _ _
      refine mt_i2l dX2_digest_67 ?_
      refine mt_ladd dX2_digest_68 ?_
      refine mp_lstore_n dX2_digest_69 (ls' := [.ref 0, .long ((((((((d * 31) + ((nI ((S.1 i).length)).toInt64)) * 31) + ((q_mark (S.1 i) false).toInt64)) * 31) + ((q_mark (S.1 i) true).toInt64)) * 31) + (((msort (S.1 i)).2).toInt64)), .double 0, .int (nI i)]) rfl (by decide) rfl ?_
      refine mt_lload_n dX2_digest_70 rfl ?_
      refine mt_ldc2 (v := 31) dX2_digest_71 mw_225 ?_
      refine mt_lmul dX2_digest_74 ?_
      refine mt_aload_n dX2_digest_75 rfl rfl ?_
      refine mt_iload_n dX2_digest_76 rfl ?_
      have hs27 := show sp_ties S (nI i) = (0, .int (q_tiedPairsOfSorted (msort (S.1 i)).1), S) from by simp only [sp_ties, dAt_s (show i < 4 by omega) (by decide)]
      refine mt_callV (N := mX2_ties) (Rc := rX2_ties) (As := [.int (nI i)]) (st := [.long (((((((((d * 31) + ((nI ((S.1 i).length)).toInt64)) * 31) + ((q_mark (S.1 i) false).toInt64)) * 31) + ((q_mark (S.1 i) true).toInt64)) * 31) + (((msort (S.1 i)).2).toInt64)) * 31)]) dX2_digest_77 (kX2_ties hl c25c) sX2_ties mw_328 mKX2 rfl C0_26 rfl (Nat.le_of_ble_eq_true rfl) ⟨⟨Nat.le_of_ble_eq_true rfl, Nat.le_of_ble_eq_true rfl⟩, (by simp only [rX2_many, rX2_mark, rX2_wrong, rX2_ties, rX2_runs, rX2_longest, rX2_sum, rX2_unlike, rX2_house, rX2_isSound, rX2_digest]; omega), (by simp only [rX2_many, rX2_mark, rX2_wrong, rX2_ties, rX2_runs, rX2_longest, rX2_sum, rX2_unlike, rX2_house, rX2_isSound, rX2_digest]; omega)⟩ (fun v28 h29 n30 c31 => ?_) (fun _ _ _ hx => (cNo_no (congrArg Prod.fst hs27) hx).elim)
      obtain ⟨c31a, c31b, c31c, c31d⟩ := c31.use hs27
      rw [c31a, c31b]
      have c31e : ∀ j, 27 ≤ j → h29 j = h j := fun j hj => (c31d j hj).trans (c25e j hj)
      obtain ⟨C0_32, ⟨cg_32, C1_32, C1g_32⟩, C14_32, CR_32, ⟨zs15_32, HK15_32⟩, ⟨zs18_32, HK18_32⟩, ⟨zs21_32, HK21_32⟩, ⟨zs24_32, HK24_32⟩⟩ := id c31c
      show mT _ _ _ _ 80 [.ref 0, .long ((((((((d * 31) + ((nI ((S.1 i).length)).toInt64)) * 31) + ((q_mark (S.1 i) false).toInt64)) * 31) + ((q_mark (S.1 i) true).toInt64)) * 31) + (((msort (S.1 i)).2).toInt64)), .double 0, .int (nI i)] [.int (q_tiedPairsOfSorted (msort (S.1 i)).1), .long (((((((((d * 31) + ((nI ((S.1 i).length)).toInt64)) * 31) + ((q_mark (S.1 i) false).toInt64)) * 31) + ((q_mark (S.1 i) true).toInt64)) * 31) + (((msort (S.1 i)).2).toInt64)) * 31)] _ _ _ _
      refine mt_i2l dX2_digest_80 ?_
      refine mt_ladd dX2_digest_81 ?_
      refine mp_lstore_n dX2_digest_82 (ls' := [.ref 0, .long ((((((((((d * 31) + ((nI ((S.1 i).length)).toInt64)) * 31) + ((q_mark (S.1 i) false).toInt64)) * 31) + ((q_mark (S.1 i) true).toInt64)) * 31) + (((msort (S.1 i)).2).toInt64)) * 31) + ((q_tiedPairsOfSorted (msort (S.1 i)).1).toInt64)), .double 0, .int (nI i)]) rfl (by decide) rfl ?_
      refine mt_lload_n dX2_digest_83 rfl ?_
      refine mt_ldc2 (v := 31) dX2_digest_84 mw_225 ?_
      refine mt_lmul dX2_digest_87 ?_
      refine mt_aload_n dX2_digest_88 rfl rfl ?_
      refine mt_iload_n dX2_digest_89 rfl ?_
      have hs33 := show sp_runs S (nI i) = (0, .int (q_runsInAll (S.1 i)), S) from by simp only [sp_runs, dAt_s (show i < 4 by omega) (by decide)]
      refine mt_callV (N := mX2_runs) (Rc := rX2_runs) (As := [.int (nI i)]) (st := [.long (((((((((((d * 31) + ((nI ((S.1 i).length)).toInt64)) * 31) + ((q_mark (S.1 i) false).toInt64)) * 31) + ((q_mark (S.1 i) true).toInt64)) * 31) + (((msort (S.1 i)).2).toInt64)) * 31) + ((q_tiedPairsOfSorted (msort (S.1 i)).1).toInt64)) * 31)]) dX2_digest_90 (kX2_runs hl c31c) sX2_runs mw_332 mKX2 rfl C0_32 rfl (Nat.le_of_ble_eq_true rfl) ⟨⟨Nat.le_of_ble_eq_true rfl, Nat.le_of_ble_eq_true rfl⟩, (by simp only [rX2_many, rX2_mark, rX2_wrong, rX2_ties, rX2_runs, rX2_longest, rX2_sum, rX2_unlike, rX2_house, rX2_isSound, rX2_digest]; omega), (by simp only [rX2_many, rX2_mark, rX2_wrong, rX2_ties, rX2_runs, rX2_longest, rX2_sum, rX2_unlike, rX2_house, rX2_isSound, rX2_digest]; omega)⟩ (fun v34 h35 n36 c37 => ?_) (fun _ _ _ hx => (cNo_no (congrArg Prod.fst hs33) hx).elim)
      obtain ⟨c37a, c37b, c37c, c37d⟩ := c37.use hs33
      rw [c37a, c37b]
      have c37e : ∀ j, 27 ≤ j → h35 j = h j := fun j hj => (c37d j hj).trans (c31e j hj)
      obtain ⟨C0_38, ⟨cg_38, C1_38, C1g_38⟩, C14_38, CR_38, ⟨zs15_38, HK15_38⟩, ⟨zs18_38, HK18_38⟩, ⟨zs21_38, HK21_38⟩, ⟨zs24_38, HK24_38⟩⟩ := id c37c
      show mT _ _ _ _ 93 [.ref 0, .long ((((((((((d * 31) + ((nI ((S.1 i).length)).toInt64)) * 31) + ((q_mark (S.1 i) false).toInt64)) * 31) + ((q_mark (S.1 i) true).toInt64)) * 31) + (((msort (S.1 i)).2).toInt64)) * 31) + ((q_tiedPairsOfSorted (msort (S.1 i)).1).toInt64)), .double 0, .int (nI i)] [.int (q_runsInAll (S.1 i)), .long (((((((((((d * 31) + ((nI ((S.1 i).length)).toInt64)) * 31) + ((q_mark (S.1 i) false).toInt64)) * 31) + ((q_mark (S.1 i) true).toInt64)) * 31) + (((msort (S.1 i)).2).toInt64)) * 31) + ((q_tiedPairsOfSorted (msort (S.1 i)).1).toInt64)) * 31)] _ _ _ _
      refine mt_i2l dX2_digest_93 ?_
      refine mt_ladd dX2_digest_94 ?_
      refine mp_lstore_n dX2_digest_95 (ls' := [.ref 0, .long ((((((((((((d * 31) + ((nI ((S.1 i).length)).toInt64)) * 31) + ((q_mark (S.1 i) false).toInt64)) * 31) + ((q_mark (S.1 i) true).toInt64)) * 31) + (((msort (S.1 i)).2).toInt64)) * 31) + ((q_tiedPairsOfSorted (msort (S.1 i)).1).toInt64)) * 31) + ((q_runsInAll (S.1 i)).toInt64)), .double 0, .int (nI i)]) rfl (by decide) rfl ?_
      refine mt_lload_n dX2_digest_96 rfl ?_
      refine mt_ldc2 (v := 31) dX2_digest_97 mw_225 ?_
      refine mt_lmul dX2_digest_100 ?_
      refine mt_aload_n dX2_digest_101 rfl rfl ?_
      refine mt_iload_n dX2_digest_102 rfl ?_
      have hs39 := show sp_longest S (nI i) = (0, .int (q_longestRun (S.1 i)), S) from by simp only [sp_longest, dAt_s (show i < 4 by omega) (by decide)]
      refine mt_callV (N := mX2_longest) (Rc := rX2_longest) (As := [.int (nI i)]) (st := [.long (((((((((((((d * 31) + ((nI ((S.1 i).length)).toInt64)) * 31) + ((q_mark (S.1 i) false).toInt64)) * 31) + ((q_mark (S.1 i) true).toInt64)) * 31) + (((msort (S.1 i)).2).toInt64)) * 31) + ((q_tiedPairsOfSorted (msort (S.1 i)).1).toInt64)) * 31) + ((q_runsInAll (S.1 i)).toInt64)) * 31)]) dX2_digest_103 (kX2_longest hl c37c) sX2_longest mw_340 mKX2 rfl C0_38 rfl (Nat.le_of_ble_eq_true rfl) ⟨⟨Nat.le_of_ble_eq_true rfl, Nat.le_of_ble_eq_true rfl⟩, (by simp only [rX2_many, rX2_mark, rX2_wrong, rX2_ties, rX2_runs, rX2_longest, rX2_sum, rX2_unlike, rX2_house, rX2_isSound, rX2_digest]; omega), (by simp only [rX2_many, rX2_mark, rX2_wrong, rX2_ties, rX2_runs, rX2_longest, rX2_sum, rX2_unlike, rX2_house, rX2_isSound, rX2_digest]; omega)⟩ (fun v40 h41 n42 c43 => ?_) (fun _ _ _ hx => (cNo_no (congrArg Prod.fst hs39) hx).elim)
      obtain ⟨c43a, c43b, c43c, c43d⟩ := c43.use hs39
      rw [c43a, c43b]
      have c43e : ∀ j, 27 ≤ j → h41 j = h j := fun j hj => (c43d j hj).trans (c37e j hj)
      obtain ⟨C0_44, ⟨cg_44, C1_44, C1g_44⟩, C14_44, CR_44, ⟨zs15_44, HK15_44⟩, ⟨zs18_44, HK18_44⟩, ⟨zs21_44, HK21_44⟩, ⟨zs24_44, HK24_44⟩⟩ := id c43c
      show mT _ _ _ _ 106 [.ref 0, .long ((((((((((((d * 31) + ((nI ((S.1 i).length)).toInt64)) * 31) + ((q_mark (S.1 i) false).toInt64)) * 31) + ((q_mark (S.1 i) true).toInt64)) * 31) + (((msort (S.1 i)).2).toInt64)) * 31) + ((q_tiedPairsOfSorted (msort (S.1 i)).1).toInt64)) * 31) + ((q_runsInAll (S.1 i)).toInt64)), .double 0, .int (nI i)] [.int (q_longestRun (S.1 i)), .long (((((((((((((d * 31) + ((nI ((S.1 i).length)).toInt64)) * 31) + ((q_mark (S.1 i) false).toInt64)) * 31) + ((q_mark (S.1 i) true).toInt64)) * 31) + (((msort (S.1 i)).2).toInt64)) * 31) + ((q_tiedPairsOfSorted (msort (S.1 i)).1).toInt64)) * 31) + ((q_runsInAll (S.1 i)).toInt64)) * 31)] _ _ _ _
      refine mt_i2l dX2_digest_106 ?_
      refine mt_ladd dX2_digest_107 ?_
      refine mp_lstore_n dX2_digest_108 (ls' := [.ref 0, .long ((((((((((((((d * 31) + ((nI ((S.1 i).length)).toInt64)) * 31) + ((q_mark (S.1 i) false).toInt64)) * 31) + ((q_mark (S.1 i) true).toInt64)) * 31) + (((msort (S.1 i)).2).toInt64)) * 31) + ((q_tiedPairsOfSorted (msort (S.1 i)).1).toInt64)) * 31) + ((q_runsInAll (S.1 i)).toInt64)) * 31) + ((q_longestRun (S.1 i)).toInt64)), .double 0, .int (nI i)]) rfl (by decide) rfl ?_
      refine mt_lload_n dX2_digest_109 rfl ?_
      refine mt_ldc2 (v := 31) dX2_digest_110 mw_225 ?_
      refine mt_lmul dX2_digest_113 ?_
      refine mt_aload_n dX2_digest_114 rfl rfl ?_
      refine mt_iload_n dX2_digest_115 rfl ?_
      have hs45 := show sp_sum S (nI i) = (0, .int (q_keysTogether (S.1 i)), S) from by simp only [sp_sum, dAt_s (show i < 4 by omega) (by decide)]
      refine mt_callV (N := mX2_sum) (Rc := rX2_sum) (As := [.int (nI i)]) (st := [.long (((((((((((((((d * 31) + ((nI ((S.1 i).length)).toInt64)) * 31) + ((q_mark (S.1 i) false).toInt64)) * 31) + ((q_mark (S.1 i) true).toInt64)) * 31) + (((msort (S.1 i)).2).toInt64)) * 31) + ((q_tiedPairsOfSorted (msort (S.1 i)).1).toInt64)) * 31) + ((q_runsInAll (S.1 i)).toInt64)) * 31) + ((q_longestRun (S.1 i)).toInt64)) * 31)]) dX2_digest_116 (kX2_sum hl c43c) sX2_sum mw_351 mKX2 rfl C0_44 rfl (Nat.le_of_ble_eq_true rfl) ⟨⟨Nat.le_of_ble_eq_true rfl, Nat.le_of_ble_eq_true rfl⟩, (by simp only [rX2_many, rX2_mark, rX2_wrong, rX2_ties, rX2_runs, rX2_longest, rX2_sum, rX2_unlike, rX2_house, rX2_isSound, rX2_digest]; omega), (by simp only [rX2_many, rX2_mark, rX2_wrong, rX2_ties, rX2_runs, rX2_longest, rX2_sum, rX2_unlike, rX2_house, rX2_isSound, rX2_digest]; omega)⟩ (fun v46 h47 n48 c49 => ?_) (fun _ _ _ hx => (cNo_no (congrArg Prod.fst hs45) hx).elim)
      obtain ⟨c49a, c49b, c49c, c49d⟩ := c49.use hs45
      rw [c49a, c49b]
      have c49e : ∀ j, 27 ≤ j → h47 j = h j := fun j hj => (c49d j hj).trans (c43e j hj)
      obtain ⟨C0_50, ⟨cg_50, C1_50, C1g_50⟩, C14_50, CR_50, ⟨zs15_50, HK15_50⟩, ⟨zs18_50, HK18_50⟩, ⟨zs21_50, HK21_50⟩, ⟨zs24_50, HK24_50⟩⟩ := id c49c
      show mT _ _ _ _ 119 [.ref 0, .long ((((((((((((((d * 31) + ((nI ((S.1 i).length)).toInt64)) * 31) + ((q_mark (S.1 i) false).toInt64)) * 31) + ((q_mark (S.1 i) true).toInt64)) * 31) + (((msort (S.1 i)).2).toInt64)) * 31) + ((q_tiedPairsOfSorted (msort (S.1 i)).1).toInt64)) * 31) + ((q_runsInAll (S.1 i)).toInt64)) * 31) + ((q_longestRun (S.1 i)).toInt64)), .double 0, .int (nI i)] [.int (q_keysTogether (S.1 i)), .long (((((((((((((((d * 31) + ((nI ((S.1 i).length)).toInt64)) * 31) + ((q_mark (S.1 i) false).toInt64)) * 31) + ((q_mark (S.1 i) true).toInt64)) * 31) + (((msort (S.1 i)).2).toInt64)) * 31) + ((q_tiedPairsOfSorted (msort (S.1 i)).1).toInt64)) * 31) + ((q_runsInAll (S.1 i)).toInt64)) * 31) + ((q_longestRun (S.1 i)).toInt64)) * 31)] _ _ _ _
      refine mt_i2l dX2_digest_119 ?_
      refine mt_ladd dX2_digest_120 ?_
      refine mp_lstore_n dX2_digest_121 (ls' := [.ref 0, .long ((((((((((((((((d * 31) + ((nI ((S.1 i).length)).toInt64)) * 31) + ((q_mark (S.1 i) false).toInt64)) * 31) + ((q_mark (S.1 i) true).toInt64)) * 31) + (((msort (S.1 i)).2).toInt64)) * 31) + ((q_tiedPairsOfSorted (msort (S.1 i)).1).toInt64)) * 31) + ((q_runsInAll (S.1 i)).toInt64)) * 31) + ((q_longestRun (S.1 i)).toInt64)) * 31) + ((q_keysTogether (S.1 i)).toInt64)), .double 0, .int (nI i)]) rfl (by decide) rfl ?_
      refine mt_lload_n dX2_digest_122 rfl ?_
      refine mt_ldc2 (v := 31) dX2_digest_123 mw_225 ?_
      refine mt_lmul dX2_digest_126 ?_
      refine mt_aload_n dX2_digest_127 rfl rfl ?_
      refine mt_iload_n dX2_digest_128 rfl ?_
      have hs51 := show sp_unlike S (nI i) = (0, .int (q_unlikeKeysOfSorted (msort (S.1 i)).1), S) from by simp only [sp_unlike, dAt_s (show i < 4 by omega) (by decide)]
      refine mt_callV (N := mX2_unlike) (Rc := rX2_unlike) (As := [.int (nI i)]) (st := [.long (((((((((((((((((d * 31) + ((nI ((S.1 i).length)).toInt64)) * 31) + ((q_mark (S.1 i) false).toInt64)) * 31) + ((q_mark (S.1 i) true).toInt64)) * 31) + (((msort (S.1 i)).2).toInt64)) * 31) + ((q_tiedPairsOfSorted (msort (S.1 i)).1).toInt64)) * 31) + ((q_runsInAll (S.1 i)).toInt64)) * 31) + ((q_longestRun (S.1 i)).toInt64)) * 31) + ((q_keysTogether (S.1 i)).toInt64)) * 31)]) dX2_digest_129 (kX2_unlike hl c49c) sX2_unlike mw_359 mKX2 rfl C0_50 rfl (Nat.le_of_ble_eq_true rfl) ⟨⟨Nat.le_of_ble_eq_true rfl, Nat.le_of_ble_eq_true rfl⟩, (by simp only [rX2_many, rX2_mark, rX2_wrong, rX2_ties, rX2_runs, rX2_longest, rX2_sum, rX2_unlike, rX2_house, rX2_isSound, rX2_digest]; omega), (by simp only [rX2_many, rX2_mark, rX2_wrong, rX2_ties, rX2_runs, rX2_longest, rX2_sum, rX2_unlike, rX2_house, rX2_isSound, rX2_digest]; omega)⟩ (fun v52 h53 n54 c55 => ?_) (fun _ _ _ hx => (cNo_no (congrArg Prod.fst hs51) hx).elim)
      obtain ⟨c55a, c55b, c55c, c55d⟩ := c55.use hs51
      rw [c55a, c55b]
      have c55e : ∀ j, 27 ≤ j → h53 j = h j := fun j hj => (c55d j hj).trans (c49e j hj)
      obtain ⟨C0_56, ⟨cg_56, C1_56, C1g_56⟩, C14_56, CR_56, ⟨zs15_56, HK15_56⟩, ⟨zs18_56, HK18_56⟩, ⟨zs21_56, HK21_56⟩, ⟨zs24_56, HK24_56⟩⟩ := id c55c
      show mT _ _ _ _ 132 [.ref 0, .long ((((((((((((((((d * 31) + ((nI ((S.1 i).length)).toInt64)) * 31) + ((q_mark (S.1 i) false).toInt64)) * 31) + ((q_mark (S.1 i) true).toInt64)) * 31) + (((msort (S.1 i)).2).toInt64)) * 31) + ((q_tiedPairsOfSorted (msort (S.1 i)).1).toInt64)) * 31) + ((q_runsInAll (S.1 i)).toInt64)) * 31) + ((q_longestRun (S.1 i)).toInt64)) * 31) + ((q_keysTogether (S.1 i)).toInt64)), .double 0, .int (nI i)] [.int (q_unlikeKeysOfSorted (msort (S.1 i)).1), .long (((((((((((((((((d * 31) + ((nI ((S.1 i).length)).toInt64)) * 31) + ((q_mark (S.1 i) false).toInt64)) * 31) + ((q_mark (S.1 i) true).toInt64)) * 31) + (((msort (S.1 i)).2).toInt64)) * 31) + ((q_tiedPairsOfSorted (msort (S.1 i)).1).toInt64)) * 31) + ((q_runsInAll (S.1 i)).toInt64)) * 31) + ((q_longestRun (S.1 i)).toInt64)) * 31) + ((q_keysTogether (S.1 i)).toInt64)) * 31)] _ _ _ _
      refine mt_i2l dX2_digest_132 ?_
      refine mt_ladd dX2_digest_133 ?_
      refine mp_lstore_n dX2_digest_134 (ls' := [.ref 0, .long ((((((((((((((((((d * 31) + ((nI ((S.1 i).length)).toInt64)) * 31) + ((q_mark (S.1 i) false).toInt64)) * 31) + ((q_mark (S.1 i) true).toInt64)) * 31) + (((msort (S.1 i)).2).toInt64)) * 31) + ((q_tiedPairsOfSorted (msort (S.1 i)).1).toInt64)) * 31) + ((q_runsInAll (S.1 i)).toInt64)) * 31) + ((q_longestRun (S.1 i)).toInt64)) * 31) + ((q_keysTogether (S.1 i)).toInt64)) * 31) + ((q_unlikeKeysOfSorted (msort (S.1 i)).1).toInt64)), .double 0, .int (nI i)]) rfl (by decide) rfl ?_
      refine mp_iinc dX2_digest_135 rfl (v := nI (i + 1)) mI_inc (ls' := [.ref 0, .long ((((((((((((((((((d * 31) + ((nI ((S.1 i).length)).toInt64)) * 31) + ((q_mark (S.1 i) false).toInt64)) * 31) + ((q_mark (S.1 i) true).toInt64)) * 31) + (((msort (S.1 i)).2).toInt64)) * 31) + ((q_tiedPairsOfSorted (msort (S.1 i)).1).toInt64)) * 31) + ((q_runsInAll (S.1 i)).toInt64)) * 31) + ((q_longestRun (S.1 i)).toInt64)) * 31) + ((q_keysTogether (S.1 i)).toInt64)) * 31) + ((q_unlikeKeysOfSorted (msort (S.1 i)).1).toInt64)), .double 0, .int (nI (i + 1))]) rfl (by decide) rfl ?_
      refine mt_goto dX2_digest_138 (tgt := 6) rfl ?_
      refine mt_widen (cc' := 10 * (i + 1)) (sc' := 60 * (i + 1)) (by first | omega | (simp only [rX2_many, rX2_mark, rX2_wrong, rX2_ties, rX2_runs, rX2_longest, rX2_sum, rX2_unlike, rX2_house, rX2_isSound, rX2_digest]; omega)) (by first | omega | (simp only [rX2_many, rX2_mark, rX2_wrong, rX2_ties, rX2_runs, rX2_longest, rX2_sum, rX2_unlike, rX2_house, rX2_isSound, rX2_digest]; omega)) ?_
      exact ih (i + 1) ((((((((((((((((((d * 31) + ((nI ((S.1 i).length)).toInt64)) * 31) + ((q_mark (S.1 i) false).toInt64)) * 31) + ((q_mark (S.1 i) true).toInt64)) * 31) + (((msort (S.1 i)).2).toInt64)) * 31) + ((q_tiedPairsOfSorted (msort (S.1 i)).1).toInt64)) * 31) + ((q_runsInAll (S.1 i)).toInt64)) * 31) + ((q_longestRun (S.1 i)).toInt64)) * 31) + ((q_keysTogether (S.1 i)).toInt64)) * 31) + ((q_unlikeKeysOfSorted (msort (S.1 i)).1).toInt64)) h53 (by omega) c55c (fun j hj => (c55e j hj).trans (hfr j hj)) ((mlp_go (f := dgRow S) (by omega) rfl).symm.trans hr) (by omega)
set_option maxRecDepth 100000 in
set_option maxHeartbeats 2000000 in
theorem tX2_digest_143 {l : Launch} {K : mK} {n : Nat} {S : cS} {r : Int64} {h0 : mH} (hl : l.stackTraces = false) (kk0 : ∀ (i : Nat) (h : mH) (d : Int64), (cAt h S) → (∀ j, 27 ≤ j → h j = h0 j) → (d = r) → mT l mX2_digest rX2_digest K 167 [.ref 0, .long d, .double 0, .int (nI i)] [] h n 46 276) : ∀ (N0 : Nat) (i : Nat) (d : Int64) (h : mH), (6 - i) < N0 → (cAt h S) → (∀ j, 27 ≤ j → h j = h0 j) → (mlp (dgHouse S) (6 - i) i d = r) → (i ≤ 6) → mT l mX2_digest rX2_digest K 143 [.ref 0, .long d, .double 0, .int (nI i)] [] h n (40 + i) (240 + 6 * i) := by
  intro N0
  induction N0 with
  | zero => intro i d h hm; exact absurd hm (Nat.not_lt_zero _)
  | succ N0 ih =>
    intro i d h hm C hfr hr hi
    obtain ⟨C0_1, ⟨cg_1, C1_1, C1g_1⟩, C14_1, CR_1, ⟨zs15_1, HK15_1⟩, ⟨zs18_1, HK18_1⟩, ⟨zs21_1, HK21_1⟩, ⟨zs24_1, HK24_1⟩⟩ := id C
    refine mt_iload_n dX2_digest_143 rfl ?_
    refine mt_iconst dX2_digest_144 (v := nI 5) rfl ?_
    refine mt_icmp_gt dX2_digest_145 (tgt := 167) rfl (fun q2 => ?_) (fun q2 => ?_)
    · have q2 := (nI_ltI (by omega) (by omega)).mp q2
      refine mt_widen (cc' := 46) (sc' := 276) (by first | omega | (simp only [rX2_many, rX2_mark, rX2_wrong, rX2_ties, rX2_runs, rX2_longest, rX2_sum, rX2_unlike, rX2_house, rX2_isSound, rX2_digest]; omega)) (by first | omega | (simp only [rX2_many, rX2_mark, rX2_wrong, rX2_ties, rX2_runs, rX2_longest, rX2_sum, rX2_unlike, rX2_house, rX2_isSound, rX2_digest]; omega)) ?_
      exact kk0 i h d C hfr ((mlp_end (f := dgHouse S) (by omega)).symm.trans hr)
    · have q2 := (not_congr (nI_ltI (by omega) (by omega))).mp q2
      refine mt_lload_n dX2_digest_148 rfl ?_
      refine mt_ldc2 (v := 31) dX2_digest_149 mw_225 ?_
      refine mt_lmul dX2_digest_152 ?_
      refine mt_aload_n dX2_digest_153 rfl rfl ?_
      refine mt_iload_n dX2_digest_154 rfl ?_
      have hs3 := house_s (S := S) (show i < 6 by omega)
      refine mt_callV (N := mX2_house) (Rc := rX2_house) (As := [.int (nI i)]) (st := [.long (d * 31)]) dX2_digest_155 (kX2_house hl C) sX2_house mw_367 mKX2 rfl C0_1 rfl (Nat.le_of_ble_eq_true rfl) ⟨⟨Nat.le_of_ble_eq_true rfl, Nat.le_of_ble_eq_true rfl⟩, (by simp only [rX2_many, rX2_mark, rX2_wrong, rX2_ties, rX2_runs, rX2_longest, rX2_sum, rX2_unlike, rX2_house, rX2_isSound, rX2_digest]; omega), (by simp only [rX2_many, rX2_mark, rX2_wrong, rX2_ties, rX2_runs, rX2_longest, rX2_sum, rX2_unlike, rX2_house, rX2_isSound, rX2_digest]; omega)⟩ (fun v4 h5 n6 c7 => ?_) (fun _ _ _ hx => (cNo_no (congrArg Prod.fst hs3) hx).elim)
      obtain ⟨c7a, c7b, c7c, c7d⟩ := c7.use hs3
      rw [c7a, c7b]
      obtain ⟨C0_8, ⟨cg_8, C1_8, C1g_8⟩, C14_8, CR_8, ⟨zs15_8, HK15_8⟩, ⟨zs18_8, HK18_8⟩, ⟨zs21_8, HK21_8⟩, ⟨zs24_8, HK24_8⟩⟩ := id c7c
      show mT _ _ _ _ 158 [.ref 0, .long d, .double 0, .int (nI i)] [.int (q_house S i), .long (d * 31)] _ _ _ _
      refine mt_i2l dX2_digest_158 ?_
      refine mt_ladd dX2_digest_159 ?_
      refine mp_lstore_n dX2_digest_160 (ls' := [.ref 0, .long ((d * 31) + ((q_house S i).toInt64)), .double 0, .int (nI i)]) rfl (by decide) rfl ?_
      refine mp_iinc dX2_digest_161 rfl (v := nI (i + 1)) mI_inc (ls' := [.ref 0, .long ((d * 31) + ((q_house S i).toInt64)), .double 0, .int (nI (i + 1))]) rfl (by decide) rfl ?_
      refine mt_goto dX2_digest_164 (tgt := 143) rfl ?_
      refine mt_widen (cc' := 40 + (i + 1)) (sc' := 240 + 6 * (i + 1)) (by first | omega | (simp only [rX2_many, rX2_mark, rX2_wrong, rX2_ties, rX2_runs, rX2_longest, rX2_sum, rX2_unlike, rX2_house, rX2_isSound, rX2_digest]; omega)) (by first | omega | (simp only [rX2_many, rX2_mark, rX2_wrong, rX2_ties, rX2_runs, rX2_longest, rX2_sum, rX2_unlike, rX2_house, rX2_isSound, rX2_digest]; omega)) ?_
      exact ih (i + 1) ((d * 31) + ((q_house S i).toInt64)) h5 (by omega) c7c (fun j hj => (c7d j hj).trans (hfr j hj)) ((mlp_go (f := dgHouse S) (by omega) rfl).symm.trans hr) (by omega)
set_option maxRecDepth 100000 in
set_option maxHeartbeats 2000000 in
theorem kX2_digest {l : Launch} (hl : l.stackTraces = false) {h : mH} {n : Nat} {S : cS} (C : cAt h S) : mC l mX2_digest rX2_digest [.ref 0] h n (cOk ((0 : Nat), Value.long (q_digest S), S) h n) (mNX) := by
  obtain ⟨C0_1, ⟨cg_1, C1_1, C1g_1⟩, C14_1, CR_1, ⟨zs15_1, HK15_1⟩, ⟨zs18_1, HK18_1⟩, ⟨zs21_1, HK21_1⟩, ⟨zs24_1, HK24_1⟩⟩ := id C
  refine mm_enter hl (by decide +kernel) rfl rfl rfl (Nat.le_of_ble_eq_true rfl) ?_
  show mT _ _ _ _ 0 [.ref 0, .double 0, .double 0, .double 0] [] _ _ 0 0
  refine mt_ldc2 (v := 8007) dX2_digest_0 mw_224 ?_
  refine mp_lstore_n dX2_digest_3 (ls' := [.ref 0, .long 8007, .double 0, .double 0]) rfl (by decide) rfl ?_
  refine mt_iconst dX2_digest_4 (v := nI 0) rfl ?_
  refine mp_istore_n dX2_digest_5 (ls' := [.ref 0, .long 8007, .double 0, .int (nI 0)]) rfl (by decide) rfl ?_
  refine tX2_digest_6 hl (fun i_2 h_3 d_4 z5 z6 z7 => ?_) _ 0 8007 h (Nat.lt_succ_self _) C (fun _ _ => rfl) rfl (by omega)
  obtain ⟨C0_8, ⟨cg_8, C1_8, C1g_8⟩, C14_8, CR_8, ⟨zs15_8, HK15_8⟩, ⟨zs18_8, HK18_8⟩, ⟨zs21_8, HK21_8⟩, ⟨zs24_8, HK24_8⟩⟩ := id z5
  refine mt_iconst dX2_digest_141 (v := nI 0) rfl ?_
  refine mp_istore_n dX2_digest_142 (ls' := [.ref 0, .long d_4, .double 0, .int (nI 0)]) rfl (by decide) rfl ?_
  refine tX2_digest_143 hl (fun i_9 h_10 d_11 z12 z13 z14 => ?_) _ 0 d_4 h_3 (Nat.lt_succ_self _) z5 (fun _ _ => rfl) rfl (by omega)
  obtain ⟨C0_15, ⟨cg_15, C1_15, C1g_15⟩, C14_15, CR_15, ⟨zs15_15, HK15_15⟩, ⟨zs18_15, HK18_15⟩, ⟨zs21_15, HK21_15⟩, ⟨zs24_15, HK24_15⟩⟩ := id z12
  refine mt_lload_n dX2_digest_167 rfl ?_
  refine mt_ldc2 (v := 31) dX2_digest_168 mw_225 ?_
  refine mt_lmul dX2_digest_171 ?_
  refine mt_aload_n dX2_digest_172 rfl rfl ?_
  have hs16 := (rfl : ((0 : Nat), Value.int (mb (q_sound S)), S) = (0, .int (mb (q_sound S)), S))
  refine mt_callV (N := mX2_isSound) (Rc := rX2_isSound) (As := []) (st := [.long (d_11 * 31)]) dX2_digest_173 (kX2_isSound hl z12) sX2_isSound mw_380 mKX2 rfl C0_15 rfl (Nat.le_of_ble_eq_true rfl) ⟨⟨Nat.le_of_ble_eq_true rfl, Nat.le_of_ble_eq_true rfl⟩, (by simp only [rX2_many, rX2_mark, rX2_wrong, rX2_ties, rX2_runs, rX2_longest, rX2_sum, rX2_unlike, rX2_house, rX2_isSound, rX2_digest]; omega), (by simp only [rX2_many, rX2_mark, rX2_wrong, rX2_ties, rX2_runs, rX2_longest, rX2_sum, rX2_unlike, rX2_house, rX2_isSound, rX2_digest]; omega)⟩ (fun v17 h18 n19 c20 => ?_) (fun _ _ _ hx => hx.elim)
  obtain ⟨c20a, c20b, c20c, c20d⟩ := c20.use hs16
  rw [c20a, c20b]
  obtain ⟨C0_21, ⟨cg_21, C1_21, C1g_21⟩, C14_21, CR_21, ⟨zs15_21, HK15_21⟩, ⟨zs18_21, HK18_21⟩, ⟨zs21_21, HK21_21⟩, ⟨zs24_21, HK24_21⟩⟩ := id c20c
  show mT _ _ _ _ 176 [.ref 0, .long d_11, .double 0, .int (nI i_9)] [.int (mb (q_sound S)), .long (d_11 * 31)] _ _ _ _
  refine mt_if_eq dX2_digest_176 (tgt := 183) rfl (fun q22 => ?_) (fun q22 => ?_)
  · have q22 : (q_sound S) = false := mb_0.mp q22
    refine mt_iconst dX2_digest_183 (v := nI 0) rfl ?_
    refine mt_i2l dX2_digest_184 ?_
    refine mt_ladd dX2_digest_185 ?_
    refine mt_lreturn dX2_digest_186 rfl (by simp only [rX2_many, rX2_mark, rX2_wrong, rX2_ties, rX2_runs, rX2_longest, rX2_sum, rX2_unlike, rX2_house, rX2_isSound, rX2_digest]; omega) (by simp only [rX2_many, rX2_mark, rX2_wrong, rX2_ties, rX2_runs, rX2_longest, rX2_sum, rX2_unlike, rX2_house, rX2_isSound, rX2_digest]; omega) ?_
    exact cOk.of (x := .long (q_digest S)) (S' := S) rfl (by rw [z14, z7]; simp only [q_digest, q22]; rfl) rfl c20c (fun j hj => (c20d j hj).trans ((z13 j hj).trans (z6 j hj)))
  · have q22 : (q_sound S) = true := mb_1.mp q22
    refine mt_iconst dX2_digest_179 (v := nI 1) rfl ?_
    refine mt_goto dX2_digest_180 (tgt := 184) rfl ?_
    refine mt_i2l dX2_digest_184 ?_
    refine mt_ladd dX2_digest_185 ?_
    refine mt_lreturn dX2_digest_186 rfl (by simp only [rX2_many, rX2_mark, rX2_wrong, rX2_ties, rX2_runs, rX2_longest, rX2_sum, rX2_unlike, rX2_house, rX2_isSound, rX2_digest]; omega) (by simp only [rX2_many, rX2_mark, rX2_wrong, rX2_ties, rX2_runs, rX2_longest, rX2_sum, rX2_unlike, rX2_house, rX2_isSound, rX2_digest]; omega) ?_
    exact cOk.of (x := .long (q_digest S)) (S' := S) rfl (by rw [z14, z7]; simp only [q_digest, q22]; rfl) rfl c20c (fun j hj => (c20d j hj).trans ((z13 j hj).trans (z6 j hj)))
