/-! ===== the class: turn, items that come from elsewhere ===== -/
abbrev rX2_turn : Room := { frames := 7, cells := 1, slots := 6, locals := 111 }
set_option maxRecDepth 100000 in
set_option maxHeartbeats 2000000 in
theorem tX2_turn_26 {l : Launch} {K : mK} {n a b room rr : Nat} {fl fl2 : Int32} {xs r : List mIt} {h0 : mH} (hl : l.stackTraces = false) (hab : b + 3 ≤ a ∨ a + 3 ≤ b) (kk0 : ∀ (h : mH), (rowAt h b 320 fl2 r) → (∀ j, (j < b ∨ b + 3 ≤ j) → h j = h0 j) → mT l mX2_turn rX2_turn K 55 [.ref 0, .int (nI rr), .ref a, .ref b, .int (-1)] [] h n 1 6) : ∀ (N0 : Nat) (d : Nat) (h : mH) (ys : List mIt), d < N0 → (rowAt h a room fl xs) → (rowAt h b 320 fl2 ys) → (∀ j, (j < b ∨ b + 3 ≤ j) → h j = h0 j) → (ys ++ rv xs d = r) → (d ≤ xs.length) → (ys.length + d ≤ 320) → mT l mX2_turn rX2_turn K 26 [.ref 0, .int (nI rr), .ref a, .ref b, .int (mpr d)] [] h n 1 6 := by
  intro N0
  induction N0 with
  | zero => intro d h ys hm; exact absurd hm (Nat.not_lt_zero _)
  | succ N0 ih =>
    intro d h ys hm H H2 hfr hr hd hy
    obtain ⟨f_1, g_1, ea_1, ek_1, es_1, ql_1, qr_1, qk_1, qt_1⟩ := id H
    rcases d with _ | d
    · show mT _ _ _ _ 26 [.ref 0, .int (nI rr), .ref a, .ref b, .int (-1)] [] _ _ _ _
      refine mt_iload dX2_turn_26 rfl ?_
      refine mt_if_lt dX2_turn_28 (tgt := 55) rfl (fun q2 => ?_) (fun q2 => ?_)
      · exact kk0 h (((List.append_nil _).symm.trans hr) ▸ H2) hfr
      · exact (q2 (by decide)).elim
    · rw [mpr_s]
      refine mt_iload dX2_turn_26 rfl ?_
      refine mt_if_lt dX2_turn_28 (tgt := 55) rfl (fun q3 => ?_) (fun q3 => ?_)
      · have q3 := (mI_lt0 (by omega)).mp q3
        exact q3.elim
      · have q3 := (not_congr (mI_lt0 (by omega))).mp q3
        refine mt_aload_n dX2_turn_31 rfl rfl ?_
        refine mt_aload_n dX2_turn_32 rfl rfl ?_
        refine mt_getfield mKX1 (i := 0) (by decide) mw_68 dX2_turn_33 ea_1 rfl ?_
        refine mt_iload dX2_turn_36 rfl ?_
        refine mp_iaload dX2_turn_38 ek_1 rfl (by omega) (by omega) (v := xk xs d) (qk_1 _ (by omega)) ?_
        refine mt_aload_n dX2_turn_39 rfl rfl ?_
        refine mt_getfield mKX1 (i := 1) (by decide) mw_71 dX2_turn_40 ea_1 rfl ?_
        refine mt_iload dX2_turn_43 rfl ?_
        refine mp_iaload dX2_turn_45 es_1 rfl (by omega) (by omega) (v := xt xs d) (qt_1 _ (by omega)) ?_
        obtain ⟨f_8, g_8, ea_8, ek_8, es_8, ql_8, qr_8, qk_8, qt_8⟩ := id H2
        refine mt_callV (N := mX1_append) (Rc := rX1_append) (As := [.int (xk xs d), .int (xt xs d)]) (st := []) dX2_turn_46 (kX1_append hl H2 (by first | omega | assumption | (simp only [List.length_append, List.length_cons, List.length_nil, span_len, Nat.sub_zero] at *; omega))) sX1_append mw_421 mKX1 rfl ea_8 rfl (Nat.le_of_ble_eq_true rfl) ⟨⟨Nat.le_of_ble_eq_true rfl, Nat.le_of_ble_eq_true rfl⟩, Nat.le_of_ble_eq_true rfl, Nat.le_of_ble_eq_true rfl⟩ (fun v4 h5 n6 c7 => ?_) (fun _ _ _ hx => hx.elim)
        obtain ⟨c7a, c7b, c7c, c7d⟩ := c7
        rw [c7a, c7b]
        show mT _ _ _ _ 49 [.ref 0, .int (nI rr), .ref a, .ref b, .int (nI d)] [] _ _ _ _
        refine mp_iinc dX2_turn_49 rfl (v := mpr d) mpr_dec (ls' := [.ref 0, .int (nI rr), .ref a, .ref b, .int (mpr d)]) rfl (by decide) rfl ?_
        refine mt_goto dX2_turn_52 (tgt := 26) rfl ?_
        have H9 : rowAt h5 a room fl xs := (H).fr (fun j j1 j2 => c7d j (by omega))
        exact ih d h5 (ys ++ [(xk xs d, xt xs d)]) (by omega) H9 c7c (fun j hj => (c7d j (by omega)).trans (hfr j hj)) (rv_go.trans hr) (by omega) (by rw [List.length_append]; simp only [List.length_cons, List.length_nil]; omega)
def sp_turn (S : cS) (row : Int32) : Nat × Value × cS := dAt S 4 row fun r => (0, .int (q_otherKeys (S.1 r) (rv (S.1 r) (S.1 r).length)), cAct (cSet S r (rv (S.1 r) (S.1 r).length)))
set_option maxRecDepth 100000 in
set_option maxHeartbeats 2000000 in
theorem kX2_turn {l : Launch} (hl : l.stackTraces = false) {h : mH} {n : Nat} {S : cS} {row : Int32} (C : cAt h S) : mC l mX2_turn rX2_turn [.ref 0, .int row] h n (cOk (sp_turn S row) h n) (cNo (sp_turn S row).1 h n) := by
  obtain ⟨C0, ⟨cg, C1, C1g⟩, C14, CR, ⟨zs15, HK15⟩, ⟨zs18, HK18⟩, ⟨zs21, HK21⟩, ⟨zs24, HK24⟩⟩ := id C
  refine mm_enter hl (by decide +kernel) rfl rfl rfl (Nat.le_of_ble_eq_true rfl) ?_
  show mT _ _ _ _ 0 [.ref 0, .int row, .double 0, .double 0, .double 0] [] _ _ 0 0
  refine mt_aload_n dX2_turn_0 rfl rfl ?_
  refine mt_iload_n dX2_turn_1 rfl ?_
  refine mt_callV (N := mX2_rowOf) (Rc := rX2_rowOf) (As := [.int row]) (st := []) dX2_turn_2 (kX2_rowOf hl C) sX2_rowOf mw_230 mKX2 rfl C0 rfl (Nat.le_of_ble_eq_true rfl) ⟨⟨Nat.le_of_ble_eq_true rfl, Nat.le_of_ble_eq_true rfl⟩, Nat.le_of_ble_eq_true rfl, Nat.le_of_ble_eq_true rfl⟩ (fun v1 h2 n3 c4 => ?_) (fun E h9 n9 hx => mt_out rfl (by obtain ⟨rfl, hq, rfl, rfl⟩ := hx; exact cNo.i (by simp only [sp_turn, dAt_n hq])) (Nat.le_of_ble_eq_true rfl) (Nat.le_of_ble_eq_true rfl))
  obtain ⟨r5, hr5, rfl, c4a, c4b, c4c⟩ := c4
  rw [c4a, c4b, c4c]
  have hLr5 := (CR r5 hr5).len
  show mT _ _ _ _ 5 [.ref 0, .int (nI r5), .double 0, .double 0, .double 0] [.ref (2 + 3 * r5)] _ _ _ _
  refine mp_astore_n dX2_turn_5 (ls' := [.ref 0, .int (nI r5), .ref (2 + 3 * r5), .double 0, .double 0]) rfl rfl (by decide) rfl ?_
  refine mt_aload_n dX2_turn_6 rfl rfl ?_
  refine mt_getfield mKX2 (i := 1) (by decide) mw_113 dX2_turn_7 C0 rfl ?_
  refine mt_getfield mKX0 (i := 2) (by decide) mw_101 dX2_turn_10 C14 rfl ?_
  refine mp_astore_n dX2_turn_13 (ls' := [.ref 0, .int (nI r5), .ref (2 + 3 * r5), .ref 21, .double 0]) rfl rfl (by decide) rfl ?_
  refine mt_aload_n dX2_turn_14 rfl rfl ?_
  obtain ⟨f_10, g_10, ea_10, ek_10, es_10, ql_10, qr_10, qk_10, qt_10⟩ := id HK21
  refine mt_callV (N := mX1_empty) (Rc := rX1_empty) (As := []) (st := []) dX2_turn_15 (kX1_empty hl HK21) sX1_empty mw_407 mKX1 rfl ea_10 rfl (Nat.le_of_ble_eq_true rfl) ⟨⟨Nat.le_of_ble_eq_true rfl, Nat.le_of_ble_eq_true rfl⟩, Nat.le_of_ble_eq_true rfl, Nat.le_of_ble_eq_true rfl⟩ (fun v6 h7 n8 c9 => ?_) (fun _ _ _ hx => hx.elim)
  obtain ⟨c9a, c9b, c9c, c9d⟩ := c9
  rw [c9a, c9b]
  show mT _ _ _ _ 18 [.ref 0, .int (nI r5), .ref (2 + 3 * r5), .ref 21, .double 0] [] _ _ _ _
  refine mt_aload_n dX2_turn_18 rfl rfl ?_
  obtain ⟨f_11, g_11, ea_11, ek_11, es_11, ql_11, qr_11, qk_11, qt_11⟩ := id (CR r5 (by omega)).fr (fun j j1 j2 => c9d j (by omega))
  refine mt_getfield mKX1 (i := 3) (by decide) mw_76 dX2_turn_19 ea_11 rfl ?_
  refine mt_iconst dX2_turn_22 (v := nI 1) rfl ?_
  refine mp_isub dX2_turn_23 (v := mpr ((S.1 r5).length)) rfl ?_
  refine mp_istore dX2_turn_24 (ls' := [.ref 0, .int (nI r5), .ref (2 + 3 * r5), .ref 21, .int (mpr ((S.1 r5).length))]) rfl (by decide) rfl ?_
  have H12 : rowAt h7 (2 + 3 * r5) (rroom r5) (mb (decide (r5 < 2))) (S.1 r5) := (CR r5 (by omega)).fr (fun j j1 j2 => c9d j (by omega))
  refine tX2_turn_26 hl (by omega) (fun h_13 z14 z15 => ?_) (((S.1 r5).length) + 1) ((S.1 r5).length) h7 ([]) (Nat.lt_succ_self _) H12 c9c (fun _ _ => rfl) rfl (Nat.le_refl _) (by simp only [List.length_nil]; omega)
  have rl9 := rv_len (xs := S.1 r5) (d := (S.1 r5).length)
  refine mt_aload_n dX2_turn_55 rfl rfl ?_
  refine mt_aload_n dX2_turn_56 rfl rfl ?_
  have H16 : rowAt h_13 (2 + 3 * r5) (rroom r5) (mb (decide (r5 < 2))) (S.1 r5) := (H12).fr (fun j j1 j2 => z15 j (by omega))
  refine mt_callV (N := mX1_otherKeys) (Rc := rX1_otherKeys) (As := [.ref 21]) (st := []) dX2_turn_57 (kX1_otherKeys hl H16 z14) sX1_otherKeys mw_510 mKX1 rfl ((z15 (2 + 3 * r5) (by omega)).trans ea_11) rfl (Nat.le_of_ble_eq_true rfl) ⟨⟨Nat.le_of_ble_eq_true rfl, Nat.le_of_ble_eq_true rfl⟩, Nat.le_of_ble_eq_true rfl, Nat.le_of_ble_eq_true rfl⟩ (fun v17 h18 n19 c20 => ?_) (fun _ _ _ hx => hx.elim)
  obtain ⟨c20a, c20b, c20c⟩ := c20
  rw [c20a, c20b, c20c]
  show mT _ _ _ _ 60 [.ref 0, .int (nI r5), .ref (2 + 3 * r5), .ref 21, .int (-1)] [.int (q_otherKeys (S.1 r5) (rv (S.1 r5) (S.1 r5).length))] _ _ _ _
  refine mp_istore dX2_turn_60 (ls' := [.ref 0, .int (nI r5), .ref (2 + 3 * r5), .ref 21, .int (q_otherKeys (S.1 r5) (rv (S.1 r5) (S.1 r5).length))]) rfl (by decide) rfl ?_
  refine mt_aload_n dX2_turn_62 rfl rfl ?_
  refine mt_aload_n dX2_turn_63 rfl rfl ?_
  refine mt_callV (N := mX1_become) (Rc := rX1_become) (As := [.ref 21]) (st := []) dX2_turn_64 (kX1_become hl H16 z14 (by omega) (by first | omega | assumption | (simp only [List.length_append, List.length_cons, List.length_nil, span_len, Nat.sub_zero] at *; omega))) sX1_become mw_210 mKX1 rfl ((z15 (2 + 3 * r5) (by omega)).trans ea_11) rfl (Nat.le_of_ble_eq_true rfl) ⟨⟨Nat.le_of_ble_eq_true rfl, Nat.le_of_ble_eq_true rfl⟩, Nat.le_of_ble_eq_true rfl, Nat.le_of_ble_eq_true rfl⟩ (fun v21 h22 n23 c24 => ?_) (fun _ _ _ hx => hx.elim)
  obtain ⟨c24a, c24b, c24c, c24d⟩ := c24
  rw [c24a, c24b]
  show mT _ _ _ _ 67 [.ref 0, .int (nI r5), .ref (2 + 3 * r5), .ref 21, .int (q_otherKeys (S.1 r5) (rv (S.1 r5) (S.1 r5).length))] [] _ _ _ _
  refine mt_aload_n dX2_turn_67 rfl rfl ?_
  refine mt_iload dX2_turn_68 rfl ?_
  refine mt_callV (N := mX2_done) (Rc := rX2_done) (As := [.int (q_otherKeys (S.1 r5) (rv (S.1 r5) (S.1 r5).length))]) (st := []) dX2_turn_70 (kX2_done hl ((c24d (0) (by omega)).trans ((z15 (0) (by omega)).trans ((c9d (0) (by omega)).trans C0)))) sX2_done mw_430 mKX2 rfl ((c24d (0) (by omega)).trans ((z15 (0) (by omega)).trans ((c9d (0) (by omega)).trans C0))) rfl (Nat.le_of_ble_eq_true rfl) ⟨⟨Nat.le_of_ble_eq_true rfl, Nat.le_of_ble_eq_true rfl⟩, Nat.le_of_ble_eq_true rfl, Nat.le_of_ble_eq_true rfl⟩ (fun v25 h26 n27 c28 => ?_) (fun _ _ _ hx => hx.elim)
  obtain ⟨c28a, c28b, c28c, c28d⟩ := c28
  rw [c28a, c28b]
  show mT _ _ _ _ 73 [.ref 0, .int (nI r5), .ref (2 + 3 * r5), .ref 21, .int (q_otherKeys (S.1 r5) (rv (S.1 r5) (S.1 r5).length))] [.int (q_otherKeys (S.1 r5) (rv (S.1 r5) (S.1 r5).length))] _ _ _ _
  refine mt_ireturn dX2_turn_73 rfl rfl (Nat.le_of_ble_eq_true rfl) (Nat.le_of_ble_eq_true rfl) ?_
  exact cOk.of (x := .int (q_otherKeys (S.1 r5) (rv (S.1 r5) (S.1 r5).length))) (S' := (fun k => if k = r5 then rv (S.1 r5) (S.1 r5).length else S.1 k, S.2.1, S.2.2.1 + nI 1, S.2.2.2.1, S.2.2.2.2)) (by simp only [sp_turn, dAt_s hr5 (by decide)] <;> rfl) rfl rfl ⟨c28c, ⟨cg, (c28d (1) (by omega)).trans ((c24d (1) (by omega)).trans ((z15 (1) (by omega)).trans ((c9d (1) (by omega)).trans C1))), C1g⟩, (c28d (14) (by omega)).trans ((c24d (14) (by omega)).trans ((z15 (14) (by omega)).trans ((c9d (14) (by omega)).trans C14))), cRows CR (by omega) ((c24c).fr (fun j j1 j2 => c28d j (by omega))) (fun j j1 j2 j3 => (c28d j (by omega)).trans ((c24d j (by omega)).trans ((z15 j (by omega)).trans (c9d j (by omega))))), ⟨_, ((((HK15).fr (fun j j1 j2 => c9d j (by omega))).fr (fun j j1 j2 => z15 j (by omega))).fr (fun j j1 j2 => c24d j (by omega))).fr (fun j j1 j2 => c28d j (by omega))⟩, ⟨_, ((((HK18).fr (fun j j1 j2 => c9d j (by omega))).fr (fun j j1 j2 => z15 j (by omega))).fr (fun j j1 j2 => c24d j (by omega))).fr (fun j j1 j2 => c28d j (by omega))⟩, ⟨_, ((z14).fr (fun j j1 j2 => c24d j (by omega))).fr (fun j j1 j2 => c28d j (by omega))⟩, ⟨_, ((((HK24).fr (fun j j1 j2 => c9d j (by omega))).fr (fun j j1 j2 => z15 j (by omega))).fr (fun j j1 j2 => c24d j (by omega))).fr (fun j j1 j2 => c28d j (by omega))⟩⟩ (fun j hj => (c28d j (by omega)).trans ((c24d j (by omega)).trans ((z15 j (by omega)).trans (c9d j (by omega)))))
abbrev rX2_stampOfComer : Room := { frames := 1, cells := 0, slots := 0, locals := 21 }
set_option maxRecDepth 100000 in
set_option maxHeartbeats 2000000 in
theorem kX2_stampOfComer {l : Launch} (hl : l.stackTraces = false) {h : mH} {n r1 r14 : Nat} {g ac rf kn : Int32} {b room i : Nat} {t ft : Bool} {xs : List mIt} (C0 : h 0 = .inr (.inr (4, [.ref r1, .ref r14, .int g, .int ac, .int rf, .int kn]))) (H : rowAt h b room (mb ft) xs) (hi : i < xs.length) : mC l mX2_stampOfComer rX2_stampOfComer [.ref 0, .ref b, .int (nI i), .int (mb (t))] h n (fun v h' n' => v = some (.int (cst t ft (xt xs i) g)) ∧ n' = n ∧ h' 0 = .inr (.inr (4, [.ref r1, .ref r14, .int (cgv t ft g), .int ac, .int rf, .int kn])) ∧ ∀ j, j ≠ 0 → h' j = h j) (mNX) := by
  obtain ⟨f_1, g_1, ea_1, ek_1, es_1, ql_1, qr_1, qk_1, qt_1⟩ := id H
  refine mm_enter hl (by decide +kernel) rfl rfl rfl (Nat.le_of_ble_eq_true rfl) ?_
  show mT _ _ _ _ 0 [.ref 0, .ref b, .int (nI i), .int (mb (t))] [] _ _ 0 0
  refine mt_iload_n dX2_stampOfComer_0 rfl ?_
  refine mt_if_ne dX2_stampOfComer_1 (tgt := 6) rfl (fun q2 => ?_) (fun q2 => ?_)
  · have q2 : t = true := mb_1.mp q2
    refine mt_aload_n dX2_stampOfComer_6 rfl rfl ?_
    refine mt_getfield mKX1 (i := 2) (by decide) mw_74 dX2_stampOfComer_7 ea_1 rfl ?_
    refine mt_if_eq dX2_stampOfComer_10 (tgt := 22) rfl (fun q3 => ?_) (fun q3 => ?_)
    · have q3 : ft = false := mb_0.mp q3
      refine mt_aload_n dX2_stampOfComer_22 rfl rfl ?_
      refine mt_callV (N := mX2_nextStamp) (Rc := rX2_nextStamp) (As := []) (st := []) dX2_stampOfComer_23 (kX2_nextStamp hl C0) sX2_nextStamp mw_417 mKX2 rfl C0 rfl (Nat.le_of_ble_eq_true rfl) ⟨⟨Nat.le_of_ble_eq_true rfl, Nat.le_of_ble_eq_true rfl⟩, Nat.le_of_ble_eq_true rfl, Nat.le_of_ble_eq_true rfl⟩ (fun v4 h5 n6 c7 => ?_) (fun _ _ _ hx => hx.elim)
      obtain ⟨c7a, c7b, c7c, c7d⟩ := c7
      rw [c7a, c7b]
      show mT _ _ _ _ 26 [.ref 0, .ref b, .int (nI i), .int (mb (t))] [.int g] _ _ _ _
      refine mt_ireturn dX2_stampOfComer_26 rfl rfl (Nat.le_of_ble_eq_true rfl) (Nat.le_of_ble_eq_true rfl) ?_
      exact ⟨by simp [cst, cgv, q2, q3], rfl, by simp only [cgv]; simp only [if_true, if_false, Bool.false_eq_true, q2, q3]; exact c7c, fun j hj => c7d j (by omega)⟩
    · have q3 : ft = true := mb_1.mp q3
      refine mt_aload_n dX2_stampOfComer_13 rfl rfl ?_
      refine mt_getfield mKX1 (i := 1) (by decide) mw_71 dX2_stampOfComer_14 ea_1 rfl ?_
      refine mt_iload_n dX2_stampOfComer_17 rfl ?_
      refine mp_iaload dX2_stampOfComer_18 es_1 rfl (by omega) (by omega) (v := xt xs i) (qt_1 _ (by omega)) ?_
      refine mt_goto dX2_stampOfComer_19 (tgt := 26) rfl ?_
      refine mt_ireturn dX2_stampOfComer_26 rfl rfl (Nat.le_of_ble_eq_true rfl) (Nat.le_of_ble_eq_true rfl) ?_
      exact ⟨by simp [cst, cgv, q2, q3], rfl, by simp only [cgv]; simp only [if_true, if_false, Bool.false_eq_true, q2, q3]; exact C0, fun j hj => rfl⟩
  · have q2 : t = false := mb_0.mp q2
    refine mt_iconst dX2_stampOfComer_4 (v := -1) rfl ?_
    refine mt_ireturn dX2_stampOfComer_5 rfl rfl (Nat.le_of_ble_eq_true rfl) (Nat.le_of_ble_eq_true rfl) ?_
    exact ⟨by simp [cst, cgv, q2], rfl, by simp only [cgv]; simp only [if_true, if_false, Bool.false_eq_true, q2]; exact C0, fun j hj => rfl⟩
abbrev rX2_bring : Room := { frames := 2, cells := 0, slots := 0, locals := 44 }
set_option maxRecDepth 100000 in
set_option maxHeartbeats 2000000 in
theorem tX2_bring_9 {l : Launch} {K : mK} {n a b room room2 r1 r14 : Nat} {fl ac rf kn : Int32} {t ft : Bool} {xs : List mIt} {r : List mIt × Int32} {h0 : mH} (hl : l.stackTraces = false) (h0a : 0 < a) (h0b : 0 < b) (hab : b + 3 ≤ a ∨ a + 3 ≤ b) (kk0 : ∀ (i : Nat) (h : mH) (ys : List mIt) (g : Int32), (rowAt h a room fl ys) → (h 0 = .inr (.inr (4, [.ref r1, .ref r14, .int g, .int ac, .int rf, .int kn]))) → (∀ j, ((j < a ∨ a + 3 ≤ j) ∧ j ≠ 0) → h j = h0 j) → ((ys, g) = r) → mT l mX2_bring rX2_bring K 41 [.ref 0, .ref b, .ref a, .int (mb (t)), .int (nI xs.length), .int (nI i)] [] h n 0 0) : ∀ (N0 : Nat) (i : Nat) (h : mH) (ys : List mIt) (g : Int32), (xs.length - i) < N0 → (h 0 = .inr (.inr (4, [.ref r1, .ref r14, .int g, .int ac, .int rf, .int kn]))) → (rowAt h a room fl ys) → (rowAt h b room2 (mb ft) xs) → (∀ j, ((j < a ∨ a + 3 ≤ j) ∧ j ≠ 0) → h j = h0 j) → (mlp (stBring xs t ft) (xs.length - i) i (ys, g) = r) → (i ≤ xs.length) → (ys.length + (xs.length - i) ≤ room) → mT l mX2_bring rX2_bring K 9 [.ref 0, .ref b, .ref a, .int (mb (t)), .int (nI xs.length), .int (nI i)] [] h n 0 0 := by
  intro N0
  induction N0 with
  | zero => intro i h ys g hm; exact absurd hm (Nat.not_lt_zero _)
  | succ N0 ih =>
    intro i h ys g hm C0 H H2 hfr hr hi hro
    obtain ⟨f_1, g_1, ea_1, ek_1, es_1, ql_1, qr_1, qk_1, qt_1⟩ := id H2
    refine mt_iload dX2_bring_9 rfl ?_
    refine mt_iload dX2_bring_11 rfl ?_
    refine mt_icmp_ge dX2_bring_13 (tgt := 41) rfl (fun q2 => ?_) (fun q2 => ?_)
    · have q2 := Int32.not_lt.mpr q2
      have q2 := (not_congr (nI_ltI (by omega) (by omega))).mp q2
      exact kk0 i h ys g H C0 hfr ((mlp_end (f := stBring xs t ft) (by omega)).symm.trans hr)
    · have q2 := Int32.not_le.mp q2
      have q2 := (nI_ltI (by omega) (by omega)).mp q2
      refine mt_aload_n dX2_bring_16 rfl rfl ?_
      refine mt_aload_n dX2_bring_17 rfl rfl ?_
      refine mt_getfield mKX1 (i := 0) (by decide) mw_68 dX2_bring_18 ea_1 rfl ?_
      refine mt_iload dX2_bring_21 rfl ?_
      refine mp_iaload dX2_bring_23 ek_1 rfl (by omega) (by omega) (v := xk xs i) (qk_1 _ (by omega)) ?_
      refine mt_aload_n dX2_bring_24 rfl rfl ?_
      refine mt_aload_n dX2_bring_25 rfl rfl ?_
      refine mt_iload dX2_bring_26 rfl ?_
      refine mt_iload_n dX2_bring_28 rfl ?_
      refine mt_callV (N := mX2_stampOfComer) (Rc := rX2_stampOfComer) (As := [.ref b, .int (nI i), .int (mb (t))]) (st := [.int (xk xs i), .ref a]) dX2_bring_29 (kX2_stampOfComer hl C0 H2 (by first | omega | (simp only [List.length_append]; omega))) sX2_stampOfComer mw_546 mKX2 rfl C0 rfl (Nat.le_of_ble_eq_true rfl) ⟨⟨Nat.le_of_ble_eq_true rfl, Nat.le_of_ble_eq_true rfl⟩, Nat.le_of_ble_eq_true rfl, Nat.le_of_ble_eq_true rfl⟩ (fun v3 h4 n5 c6 => ?_) (fun _ _ _ hx => hx.elim)
      obtain ⟨c6a, c6b, c6c, c6d⟩ := c6
      rw [c6a, c6b]
      show mT _ _ _ _ 32 [.ref 0, .ref b, .ref a, .int (mb (t)), .int (nI xs.length), .int (nI i)] [.int (cst t ft (xt xs i) g), .int (xk xs i), .ref a] _ _ _ _
      have H7 : rowAt h4 a room fl ys := (H).fr (fun j j1 j2 => c6d j (by omega))
      obtain ⟨f_12, g_12, ea_12, ek_12, es_12, ql_12, qr_12, qk_12, qt_12⟩ := id H7
      refine mt_callV (N := mX1_append) (Rc := rX1_append) (As := [.int (xk xs i), .int (cst t ft (xt xs i) g)]) (st := []) dX2_bring_32 (kX1_append hl H7 (by first | omega | assumption | (simp only [List.length_append, List.length_cons, List.length_nil, span_len, Nat.sub_zero] at *; omega))) sX1_append mw_421 mKX1 rfl ea_12 rfl (Nat.le_of_ble_eq_true rfl) ⟨⟨Nat.le_of_ble_eq_true rfl, Nat.le_of_ble_eq_true rfl⟩, Nat.le_of_ble_eq_true rfl, Nat.le_of_ble_eq_true rfl⟩ (fun v8 h9 n10 c11 => ?_) (fun _ _ _ hx => hx.elim)
      obtain ⟨c11a, c11b, c11c, c11d⟩ := c11
      rw [c11a, c11b]
      show mT _ _ _ _ 35 [.ref 0, .ref b, .ref a, .int (mb (t)), .int (nI xs.length), .int (nI i)] [] _ _ _ _
      refine mp_iinc dX2_bring_35 rfl (v := nI (i + 1)) mI_inc (ls' := [.ref 0, .ref b, .ref a, .int (mb (t)), .int (nI xs.length), .int (nI (i + 1))]) rfl (by decide) rfl ?_
      refine mt_goto dX2_bring_38 (tgt := 9) rfl ?_
      have H13 : rowAt h9 b room2 (mb (ft)) xs := ((H2).fr (fun j j1 j2 => c6d j (by omega))).fr (fun j j1 j2 => c11d j (by omega))
      exact ih (i + 1) h9 (ys ++ [(xk xs i, cst t ft (xt xs i) g)]) (cgv t ft g) (by omega) ((c11d (0) (by omega)).trans c6c) c11c H13 (fun j hj => ((c11d j (by omega)).trans (c6d j (by omega))).trans (hfr j hj)) ((mlp_go (f := stBring xs t ft) (by omega) rfl).symm.trans hr) (by omega) (by rw [List.length_append]; simp only [List.length_cons, List.length_nil]; omega)
set_option maxRecDepth 100000 in
set_option maxHeartbeats 2000000 in
theorem kX2_bring {l : Launch} (hl : l.stackTraces = false) {h : mH} {n a b room room2 r1 r14 : Nat} {fl g ac rf kn : Int32} {t ft : Bool} {xs ys : List mIt} (C0 : h 0 = .inr (.inr (4, [.ref r1, .ref r14, .int g, .int ac, .int rf, .int kn]))) (H : rowAt h a room fl ys) (H2 : rowAt h b room2 (mb ft) xs) (h0a : 0 < a) (h0b : 0 < b) (hab : b + 3 ≤ a ∨ a + 3 ≤ b) (hro : ys.length + xs.length ≤ room) : mC l mX2_bring rX2_bring [.ref 0, .ref b, .ref a, .int (mb (t))] h n (fun v h' n' => v = none ∧ n' = n ∧ rowAt h' a room fl (bringL xs t ft ys g).1 ∧ h' 0 = .inr (.inr (4, [.ref r1, .ref r14, .int (bringL xs t ft ys g).2, .int ac, .int rf, .int kn])) ∧ ∀ j, ((j < a ∨ a + 3 ≤ j) ∧ j ≠ 0) → h' j = h j) (mNX) := by
  obtain ⟨f_1, g_1, ea_1, ek_1, es_1, ql_1, qr_1, qk_1, qt_1⟩ := id H2
  refine mm_enter hl (by decide +kernel) rfl rfl rfl (Nat.le_of_ble_eq_true rfl) ?_
  show mT _ _ _ _ 0 [.ref 0, .ref b, .ref a, .int (mb (t)), .double 0, .double 0] [] _ _ 0 0
  refine mt_aload_n dX2_bring_0 rfl rfl ?_
  refine mt_getfield mKX1 (i := 3) (by decide) mw_76 dX2_bring_1 ea_1 rfl ?_
  refine mp_istore dX2_bring_4 (ls' := [.ref 0, .ref b, .ref a, .int (mb (t)), .int (nI xs.length), .double 0]) rfl (by decide) rfl ?_
  refine mt_iconst dX2_bring_6 (v := nI 0) rfl ?_
  refine mp_istore dX2_bring_7 (ls' := [.ref 0, .ref b, .ref a, .int (mb (t)), .int (nI xs.length), .int (nI 0)]) rfl (by decide) rfl ?_
  refine tX2_bring_9 hl h0a h0b hab (fun i_2 h_3 ys_4 g_5 z6 z7 z8 z9 => ?_) (xs.length - 0 + 1) 0 h ys g (Nat.lt_succ_self _) C0 H H2 (fun _ _ => rfl) rfl (by omega) (by omega)
  refine mt_return dX2_bring_41 rfl (Nat.le_of_ble_eq_true rfl) (Nat.le_of_ble_eq_true rfl) ?_
  exact ⟨rfl, rfl, (congrArg Prod.fst z9) ▸ z6, z7.trans (congrArg (fun q : List mIt × Int32 => (Sum.inr (Sum.inr (4, [.ref r1, .ref r14, .int q.2, .int ac, .int rf, .int kn])) : mE)) z9), z8⟩
