/-! ===== text: the class ===== -/
abbrev rX2_text : Room := { frames := 7, cells := 60, slots := 29000, locals := 144 }
set_option maxRecDepth 100000 in
set_option maxHeartbeats 2000000 in
theorem tX2_text_71 {l : Launch} {K : mK} {a b lo room rr p q to : Nat} {fl : Int32} {xs : List mIt} {h0 : mH} (hl : l.stackTraces = false) (H : rowAt h0 b room fl xs) (hb : b + 3 ≤ lo) (ht : to ≤ xs.length) (hx3 : xs.length ≤ 320) (ht2 : to ≤ p + 20) (kk0 : ∀ (h : mH) (n : Nat) (c : Nat) (i : Nat), (sbA h lo n a c c) → (c ≤ 240) → (∀ j, j < lo → h j = h0 j) → (lo ≤ n) → mT l mX2_text rX2_text K 112 [.ref 0, .int (nI rr), .int (nI p), .int (nI q), .ref b, .int (nI to), .ref a, .int (nI i)] [] h n 50 28100) : ∀ (N0 : Nat) (h : mH) (n : Nat) (c : Nat) (i : Nat), (to - i) < N0 → (sbA h lo n a c c) → (c ≤ 12 * (i - p)) → (p ≤ i ∧ i ≤ to) → (∀ j, j < lo → h j = h0 j) → (lo ≤ n) → mT l mX2_text rX2_text K 71 [.ref 0, .int (nI rr), .int (nI p), .int (nI q), .ref b, .int (nI to), .ref a, .int (nI i)] [] h n (10 + 2 * (i - p)) (100 + 1400 * (i - p)) := by
  intro N0
  induction N0 with
  | zero => intro h n c i hm; exact absurd hm (Nat.not_lt_zero _)
  | succ N0 ih =>
    intro h n c i hm A hc hi fr hn
    obtain ⟨vz1, cz1, fz1, mz1, ez1, -⟩ := id A
    refine mt_iload dX2_text_71 rfl ?_
    refine mt_iload dX2_text_73 rfl ?_
    refine mt_icmp_ge dX2_text_75 (tgt := 112) rfl (fun q2 => ?_) (fun q2 => ?_)
    · have q2 := Int32.not_lt.mpr q2
      have q2 := (not_congr (nI_ltI (by omega) (by omega))).mp q2
      refine mt_widen (cc' := 50) (sc' := 28100) (by first | omega | (simp only [rX2_text, rJ4_append_cf468, rJ4_append_bf812]; omega)) (by first | omega | (simp only [rX2_text, rJ4_append_cf468, rJ4_append_bf812]; omega)) ?_
      exact kk0 h n c i A (by omega) fr hn
    · have q2 := Int32.not_le.mp q2
      have q2 := (nI_ltI (by omega) (by omega)).mp q2
      refine mt_iload dX2_text_78 rfl ?_
      refine mt_iload_n dX2_text_80 rfl ?_
      refine mt_icmp_le dX2_text_81 (tgt := 92) rfl (fun q3 => ?_) (fun q3 => ?_)
      · have q3 := Int32.not_lt.mpr q3
        have q3 := (not_congr (nI_ltI (by omega) (by omega))).mp q3
        refine mt_aload dX2_text_92 rfl rfl ?_
        refine mt_aload dX2_text_94 rfl rfl ?_
        obtain ⟨f_4, g_4, ea_4, ek_4, es_4, ql_4, qr_4, qk_4, qt_4⟩ := id H.fr (fun j j1 j2 => fr j (by omega))
        refine mt_getfield mKX1 (i := 0) (by decide) mw_68 dX2_text_96 ea_4 rfl ?_
        refine mt_iload dX2_text_99 rfl ?_
        refine mp_iaload dX2_text_101 ek_4 rfl (by omega) (by omega) (v := xk xs i) (qk_4 _ (by omega)) ?_
        refine mt_callV (N := mJ4_append_bf812) (Rc := rJ4_append_bf812) (As := [.int (xk xs i)]) (st := []) dX2_text_102 (kJ4_append_bf812 hl A (by omega)) sJ4_append_bf812 mw_760 mKJ4 rfl ez1 rfl (Nat.le_of_ble_eq_true rfl) ⟨⟨Nat.le_of_ble_eq_true rfl, Nat.le_of_ble_eq_true rfl⟩, (by simp only [rX2_text, rJ4_append_cf468, rJ4_append_bf812]; omega), (by simp only [rX2_text, rJ4_append_cf468, rJ4_append_bf812]; omega)⟩ (fun v5 h6 n7 c8 => ?_) (fun _ _ _ hx => hx.elim)
        obtain ⟨c8a, c8b, ⟨cc8, c8c, c8d, Ac8⟩, c8e⟩ := c8
        rw [c8a]
        obtain ⟨vz9, cz9, fz9, mz9, ez9, -⟩ := id Ac8
        show mT _ _ _ _ 105 [.ref 0, .int (nI rr), .int (nI p), .int (nI q), .ref b, .int (nI to), .ref a, .int (nI i)] [.ref a] _ _ _ _
        refine mt_pop dX2_text_105 rfl ?_
        refine mp_iinc dX2_text_106 rfl (v := nI (i + 1)) mI_inc (ls' := [.ref 0, .int (nI rr), .int (nI p), .int (nI q), .ref b, .int (nI to), .ref a, .int (nI (i + 1))]) rfl (by decide) rfl ?_
        refine mt_goto dX2_text_109 (tgt := 71) rfl ?_
        refine mt_widen (cc' := 10 + 2 * (i + 1 - p)) (sc' := 100 + 1400 * (i + 1 - p)) (by first | omega | (simp only [rX2_text, rJ4_append_cf468, rJ4_append_bf812]; omega)) (by first | omega | (simp only [rX2_text, rJ4_append_cf468, rJ4_append_bf812]; omega)) ?_
        exact ih h6 n7 cc8 (i + 1) (by omega) Ac8 (by omega) (⟨by omega, by omega⟩) (fun j hj => (c8e j (by omega)).trans (fr j hj)) (by omega)
      · have q3 := Int32.not_le.mp q3
        have q3 := (nI_ltI (by omega) (by omega)).mp q3
        refine mt_aload dX2_text_84 rfl rfl ?_
        refine mt_bipush dX2_text_86 (v := nI 32) (by decide) ?_
        refine mt_callV (N := mJ4_append_cf468) (Rc := rJ4_append_cf468) (As := [.int (nI 32)]) (st := []) dX2_text_88 (kJ4_append_cf468 hl A (by omega)) sJ4_append_cf468 mw_671 mKJ4 rfl ez1 rfl (Nat.le_of_ble_eq_true rfl) ⟨⟨Nat.le_of_ble_eq_true rfl, Nat.le_of_ble_eq_true rfl⟩, (by simp only [rX2_text, rJ4_append_cf468, rJ4_append_bf812]; omega), (by simp only [rX2_text, rJ4_append_cf468, rJ4_append_bf812]; omega)⟩ (fun v10 h11 n12 c13 => ?_) (fun _ _ _ hx => hx.elim)
        obtain ⟨c13a, c13b, ⟨cc13, c13c, c13d, Ac13⟩, c13e⟩ := c13
        rw [c13a]
        obtain ⟨vz14, cz14, fz14, mz14, ez14, -⟩ := id Ac13
        show mT _ _ _ _ 91 [.ref 0, .int (nI rr), .int (nI p), .int (nI q), .ref b, .int (nI to), .ref a, .int (nI i)] [.ref a] _ _ _ _
        refine mt_pop dX2_text_91 rfl ?_
        refine mt_aload dX2_text_92 rfl rfl ?_
        refine mt_aload dX2_text_94 rfl rfl ?_
        obtain ⟨f_15, g_15, ea_15, ek_15, es_15, ql_15, qr_15, qk_15, qt_15⟩ := id (H.fr (fun j j1 j2 => fr j (by omega))).fr (fun j j1 j2 => c13e j (by omega))
        refine mt_getfield mKX1 (i := 0) (by decide) mw_68 dX2_text_96 ea_15 rfl ?_
        refine mt_iload dX2_text_99 rfl ?_
        refine mp_iaload dX2_text_101 ek_15 rfl (by omega) (by omega) (v := xk xs i) (qk_15 _ (by omega)) ?_
        refine mt_callV (N := mJ4_append_bf812) (Rc := rJ4_append_bf812) (As := [.int (xk xs i)]) (st := []) dX2_text_102 (kJ4_append_bf812 hl Ac13 (by omega)) sJ4_append_bf812 mw_760 mKJ4 rfl ez14 rfl (Nat.le_of_ble_eq_true rfl) ⟨⟨Nat.le_of_ble_eq_true rfl, Nat.le_of_ble_eq_true rfl⟩, (by simp only [rX2_text, rJ4_append_cf468, rJ4_append_bf812]; omega), (by simp only [rX2_text, rJ4_append_cf468, rJ4_append_bf812]; omega)⟩ (fun v16 h17 n18 c19 => ?_) (fun _ _ _ hx => hx.elim)
        obtain ⟨c19a, c19b, ⟨cc19, c19c, c19d, Ac19⟩, c19e⟩ := c19
        rw [c19a]
        obtain ⟨vz20, cz20, fz20, mz20, ez20, -⟩ := id Ac19
        show mT _ _ _ _ 105 [.ref 0, .int (nI rr), .int (nI p), .int (nI q), .ref b, .int (nI to), .ref a, .int (nI i)] [.ref a] _ _ _ _
        refine mt_pop dX2_text_105 rfl ?_
        refine mp_iinc dX2_text_106 rfl (v := nI (i + 1)) mI_inc (ls' := [.ref 0, .int (nI rr), .int (nI p), .int (nI q), .ref b, .int (nI to), .ref a, .int (nI (i + 1))]) rfl (by decide) rfl ?_
        refine mt_goto dX2_text_109 (tgt := 71) rfl ?_
        refine mt_widen (cc' := 10 + 2 * (i + 1 - p)) (sc' := 100 + 1400 * (i + 1 - p)) (by first | omega | (simp only [rX2_text, rJ4_append_cf468, rJ4_append_bf812]; omega)) (by first | omega | (simp only [rX2_text, rJ4_append_cf468, rJ4_append_bf812]; omega)) ?_
        exact ih h17 n18 cc19 (i + 1) (by omega) Ac19 (by omega) (⟨by omega, by omega⟩) (fun j hj => ((c19e j (by omega)).trans (c13e j (by omega))).trans (fr j hj)) (by omega)
set_option maxRecDepth 100000 in
set_option maxHeartbeats 2000000 in
theorem kX2_text {l : Launch} (hl : l.stackTraces = false) {h : mH} {n : Nat} {S : cS} {row from_ many : Int32} (C : cAt h S) (hn : 27 ≤ n) : mC l mX2_text rX2_text [.ref 0, .int row, .int from_, .int many] h n (fun v h' n' => ∃ k, v = some (.ref k) ∧ n ≤ n' ∧ ∀ j, j < n → h' j = h j) (fun E h' n' => (E = eI ∨ E = eA) ∧ h' = h ∧ n' = n) := by
  obtain ⟨C0, ⟨cg, C1, C1g⟩, C14, CR, ⟨zs15, HK15⟩, ⟨zs18, HK18⟩, ⟨zs21, HK21⟩, ⟨zs24, HK24⟩⟩ := id C
  refine mm_enter hl (by decide +kernel) rfl rfl rfl (Nat.le_of_ble_eq_true rfl) ?_
  show mT _ _ _ _ 0 [.ref 0, .int row, .int from_, .int many, .double 0, .double 0, .double 0, .double 0] [] _ _ 0 0
  refine mt_aload_n dX2_text_0 rfl rfl ?_
  refine mt_iload_n dX2_text_1 rfl ?_
  refine mt_callV (N := mX2_rowOf) (Rc := rX2_rowOf) (As := [.int row]) (st := []) dX2_text_2 (kX2_rowOf hl C) sX2_rowOf mw_230 mKX2 rfl C0 rfl (Nat.le_of_ble_eq_true rfl) ⟨⟨Nat.le_of_ble_eq_true rfl, Nat.le_of_ble_eq_true rfl⟩, Nat.le_of_ble_eq_true rfl, Nat.le_of_ble_eq_true rfl⟩ (fun v1 h2 n3 c4 => ?_) (fun E h9 n9 hx => mt_out rfl (by obtain ⟨rfl, hq, rfl, rfl⟩ := hx; exact ⟨Or.inl rfl, rfl, rfl⟩) (Nat.le_of_ble_eq_true rfl) (Nat.le_of_ble_eq_true rfl))
  obtain ⟨r, hr, rfl, c4a, c4b, c4c⟩ := c4
  rw [c4a, c4b, c4c]
  have hLr := (CR r hr).len
  show mT _ _ _ _ 5 [.ref 0, .int (nI r), .int from_, .int many, .double 0, .double 0, .double 0, .double 0] [.ref (2 + 3 * r)] _ _ _ _
  refine mp_astore dX2_text_5 (ls' := [.ref 0, .int (nI r), .int from_, .int many, .ref (2 + 3 * r), .double 0, .double 0, .double 0]) rfl rfl (by decide) rfl ?_
  refine mt_iload_n dX2_text_7 rfl ?_
  refine mt_if_lt dX2_text_8 (tgt := 24) rfl (fun q5 => ?_) (fun q5 => ?_)
  · refine mt_iconst dX2_text_24 (v := nI 0) rfl ?_
    refine mt_callS (N := mX2_demandWithin) (Rc := rX2_demandWithin) (As := [.int (nI 0)]) (st := []) dX2_text_25 (kX2_demandWithin_f hl) sX2_demandWithin mw_460 rfl (Nat.le_of_ble_eq_true rfl) ⟨⟨Nat.le_of_ble_eq_true rfl, Nat.le_of_ble_eq_true rfl⟩, Nat.le_of_ble_eq_true rfl, Nat.le_of_ble_eq_true rfl⟩ (fun _ _ _ hv => hv.elim) (fun E h9 n9 hx => ?_)
    obtain ⟨rfl, rfl, rfl⟩ := hx
    refine mt_out rfl ?_ (Nat.le_of_ble_eq_true rfl) (Nat.le_of_ble_eq_true rfl)
    exact ⟨Or.inl rfl, rfl, rfl⟩
  · refine mt_iload_n dX2_text_11 rfl ?_
    refine mt_aload dX2_text_12 rfl rfl ?_
    obtain ⟨f_10, g_10, ea_10, ek_10, es_10, ql_10, qr_10, qk_10, qt_10⟩ := id CR r (by omega)
    refine mt_getfield mKX1 (i := 3) (by decide) mw_76 dX2_text_14 ea_10 rfl ?_
    refine mt_icmp_gt dX2_text_17 (tgt := 24) rfl (fun q11 => ?_) (fun q11 => ?_)
    · refine mt_iconst dX2_text_24 (v := nI 0) rfl ?_
      refine mt_callS (N := mX2_demandWithin) (Rc := rX2_demandWithin) (As := [.int (nI 0)]) (st := []) dX2_text_25 (kX2_demandWithin_f hl) sX2_demandWithin mw_460 rfl (Nat.le_of_ble_eq_true rfl) ⟨⟨Nat.le_of_ble_eq_true rfl, Nat.le_of_ble_eq_true rfl⟩, Nat.le_of_ble_eq_true rfl, Nat.le_of_ble_eq_true rfl⟩ (fun _ _ _ hv => hv.elim) (fun E h9 n9 hx => ?_)
      obtain ⟨rfl, rfl, rfl⟩ := hx
      refine mt_out rfl ?_ (Nat.le_of_ble_eq_true rfl) (Nat.le_of_ble_eq_true rfl)
      exact ⟨Or.inl rfl, rfl, rfl⟩
    · refine mt_iconst dX2_text_20 (v := nI 1) rfl ?_
      refine mt_goto dX2_text_21 (tgt := 25) rfl ?_
      obtain ⟨p16, hp16, rfl⟩ := inN_le (k := (S.1 r).length) (by assumption) (by assumption) (by first | decide | omega)
      refine mt_callS (N := mX2_demandWithin) (Rc := rX2_demandWithin) (As := [.int (nI 1)]) (st := []) dX2_text_25 (kX2_demandWithin_t hl) sX2_demandWithin mw_460 rfl (Nat.le_of_ble_eq_true rfl) ⟨⟨Nat.le_of_ble_eq_true rfl, Nat.le_of_ble_eq_true rfl⟩, Nat.le_of_ble_eq_true rfl, Nat.le_of_ble_eq_true rfl⟩ (fun v17 h18 n19 c20 => ?_) (fun _ _ _ hx => hx.elim)
      obtain ⟨c20a, c20b, c20c⟩ := c20
      rw [c20a, c20b, c20c]
      show mT _ _ _ _ 28 [.ref 0, .int (nI r), .int (nI p16), .int many, .ref (2 + 3 * r), .double 0, .double 0, .double 0] [] _ _ _ _
      refine mt_iload_n dX2_text_28 rfl ?_
      refine mt_if_lt dX2_text_29 (tgt := 42) rfl (fun q21 => ?_) (fun q21 => ?_)
      · refine mt_iconst dX2_text_42 (v := nI 0) rfl ?_
        refine mt_callS (N := mX2_demand) (Rc := rX2_demand) (As := [.int (nI 0)]) (st := []) dX2_text_43 (kX2_demand_f hl) sX2_demand mw_309 rfl (Nat.le_of_ble_eq_true rfl) ⟨⟨Nat.le_of_ble_eq_true rfl, Nat.le_of_ble_eq_true rfl⟩, Nat.le_of_ble_eq_true rfl, Nat.le_of_ble_eq_true rfl⟩ (fun _ _ _ hv => hv.elim) (fun E h9 n9 hx => ?_)
        obtain ⟨rfl, rfl, rfl⟩ := hx
        refine mt_out rfl ?_ (Nat.le_of_ble_eq_true rfl) (Nat.le_of_ble_eq_true rfl)
        exact ⟨Or.inr rfl, rfl, rfl⟩
      · refine mt_iload_n dX2_text_32 rfl ?_
        refine mt_bipush dX2_text_33 (v := nI 20) (by decide) ?_
        refine mt_icmp_gt dX2_text_35 (tgt := 42) rfl (fun q26 => ?_) (fun q26 => ?_)
        · refine mt_iconst dX2_text_42 (v := nI 0) rfl ?_
          refine mt_callS (N := mX2_demand) (Rc := rX2_demand) (As := [.int (nI 0)]) (st := []) dX2_text_43 (kX2_demand_f hl) sX2_demand mw_309 rfl (Nat.le_of_ble_eq_true rfl) ⟨⟨Nat.le_of_ble_eq_true rfl, Nat.le_of_ble_eq_true rfl⟩, Nat.le_of_ble_eq_true rfl, Nat.le_of_ble_eq_true rfl⟩ (fun _ _ _ hv => hv.elim) (fun E h9 n9 hx => ?_)
          obtain ⟨rfl, rfl, rfl⟩ := hx
          refine mt_out rfl ?_ (Nat.le_of_ble_eq_true rfl) (Nat.le_of_ble_eq_true rfl)
          exact ⟨Or.inr rfl, rfl, rfl⟩
        · refine mt_iconst dX2_text_38 (v := nI 1) rfl ?_
          refine mt_goto dX2_text_39 (tgt := 43) rfl ?_
          obtain ⟨p31, hp31, rfl⟩ := inN_le (k := 20) (by assumption) (by assumption) (by first | decide | omega)
          refine mt_callS (N := mX2_demand) (Rc := rX2_demand) (As := [.int (nI 1)]) (st := []) dX2_text_43 (kX2_demand_t hl) sX2_demand mw_309 rfl (Nat.le_of_ble_eq_true rfl) ⟨⟨Nat.le_of_ble_eq_true rfl, Nat.le_of_ble_eq_true rfl⟩, Nat.le_of_ble_eq_true rfl, Nat.le_of_ble_eq_true rfl⟩ (fun v32 h33 n34 c35 => ?_) (fun _ _ _ hx => hx.elim)
          obtain ⟨c35a, c35b, c35c⟩ := c35
          rw [c35a, c35b, c35c]
          show mT _ _ _ _ 46 [.ref 0, .int (nI r), .int (nI p16), .int (nI p31), .ref (2 + 3 * r), .double 0, .double 0, .double 0] [] _ _ _ _
          refine mt_iload_n dX2_text_46 rfl ?_
          refine mt_iload_n dX2_text_47 rfl ?_
          refine mp_iadd dX2_text_48 (v := nI (p16 + p31)) (nI_add _ _) ?_
          refine mt_aload dX2_text_49 rfl rfl ?_
          refine mt_getfield mKX1 (i := 3) (by decide) mw_76 dX2_text_51 ea_10 rfl ?_
          refine mt_mmin dX2_text_54 mw_429 mw_152 mw_41 (mw_min) (Nat.le_of_ble_eq_true rfl) ⟨Nat.le_of_ble_eq_true rfl, Nat.le_of_ble_eq_true rfl⟩ (Nat.le_of_ble_eq_true rfl) (Nat.le_of_ble_eq_true rfl) (v := nI (min (p16 + p31) ((S.1 r).length))) (mI_min (by omega) (by omega)) ?_
          refine mp_istore dX2_text_57 (ls' := [.ref 0, .int (nI r), .int (nI p16), .int (nI p31), .ref (2 + 3 * r), .int (nI (min (p16 + p31) ((S.1 r).length))), .double 0, .double 0]) rfl (by decide) rfl ?_
          refine mp_new mKJ4 dX2_text_59 mw_640 mw_641 mw_44 (fs := [.null, .int (nI 0), .int (nI 0), .int (nI 0)]) mDJ4 (mdf_ok rfl) (Nat.le_of_ble_eq_true rfl) (Nat.le_of_ble_eq_true rfl) (fun h36 e37 f38 => ?_)
          refine mt_dup dX2_text_62 rfl ?_
          refine mt_callI (N := mJ4_init_da8c8) (Rc := rJ4_init_da8c8) (As := []) (st := [.ref n]) dX2_text_63 (kJ4_init_da8c8 hl e37 (by omega)) sJ4_init_da8c8 mw_642 rfl (Nat.le_of_ble_eq_true rfl) ⟨⟨Nat.le_of_ble_eq_true rfl, Nat.le_of_ble_eq_true rfl⟩, Nat.le_of_ble_eq_true rfl, Nat.le_of_ble_eq_true rfl⟩ (fun v39 h40 n41 c42 => ?_)
          obtain ⟨c42a, c42b, c42c, c42d⟩ := c42
          rw [c42a]
          obtain ⟨vz43, cz43, fz43, mz43, ez43, -⟩ := id c42c
          show mT _ _ _ _ 66 [.ref 0, .int (nI r), .int (nI p16), .int (nI p31), .ref (2 + 3 * r), .int (nI (min (p16 + p31) ((S.1 r).length))), .double 0, .double 0] [.ref n] _ _ _ _
          refine mp_astore dX2_text_66 (ls' := [.ref 0, .int (nI r), .int (nI p16), .int (nI p31), .ref (2 + 3 * r), .int (nI (min (p16 + p31) ((S.1 r).length))), .ref n, .double 0]) rfl rfl (by decide) rfl ?_
          refine mt_widen (cc' := 10 + 2 * (p16 - p16)) (sc' := 100 + 1400 * (p16 - p16)) (by simp only [rX2_text, rX2_rowOf, rX2_demandWithin, rX2_demand, rJ4_init_da8c8, rJ4_append_cf468, rJ4_append_bf812, rJ4_toString_0e30d]; omega) (by simp only [rX2_text, rX2_rowOf, rX2_demandWithin, rX2_demand, rJ4_init_da8c8, rJ4_append_cf468, rJ4_append_bf812, rJ4_toString_0e30d]; omega) ?_
          refine mt_iload_n dX2_text_68 rfl ?_
          refine mp_istore dX2_text_69 (ls' := [.ref 0, .int (nI r), .int (nI p16), .int (nI p31), .ref (2 + 3 * r), .int (nI (min (p16 + p31) ((S.1 r).length))), .ref n, .int (nI p16)]) rfl (by decide) rfl ?_
          refine tX2_text_71 hl (CR r hr) (by omega) (by omega) (by omega) (by omega) (fun h_44 n_45 c_46 i_47 z48 z49 z50 z51 => ?_) _ h40 n41 0 p16 (Nat.lt_succ_self _) c42c (by omega) (⟨by omega, by omega⟩) (fun j hj => (c42d j (by omega)).trans (f38 j (by omega))) (by omega)
          obtain ⟨vz52, cz52, fz52, mz52, ez52, -⟩ := id z48
          refine mt_aload dX2_text_112 rfl rfl ?_
          refine mt_callV (N := mJ4_toString_0e30d) (Rc := rJ4_toString_0e30d) (As := []) (st := []) dX2_text_114 (kJ4_toString_0e30d hl z48) sJ4_toString_0e30d mw_794 mKJ4 rfl ez52 rfl (Nat.le_of_ble_eq_true rfl) ⟨⟨Nat.le_of_ble_eq_true rfl, Nat.le_of_ble_eq_true rfl⟩, Nat.le_of_ble_eq_true rfl, Nat.le_of_ble_eq_true rfl⟩ (fun v53 h54 n55 c56 => ?_) (fun _ _ _ hx => hx.elim)
          obtain ⟨c56a, c56b, c56d⟩ := c56
          rw [c56a]
          show mT _ _ _ _ 117 [.ref 0, .int (nI r), .int (nI p16), .int (nI p31), .ref (2 + 3 * r), .int (nI (min (p16 + p31) ((S.1 r).length))), .ref n, .int (nI i_47)] [.ref n_45] _ _ _ _
          refine mt_areturn dX2_text_117 rfl (by first | exact Or.inl ⟨_, rfl⟩ | exact Or.inr ⟨_, rfl⟩) rfl (Nat.le_of_ble_eq_true rfl) (Nat.le_of_ble_eq_true rfl) ?_
          exact ⟨_, rfl, by omega, fun j hj => (c56d j (by omega)).trans (z50 j (by omega))⟩
