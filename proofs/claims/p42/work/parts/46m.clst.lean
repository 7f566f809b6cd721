/-! ===== text: the class ===== -/
abbrev rX2_text : Room := { frames := 7, cells := 60, slots := 29000, locals := 144 }
set_option maxRecDepth 100000 in
set_option maxHeartbeats 2000000 in
theorem tX2_text_71 {l : Launch} {K : mK} {a b lo room rr p q to : Nat} {fl : Int32} {xs : List mIt} {h0 : mH} (hl : l.stackTraces = false) (H : rowAt h0 b room fl xs) (hb : b + 3 ≤ lo) (ht : to ≤ xs.length) (hx3 : xs.length ≤ 320) (ht2 : to ≤ p + 20) (kk0 : ∀ (h : mH) (n : Nat) (c : Nat) (i : Nat), (sbA h lo n a c c) → (c ≤ 240) → (∀ j, j < lo → h j = h0 j) → (lo ≤ n) → mT l mX2_text rX2_text K 112 [.ref 0, .int (nI rr), .int (nI p), .int (nI q), .ref b, .int (nI to), .ref a, .int (nI i)] [] h n 50 28100) : ∀ (N0 : Nat) (h : mH) (n : Nat) (c : Nat) (i : Nat), (to - i) < N0 → (sbA h lo n a c c) → (c ≤ 12 * (i - p)) → (p ≤ i ∧ i ≤ to) → (∀ j, j < lo → h j = h0 j) → (lo ≤ n) → mT l mX2_text rX2_text K 71 [.ref 0, .int (nI rr), .int (nI p), .int (nI q), .ref b, .int (nI to), .ref a, .int (nI i)] [] h n (10 + 2 * (i - p)) (100 + 1400 * (i - p)) := by
  intro N0
  induction N0 with
  | zero => intro h n c i hm; exact absurd hm (Nat.not_lt_zero _)
  | succ N0 ih =>
    intro h n c i hm A hc hi fr hn
    obtain ⟨vz1, cz1, fz1, mz1, ez1, -⟩ := id A
    refine mt_iload dX2_text_71 rfl ?_
    refine mt_iload dX2_text_73 rfl ?_
    refine mt_icmp_ge dX2_text_75 (tgt := 112) rfl (fun q2 => ?_) (fun q2 => ?_)
    · have q2 := Int32.not_lt.mpr q2
      have q2 := (not_congr (nI_ltI (by omega) (by omega))).mp q2
      refine mt_widen (cc' := 50) (sc' := 28100) (by first | omega | (simp only [rX2_text, rJ4_append_cf468, rJ4_append_bf812]; omega)) (by first | omega | (simp only [rX2_text, rJ4_append_cf468, rJ4_append_bf812]; omega)) ?_
      exact kk0 h n c i A (by omega) fr hn
    · have q2 := Int32.not_le.mp q2
      have q2 := (nI_ltI (by omega) (by omega)).mp q2
      refine mt_iload dX2_text_78 rfl ?_
      refine mt_iload_n dX2_text_80 rfl ?_
      refine mt_icmp_le dX2_text_81 (tgt := 92) rfl (fun q3 => ?_) (fun q3 => ?_)
      · have q3 := Int32.not_lt.mpr q3
        have q3 := (not_congr (nI_ltI (by omega) (by omega))).mp q3
        refine mt_aload dX2_text_92 rfl rfl ?_
        refine mt_aload dX2_text_94 rfl rfl ?_
        obtain ⟨f_4, g_4, ea_4, ek_4, es_4, ql_4, qr_4, qk_4, qt_4⟩ := id H.fr (fun j j1 j2 => fr j (by omega))
        refine mt_getfield mKX1 (i := 0) (by decide) mw_68 dX2_text_96 ea_4 rfl ?_
        refine mt_iload dX2_text_99 rfl ?_
        refine mp_iaload dX2_text_101 ek_4 rfl (by omega) (by omega) (v := xk xs i) (qk_4 _ (by omega)) ?_
        refine mt_callV (N := mJ4_append_bf812) (Rc := rJ4_append_bf812) (As := [.int (xk xs i)]) (st := []) dX2_text_102 (kJ4_append_bf812 hl A (by omega)) sJ4_append_bf812 mw_760 mKJ4 rfl ez1 rfl (Nat.le_of_ble_eq_true rfl) ⟨⟨Nat.le_of_ble_eq_true rfl, Nat.le_of_ble_eq_true rfl⟩, (by simp only [rX2_text, rJ4_append_cf468, rJ4_append_bf812]; omega), (by simp only [rX2_text, rJ4_append_cf468, rJ4_append_bf812]; omega)⟩ (fun v5 h6 n7 c8 => ?_) (fun _ _ _ hx => hx.elim)
        obtain ⟨c8a, c8b, ⟨cc8, c8c, c8d, Ac8⟩, c8e⟩ := c8
        rw [c8a]
        obtain ⟨vz9, cz9, fz9, mz9, ez9, -⟩ := id Ac8
        show mT _ _ _ _ 105 [.ref 0, .int (nI rr), .int (nI p), .int (nI q), .ref b, .int (nI to), .ref a, .int (nI i)] [.ref a] _ _ _ _
        refine mt_pop dX2_text_105 rfl ?_
        refine mp_iinc dX2_text_106 rfl (v := nI (i + 1)) mI_inc (ls' := [.ref 0, .int (nI rr), .int (nI p), .int (nI q), .ref b, .int (nI to), .ref a, .int (nI (i + 1))]) rfl (by decide) rfl ?_
        refine mt_goto dX2_text_109 (tgt := 71) rfl ?_
        refine mt_widen (cc' := 10 + 2 * (i + 1 - p)) (sc' := 100 + 1400 * (i + 1 - p)) (by first | omega | (simp only [rX2_text, rJ4_append_cf468, rJ4_append_bf812]; omega)) (by first | omega | (simp only [rX2_text, rJ4_append_cf468, rJ4_append_bf812]; omega)) ?_
        exact ih h6 n7 cc8 (i + 1) (by omega) Ac8 (by omega) (⟨by omega, by omega⟩) (fun j hj => (c8e j (by omega)).trans (fr j hj)) (by omega)
      · have q3 := Int32.not_le.mp q3
        have q3 := (nI_ltI (by omega) (by omega)).mp q3
        refine mt_aload dX2_text_84 rfl rfl ?_
        refine mt_bipush dX2_text_86 (v := nI 32) (by decide) ?_
        refine mt_callV (N := mJ4_append_cf468) (Rc := rJ4_append_cf468) (As := [.int (nI 32)]) (st := []) dX2_text_88 (kJ4_append_cf468 hl A (by omega)) sJ4_append_cf468 mw_671 mKJ4 rfl ez1 rfl (Nat.le_of_ble_eq_true rfl) ⟨⟨Nat.le_of_ble_eq_true rfl, Nat.le_of_ble_eq_true rfl⟩, (by simp only [rX2_text, rJ4_append_cf468, rJ4_append_bf812]; omega), (by simp only [rX2_text, rJ4_append_cf468, rJ4_append_bf812]; omega)⟩ (fun v10 h11 n12 c13 => ?_) (fun _ _ _ hx => hx.elim)
        obtain ⟨c13a, c13b, ⟨cc13, c13c, c13d, Ac13⟩, c13e⟩ := c13
        rw [c13a]
        obtain ⟨vz14, cz14, fz14, mz14, ez14, -⟩ := id Ac13
        show mT _ _ _ _ 91 [.ref 0, .int (nI rr), .int (nI p), .int (nI q), .ref b, .int (nI to), .ref a, .int (nI i)] [.ref a] _ _ _ _
        refine mt_pop dX2_text_91 rfl ?_
        refine mt_aload dX2_text_92 rfl rfl ?_
        refine mt_aload dX2_text_94 rfl rfl ?_
        obtain ⟨f_15, g_15, ea_15, ek_15, es_15, ql_15, qr_15, qk_15, qt_15⟩ := id (H.fr (fun j j1 j2 => fr j (by omega))).fr (fun j j1 j2 => c13e j (by omega))
        refine mt_getfield mKX1 (i := 0) (by decide) mw_68 dX2_text_96 ea_15 rfl ?_
        refine mt_iload dX2_text_99 rfl ?_
        refine mp_iaload dX2_text_101 ek_15 rfl (by omega) (by omega) (v := xk xs i) (qk_15 _ (by omega)) ?_
        refine mt_callV (N := mJ4_append_bf812) (Rc := rJ4_append_bf812) (As := [.int (xk xs i)]) (st := []) dX2_text_102 (kJ4_append_bf812 hl Ac13 (by omega)) sJ4_append_bf812 mw_760 mKJ4 rfl ez14 rfl (Nat.le_of_ble_eq_true rfl) ⟨⟨Nat.le_of_ble_eq_true rfl, Nat.le_of_ble_eq_true rfl⟩, (by simp only [rX2_text, rJ4_append_cf468, rJ4_append_bf812]; omega), (by simp only [rX2_text, rJ4_append_cf468, rJ4_append_bf812]; omega)⟩ (fun v16 h17 n18 c19 => ?_) (fun _ _ _ hx => hx.elim)
        obtain ⟨c19a, c19b, ⟨cc19, c19c, c19d, Ac19⟩, c19e⟩ := c19
        rw [c19a]
        obtain ⟨vz20, cz20, fz20, mz20, ez20, -⟩ := id Ac19
        show mT _ _ _ _ 105 [.ref 0, .int (nI rr), .int (nI p), .int (nI q), .ref b, .int (nI to), .ref a, .int (nI i)] [.ref a] _ _ _ _
        refine mt_pop dX2_text_105 rfl ?_
        refine mp_iinc dX2_text_106 rfl (v := nI (i + 1)) mI_inc (ls' := [.ref 0, .int (nI rr), .int (nI p), .int (nI q), .ref b, .int (nI to), .ref a, .int (nI (i + 1))]) rfl (by decide) rfl ?_
        refine mt_goto dX2_text_109 (tgt := 71) rfl ?_
        refine mt_widen (cc' := 10 + 2 * (i + 1 - p)) (sc' := 100 + 1400 * (i + 1 - p)) (by first | omega | (simp only [rX2_text, rJ4_append_cf468, rJ4_append_bf812]; omega)) (by first | omega | (simp only [rX2_text, rJ4_append_cf468, rJ4_append_bf812]; omega)) ?_
        exact ih h17 n18 cc19 (i + 1) (by omega) Ac19 (by omega) (⟨by omega, by omega⟩) (fun j hj => ((c19e j (by omega)).trans (c13e j (by omega))).trans (fr j hj)) (by omega)
set_option maxRecDepth 100000 in
set_option maxHeartbeats 2000000 in
theorem kX2_text {l : Launch} (hl : l.stackTraces = false) {h : mH} {n : Nat} {S : cS} {row from_ many : Int32} (C : cAt h S) (hn : 27 ≤ n) : mC l mX2_text rX2_text [.ref 0, .int row, .int from_, .int many] h n (fun v h' n' => ∃ k, v = some (.ref k) ∧ n ≤ n' ∧ ∀ j, j < n → h' j = h j) (fun E h' n' => (E = eI ∨ E = eA) ∧ h' = h ∧ n' = n) := by
  obtain ⟨C0, ⟨cg, C1, C1g⟩, C14, CR, ⟨zs15, HK15⟩, ⟨zs18, HK18⟩, ⟨zs21, HK21⟩, ⟨zs24, HK24⟩⟩ := id C
  refine mm_enter hl (by decide +kernel) rfl rfl rfl (Nat.le_of_ble_eq_true rfl) ?_
  show mT _ _ _ _ 0 [.ref 0, .int row, .int from_, .int many, .double 0, .double 0, .double 0, .double 0] [] _ _ 0 0
  refine mt_aload_n dX2_text_0 rfl rfl ?_
  refine mt_iload_n dX2_text_1 rfl ?_
  refine mt_callV (N := mX2_rowOf) (Rc := rX2_rowOf) (As := [.int row]) (st := []) dX2_text_2 (kX2_rowOf hl C) sX2_rowOf mw_230 mKX2 rfl C0 rfl (Nat.le_of_ble_eq_true rfl) ⟨⟨Nat.le_of_ble_eq_true rfl, Nat.le_of_ble_eq_true rfl⟩, Nat.le_of_ble_eq_true rfl, Nat.le_of_ble_eq_true rfl⟩ (fun v1 h2 n3 c4 => ?_) (fun E h9 n9 hx => mt_out rfl (by obtain ⟨rfl, hq, rfl, rfl⟩ := hx; exact ⟨Or.inl rfl, rfl, rfl⟩) (Nat.le_of_ble_eq_true rfl) (Nat.le_of_ble_eq_true rfl))
  obtain ⟨r, hr, rfl, c4a, c4b, c4c⟩ := c4
  rw [c4a, c4b, c4c]
  have hLr := (CR r hr).len
  show mT _ _ _ _ 5 [.ref 0, .int (nI r), .int from_, .int many, .double 0, .double 0, .double 0, .double 0] [.ref (2 + 3 * r)] _ _ _ _
  refine mp_astore dX2_text_5 (ls' := [.ref 0, .int (nI r), .int from_, .int many, .ref (2 + 3 * r), .double 0, .double 0, .double 0]) rfl rfl (by decide) rfl ?_
  refine mt_iload_n dX2_text_7 rfl ?_
  refine mt_if_lt dX2_text_8 (tgt := 24) rfl (fun q5 => ?_) (fun q5 => ?_)
  · refine mt_iconst dX2_text_24 (v := nI 0) rfl ?_
    refine mt_callS (N := mX2_demandWithin) (Rc := rX2_demandWithin) (As := [.int (nI 0)]) (st := []) dX2_text_25 (kX2_demandWithin_f hl) sX2_demandWithin mw_460 rfl (Nat.le_of_ble_eq_true rfl) ⟨⟨Nat.le_of_ble_eq_true rfl, Nat.le_of_ble_eq_true rfl⟩, Nat.le_of_ble_eq_true rfl, Nat.le_of_ble_eq_true rfl⟩ (fun _ _ _ hv => hv.elim) (fun E h9 n9 hx => ?_)
    obtain ⟨rfl, rfl, rfl⟩ := hx
    refine mt_out rfl ?_ (Nat.le_of_ble_eq_true rfl) (Nat.le_of_ble_eq_true rfl)
    exact ⟨Or.inl rfl, rfl, rfl⟩
  · refine mt_iload_n dX2_text_11 rfl ?_
    refine mt_aload dX2_text_12 rfl rfl ?_
    obtain ⟨f_10, g_10, ea_10, ek_10, es_10, ql_10, qr_10, qk_10, qt_10⟩ := id CR r (by omega)
    refine mt_getfield mKX1 (i := 3) (by decide) mw_76 dX2_text_14 ea_10 rfl ?_
    refine mt_icmp_gt dX2_text_17 (tgt := 24) rfl (fun q11 => ?_) (fun q11 => ?_)
    · refine mt_iconst dX2_text_24 (v := nI 0) rfl ?_
      refine mt_callS (N := mX2_demandWithin) (Rc := rX2_demandWithin) (As := [.int (nI 0)]) (st := []) dX2_text_25 (kX2_demandWithin_f hl) sX2_demandWithin mw_460 rfl (Nat.le_of_ble_eq_true rfl) ⟨⟨Nat.le_of_ble_eq_true rfl, Nat.le_of_ble_eq_true rfl⟩, Nat.le_of_ble_eq_true rfl, Nat.le_of_ble_eq_true rfl⟩ (fun _ _ _ hv => hv.elim) (fun E h9 n9 hx => ?_)
      obtain ⟨rfl, rfl, rfl⟩ := hx
      refine mt_out rfl ?_ (Nat.le_of_ble_eq_true rfl) (Nat.le_of_ble_eq_true rfl)
      exact ⟨Or.inl rfl, rfl, rfl⟩
    · refine mt_iconst dX2_text_20 (v := nI 1) rfl ?_
      refine mt_goto dX2_text_21 (tgt := 25) rfl ?_
      obtain ⟨p16, hp16, rfl⟩ := inN_le (k := (S.1 r).length) (by assumption) (by assumption) (by first | decide | omega)
      refine mt_callS (N := mX2_demandWithin) (Rc := rX2_demandWithin) (As := [.int (nI 1)]) (st := []) dX2_text_25 (kX2_demandWithin_t hl) sX2_demandWithin mw_460 rfl (Nat.le_of_ble_eq_true rfl) ⟨⟨Nat.le_of_ble_eq_true rfl, Nat.le_of_ble_eq_true rfl⟩, Nat.le_of_ble_eq_true rfl, Nat.le_of_ble_eq_true rfl⟩ (fun v17 h18 n19 c20 => ?_) (fun _ _ _ hx => hx.elim)
      obtain ⟨c20a, c20b, c20c⟩ := c20
      rw [c20a, c20b, c20c]
      show mT _ _ _ _ 28 [.ref 0, .int (nI r), .int (nI p16), .int many, .ref (2 + 3 * r), .double 0, .double 0, .double 0] [] _ _ _ _
      refine mt_iload_n dX2_text_28 rfl ?_
      refine mt_if_lt dX2_text_29 (tgt := 42) rfl (fun q21 => ?_) (fun q21 => ?_)
      · refine mt_iconst dX2_text_42 (v := nI 0) rfl ?_
        refine mt_callS (N := mX2_demand) (Rc := rX2_demand) (As := [.int (nI 0)]) (st := []) dX2_text_43 (kX2_demand_f hl) sX2_demand mw_309 rfl (Nat.le_of_ble_eq_true rfl) ⟨⟨Nat.le_of_ble_eq_true rfl, Nat.le_of_ble_eq_true rfl⟩, Nat.le_of_ble_eq_true rfl, Nat.le_of_ble_eq_true rfl⟩ (fun _ _ _ hv => hv.elim) (fun E h9 n9 hx => ?_)
        obtain ⟨rfl, rfl, rfl⟩ := hx
        refine mt_out rfl ?_ (Nat.le_of_ble_eq_true rfl) (Nat.le_of_ble_eq_true rfl)
        exact ⟨Or.inr rfl, rfl, rfl⟩
      · refine mt_iload_n dX2_text_32 rfl ?_
        refine mt_bipush dX2_text_33 (v := nI 20) (by decide) ?_
        refine mt_icmp_gt dX2_text_35 (tgt := 42) rfl (fun q26 => ?_) (fun q26 => ?_)
        · refine mt_iconst dX2_text_42 (v := nI 0) rfl ?_
          refine mt_callS (N := mX2_demand) (Rc := rX2_demand) (As := [.int (nI 0)]) (st := []) dX2_text_43 (kX2_demand_f hl) sX2_demand mw_309 rfl (Nat.le_of_ble_eq_true rfl) ⟨⟨Nat.le_of_ble_eq_true rfl, Nat.le_of_ble_eq_true rfl⟩, Nat.le_of_ble_eq_true rfl, Nat.le_of_ble_eq_true rfl⟩ (fun _ _ _ hv => hv.elim) (fun E h9 n9 hx => ?_)
          obtain ⟨rfl, rfl, rfl⟩ := hx
          refine mt_out rfl ?_ (Nat.le_of_ble_eq_true rfl) (Nat.le_of_ble_eq_true rfl)
          exact ⟨Or.inr rfl, rfl, rfl⟩
        · refine mt_iconst dX2_text_38 (v := nI 1) rfl ?_
          refine mt_goto dX2_text_39 (tgt := 43) rfl ?_
          obtain ⟨p31, hp31, rfl⟩ := inN_le (k := 20) (by assumption) (by assumption) (by first | decide | omega)
          refine mt_callS (N := mX2_demand) (Rc := rX2_demand) (As := [.int (nI 1)]) (st := []) dX2_text_43 (kX2_demand_t hl) sX2_demand mw_309 rfl (Nat.le_of_ble_eq_true rfl) ⟨⟨Nat.le_of_ble_eq_true rfl, Nat.le_of_ble_eq_true rfl⟩, Nat.le_of_ble_eq_true rfl, Nat.le_of_ble_eq_true rfl⟩ (fun v32 h33 n34 c35 => ?_) (fun _ _ _ hx => hx.elim)
          obtain ⟨c35a, c35b, c35c⟩ := c35
          rw [c35a, c35b, c35c]
          show mT _ _ _ _ 46 [.ref 0, .int (nI r), .int (nI p16), .int (nI p31), .ref (2 + 3 * r), .double 0, .double 0, .double 0] [] _ _ _ _
          refine mt_iload_n dX2_text_46 rfl ?_
          refine mt_iload_n dX2_text_47 rfl ?_
          refine mp_iadd dX2_text_48 (v := nI (p16 + p31)) (nI_add _ _) ?_
          refine mt_aload dX2_text_49 rfl rfl ?_
          refine mt_getfield mKX1 (i := 3) (by decide) mw_76 dX2_text_51 ea_10 rfl ?_
          refine mt_mmin dX2_text_54 mw_429 mw_152 mw_41 (mw_min) (Nat.le_of_ble_eq_true rfl) ⟨Nat.le_of_ble_eq_true rfl, Nat.le_of_ble_eq_true rfl⟩ (Nat.le_of_ble_eq_true rfl) (Nat.le_of_ble_eq_true rfl) (v := nI (min (p16 + p31) ((S.1 r).length))) (mI_min (by omega) (by omega)) ?_
          refine mp_istore dX2_text_57 (ls' := [.ref 0, .int (nI r), .int (nI p16), .int (nI p31), .ref (2 + 3 * r), .int (nI (min (p16 + p31) ((S.1 r).length))), .double 0, .double 0]) rfl (by decide) rfl ?_
          refine mp_new mKJ4 dX2_text_59 mw_640 mw_641 mw_44 (fs := [.null, .int (nI 0), .int (nI 0), .int (nI 0)]) mDJ4 (mdf_ok rfl) (Nat.le_of_ble_eq_true rfl) (Nat.le_of_ble_eq_true rfl) (fun h36 e37 f38 => ?_)
          refine mt_dup dX2_text_62 rfl ?_
          refine mt_callI (N := mJ4_init_da8c8) (Rc := rJ4_init_da8c8) (As := []) (st := [.ref n]) dX2_text_63 (kJ4_init_da8c8 hl e37 (by omega)) sJ4_init_da8c8 mw_642 rfl (Nat.le_of_ble_eq_true rfl) ⟨⟨Nat.le_of_ble_eq_true rfl, Nat.le_of_ble_eq_true rfl⟩, Nat.le_of_ble_eq_true rfl, Nat.le_of_ble_eq_true rfl⟩ (fun v39 h40 n41 c42 => ?_)
          obtain ⟨c42a, c42b, c42c, c42d⟩ := c42
          rw [c42a]
          obtain ⟨vz43, cz43, fz43, mz43, ez43, -⟩ := id c42c
          show mT _ _ _ _ 66 [.ref 0, .int (nI r), .int (nI p16), .int (nI p31), .ref (2 + 3 * r), .int (nI (min (p16 + p31) ((S.1 r).length))), .double 0, .double 0] [.ref n] _ _ _ _
          refine mp_astore dX2_text_66 (ls' := [.ref 0, .int (nI r), .int (nI p16), .int (nI p31), .ref (2 + 3 * r), .int (nI (min (p16 + p31) ((S.1 r).length))), .ref n, .double 0]) rfl rfl (by decide) rfl ?_
          refine mt_widen (cc' := 10 + 2 * (p16 - p16)) (sc' := 100 + 1400 * (p16 - p16)) (by simp only [rX2_text, rX2_rowOf, rX2_demandWithin, rX2_demand, rJ4_init_da8c8, rJ4_append_cf468, rJ4_append_bf812, rJ4_toString_0e30d]; omega) (by simp only [rX2_text, rX2_rowOf, rX2_demandWithin, rX2_demand, rJ4_init_da8c8, rJ4_append_cf468, rJ4_append_bf812, rJ4_toString_0e30d]; omega) ?_
          refine mt_iload_n dX2_text_68 rfl ?_
          refine mp_istore dX2_text_69 (ls' := [.ref 0, .int (nI r), .int (nI p16), .int (nI p31), .ref (2 + 3 * r), .int (nI (min (p16 + p31) ((S.1 r).length))), .ref n, .int (nI p16)]) rfl (by decide) rfl ?_
          refine tX2_text_71 hl (CR r hr) (by omega) (by omega) (by omega) (by omega) (fun h_44 n_45 c_46 i_47 z48 z49 z50 z51 => ?_) _ h40 n41 0 p16 (Nat.lt_succ_self _) c42c (by omega) (⟨by omega, by omega⟩) (fun j hj => (c42d j (by omega)).trans (f38 j (by omega))) (by omega)
          obtain ⟨vz52, cz52, fz52, mz52, ez52, -⟩ := id z48
          refine mt_aload dX2_text_112 rfl rfl ?_
          refine mt_callV (N := mJ4_toString_0e30d) (Rc := rJ4_toString_0e30d) (As := []) (st := []) dX2_text_114 (kJ4_toString_0e30d hl z48) sJ4_toString_0e30d mw_794 mKJ4 rfl ez52 rfl (Nat.le_of_ble_eq_true rfl) ⟨⟨Nat.le_of_ble_eq_true rfl, Nat.le_of_ble_eq_true rfl⟩, Nat.le_of_ble_eq_true rfl, Nat.le_of_ble_eq_true rfl⟩ (fun v53 h54 n55 c56 => ?_) (fun _ _ _ hx => hx.elim)
          obtain ⟨c56a, c56b, c56d⟩ := c56
          rw [c56a]
          show mT _ _ _ _ 117 [.ref 0, .int (nI r), .int (nI p16), .int (nI p31), .ref (2 + 3 * r), .int (nI (min (p16 + p31) ((S.1 r).length))), .ref n, .int (nI i_47)] [.ref n_45] _ _ _ _
          refine mt_areturn dX2_text_117 rfl (by first | exact Or.inl ⟨_, rfl⟩ | exact Or.inr ⟨_, rfl⟩) rfl (Nat.le_of_ble_eq_true rfl) (Nat.le_of_ble_eq_true rfl) ?_
          exact ⟨_, rfl, by omega, fun j hj => (c56d j (by omega)).trans (z50 j (by omega))⟩

/-! ===== text: the reference ===== -/
abbrev rX4_text : Room := { frames := 6, cells := 60, slots := 29000, locals := 144 }
set_option maxRecDepth 100000 in
set_option maxHeartbeats 2000000 in
theorem tX4_text_56 {l : Launch} {K : mK} {a lo n0 r p q : Nat} {S : cS} {th : Int32} {h0 : mH} (hl : l.stackTraces = false) (C : mAt h0 n0 S th) (hlo : n0 ≤ lo) (hr : r < 4) (hp : p ≤ 320) (hq : q ≤ 20) (kk0 : ∀ (h : mH) (n : Nat) (c : Nat) (i : Nat), (sbA h lo n a c c) → (c ≤ 240) → (∀ j, j < lo → h j = h0 j) → (lo ≤ n) → mT l mX4_text rX4_text K 111 [.ref 27, .int (nI r), .int (nI p), .int (nI q), .ref a, .int (nI i)] [] h n 50 28100) : ∀ (N0 : Nat) (h : mH) (n : Nat) (c : Nat) (i : Nat), ((p + q + 1) - i) < N0 → (sbA h lo n a c c) → (c ≤ 12 * (i - p)) → (p ≤ i ∧ i ≤ p + q) → (∀ j, j < lo → h j = h0 j) → (lo ≤ n) → mT l mX4_text rX4_text K 56 [.ref 27, .int (nI r), .int (nI p), .int (nI q), .ref a, .int (nI i)] [] h n (10 + 2 * (i - p)) (100 + 1400 * (i - p)) := by
  intro N0
  induction N0 with
  | zero => intro h n c i hm; exact absurd hm (Nat.not_lt_zero _)
  | succ N0 ih =>
    intro h n c i hm A hc hi fr hn
    obtain ⟨vz1, cz1, fz1, mz1, ez1, -⟩ := id A
    obtain ⟨C9, h39, kx, sx, HR⟩ := id C
    obtain ⟨⟨gk_2, G28_2, GK_2⟩, ⟨gs_2, G33_2, GS_2⟩, AK_2, AS_2, NE_2, NQ_2, LE_2⟩ := id HR
    obtain ⟨⟨ka_3, kb_3, kc_3, kd_3⟩, kf_3, ke_3, kg_3⟩ := AK_2 r hr
    obtain ⟨⟨sa_3, sb_3, sc_3, sd_3⟩, sf_3, se_3, sg_3⟩ := AS_2 r hr
    have kn_3 := NE_2 r r hr hr
    have kl_3 := LE_2 r hr
    have km_3 := rroom_le (r := r)
    refine mt_iload dX4_text_56 rfl ?_
    refine mt_iload_n dX4_text_58 rfl ?_
    refine mt_iload_n dX4_text_59 rfl ?_
    refine mp_iadd dX4_text_60 (v := nI (p + q)) (nI_add _ _) ?_
    refine mt_icmp_ge dX4_text_61 (tgt := 111) rfl (fun q4 => ?_) (fun q4 => ?_)
    · have q4 := Int32.not_lt.mpr q4
      have q4 := (not_congr (nI_ltI (by omega) (by omega))).mp q4
      refine mt_widen (cc' := 50) (sc' := 28100) (by first | omega | (simp only [rX4_text, rJ4_append_15ec4, rJ4_append_bf812]; omega)) (by first | omega | (simp only [rX4_text, rJ4_append_15ec4, rJ4_append_bf812]; omega)) ?_
      exact kk0 h n c i A (by omega) fr hn
    · have q4 := Int32.not_le.mp q4
      have q4 := (nI_ltI (by omega) (by omega)).mp q4
      refine mt_iload dX4_text_64 rfl ?_
      refine mt_aload_n dX4_text_66 rfl rfl ?_
      refine mt_getfield mKX4 (i := 0) (by decide) mw_1053 dX4_text_67 ((fr 27 (by omega)).trans C9) rfl ?_
      refine mt_iload_n dX4_text_70 rfl ?_
      refine mp_aaload dX4_text_71 ((fr 28 (by omega)).trans G28_2) (fun _ => rfl) rfl rfl (by omega) (by omega) (v := .ref (kx r)) (by rw [GK_2 _ (by omega)]; rfl) ?_
      refine mt_alen dX4_text_72 ((fr (kx r) (by omega)).trans ke_3) (by decide) ?_
      refine mt_icmp_ge dX4_text_73 (tgt := 111) rfl (fun q5 => ?_) (fun q5 => ?_)
      · have q5 := Int32.not_lt.mpr q5
        have q5 := (not_congr (nI_ltI (by omega) (by omega))).mp q5
        refine mt_widen (cc' := 50) (sc' := 28100) (by first | omega | (simp only [rX4_text, rJ4_append_15ec4, rJ4_append_bf812]; omega)) (by first | omega | (simp only [rX4_text, rJ4_append_15ec4, rJ4_append_bf812]; omega)) ?_
        exact kk0 h n c i A (by omega) fr hn
      · have q5 := Int32.not_le.mp q5
        have q5 := (nI_ltI (by omega) (by omega)).mp q5
        refine mt_iload dX4_text_76 rfl ?_
        refine mt_iload_n dX4_text_78 rfl ?_
        refine mt_icmp_le dX4_text_79 (tgt := 90) rfl (fun q6 => ?_) (fun q6 => ?_)
        · have q6 := Int32.not_lt.mpr q6
          have q6 := (not_congr (nI_ltI (by omega) (by omega))).mp q6
          refine mt_aload dX4_text_90 rfl rfl ?_
          refine mt_aload_n dX4_text_92 rfl rfl ?_
          refine mt_getfield mKX4 (i := 0) (by decide) mw_1053 dX4_text_93 ((fr 27 (by omega)).trans C9) rfl ?_
          refine mt_iload_n dX4_text_96 rfl ?_
          refine mp_aaload dX4_text_97 ((fr 28 (by omega)).trans G28_2) (fun _ => rfl) rfl rfl (by omega) (by omega) (v := .ref (kx r)) (by rw [GK_2 _ (by omega)]; rfl) ?_
          refine mt_iload dX4_text_98 rfl ?_
          refine mp_iaload dX4_text_100 ((fr (kx r) (by omega)).trans ke_3) rfl (by omega) (by omega) (v := xk (S.1 r) i) (kg_3 _ (by omega)) ?_
          refine mt_callV (N := mJ4_append_bf812) (Rc := rJ4_append_bf812) (As := [.int (xk (S.1 r) i)]) (st := []) dX4_text_101 (kJ4_append_bf812 hl A (by omega)) sJ4_append_bf812 mw_1260 mKJ4 rfl ez1 rfl (Nat.le_of_ble_eq_true rfl) ⟨⟨Nat.le_of_ble_eq_true rfl, Nat.le_of_ble_eq_true rfl⟩, (by simp only [rX4_text, rJ4_append_15ec4, rJ4_append_bf812]; omega), (by simp only [rX4_text, rJ4_append_15ec4, rJ4_append_bf812]; omega)⟩ (fun v7 h8 n9 c10 => ?_) (fun _ _ _ hx => hx.elim)
          obtain ⟨c10a, c10b, ⟨cc10, c10c, c10d, Ac10⟩, c10e⟩ := c10
          rw [c10a]
          obtain ⟨vz11, cz11, fz11, mz11, ez11, -⟩ := id Ac10
          show mT _ _ _ _ 104 [.ref 27, .int (nI r), .int (nI p), .int (nI q), .ref a, .int (nI i)] [.ref a] _ _ _ _
          refine mt_pop dX4_text_104 rfl ?_
          refine mp_iinc dX4_text_105 rfl (v := nI (i + 1)) mI_inc (ls' := [.ref 27, .int (nI r), .int (nI p), .int (nI q), .ref a, .int (nI (i + 1))]) rfl (by decide) rfl ?_
          refine mt_goto dX4_text_108 (tgt := 56) rfl ?_
          refine mt_widen (cc' := 10 + 2 * (i + 1 - p)) (sc' := 100 + 1400 * (i + 1 - p)) (by first | omega | (simp only [rX4_text, rJ4_append_15ec4, rJ4_append_bf812]; omega)) (by first | omega | (simp only [rX4_text, rJ4_append_15ec4, rJ4_append_bf812]; omega)) ?_
          exact ih h8 n9 cc10 (i + 1) (by omega) Ac10 (by omega) (⟨by omega, by omega⟩) (fun j hj => (c10e j (by omega)).trans (fr j hj)) (by omega)
        · have q6 := Int32.not_le.mp q6
          have q6 := (nI_ltI (by omega) (by omega)).mp q6
          refine mt_aload dX4_text_82 rfl rfl ?_
          refine mt_ldcSp rfl dX4_text_84 ?_
          refine mt_callV (N := mJ4_append_15ec4) (Rc := rJ4_append_15ec4) (As := [.retAddr 1]) (st := []) dX4_text_86 (kJ4_append_15ec4 hl A (by omega)) sJ4_append_15ec4 mw_1259 mKJ4 rfl ez1 rfl (Nat.le_of_ble_eq_true rfl) ⟨⟨Nat.le_of_ble_eq_true rfl, Nat.le_of_ble_eq_true rfl⟩, (by simp only [rX4_text, rJ4_append_15ec4, rJ4_append_bf812]; omega), (by simp only [rX4_text, rJ4_append_15ec4, rJ4_append_bf812]; omega)⟩ (fun v12 h13 n14 c15 => ?_) (fun _ _ _ hx => hx.elim)
          obtain ⟨c15a, c15b, ⟨cc15, c15c, c15d, Ac15⟩, c15e⟩ := c15
          rw [c15a]
          obtain ⟨vz16, cz16, fz16, mz16, ez16, -⟩ := id Ac15
          show mT _ _ _ _ 89 [.ref 27, .int (nI r), .int (nI p), .int (nI q), .ref a, .int (nI i)] [.ref a] _ _ _ _
          refine mt_pop dX4_text_89 rfl ?_
          refine mt_aload dX4_text_90 rfl rfl ?_
          refine mt_aload_n dX4_text_92 rfl rfl ?_
          refine mt_getfield mKX4 (i := 0) (by decide) mw_1053 dX4_text_93 ((c15e (27) (by omega)).trans ((fr 27 (by omega)).trans C9)) rfl ?_
          refine mt_iload_n dX4_text_96 rfl ?_
          refine mp_aaload dX4_text_97 ((c15e (28) (by omega)).trans ((fr 28 (by omega)).trans G28_2)) (fun _ => rfl) rfl rfl (by omega) (by omega) (v := .ref (kx r)) (by rw [GK_2 _ (by omega)]; rfl) ?_
          refine mt_iload dX4_text_98 rfl ?_
          refine mp_iaload dX4_text_100 ((c15e (kx r) (by omega)).trans ((fr (kx r) (by omega)).trans ke_3)) rfl (by omega) (by omega) (v := xk (S.1 r) i) (kg_3 _ (by omega)) ?_
          refine mt_callV (N := mJ4_append_bf812) (Rc := rJ4_append_bf812) (As := [.int (xk (S.1 r) i)]) (st := []) dX4_text_101 (kJ4_append_bf812 hl Ac15 (by omega)) sJ4_append_bf812 mw_1260 mKJ4 rfl ez16 rfl (Nat.le_of_ble_eq_true rfl) ⟨⟨Nat.le_of_ble_eq_true rfl, Nat.le_of_ble_eq_true rfl⟩, (by simp only [rX4_text, rJ4_append_15ec4, rJ4_append_bf812]; omega), (by simp only [rX4_text, rJ4_append_15ec4, rJ4_append_bf812]; omega)⟩ (fun v17 h18 n19 c20 => ?_) (fun _ _ _ hx => hx.elim)
          obtain ⟨c20a, c20b, ⟨cc20, c20c, c20d, Ac20⟩, c20e⟩ := c20
          rw [c20a]
          obtain ⟨vz21, cz21, fz21, mz21, ez21, -⟩ := id Ac20
          show mT _ _ _ _ 104 [.ref 27, .int (nI r), .int (nI p), .int (nI q), .ref a, .int (nI i)] [.ref a] _ _ _ _
          refine mt_pop dX4_text_104 rfl ?_
          refine mp_iinc dX4_text_105 rfl (v := nI (i + 1)) mI_inc (ls' := [.ref 27, .int (nI r), .int (nI p), .int (nI q), .ref a, .int (nI (i + 1))]) rfl (by decide) rfl ?_
          refine mt_goto dX4_text_108 (tgt := 56) rfl ?_
          refine mt_widen (cc' := 10 + 2 * (i + 1 - p)) (sc' := 100 + 1400 * (i + 1 - p)) (by first | omega | (simp only [rX4_text, rJ4_append_15ec4, rJ4_append_bf812]; omega)) (by first | omega | (simp only [rX4_text, rJ4_append_15ec4, rJ4_append_bf812]; omega)) ?_
          exact ih h18 n19 cc20 (i + 1) (by omega) Ac20 (by omega) (⟨by omega, by omega⟩) (fun j hj => ((c20e j (by omega)).trans (c15e j (by omega))).trans (fr j hj)) (by omega)
set_option maxRecDepth 100000 in
set_option maxHeartbeats 2000000 in
theorem kX4_text {l : Launch} (hl : l.stackTraces = false) {h : mH} {n : Nat} {S : cS} {th : Int32} {row from_ many : Int32} (C : mAt h n S th) : mC l mX4_text rX4_text [.ref 27, .int row, .int from_, .int many] h n (fun v h' n' => ∃ th', (v = some (.float 0) ∨ ∃ k, v = some (.ref k)) ∧ n ≤ n' ∧ mAt h' n' S th' ∧ ∀ j, (j < 27 ∨ j = 38) → h' j = h j) (mNX) := by
  obtain ⟨C0, h39, kx, sx, HR⟩ := id C
  obtain ⟨⟨gk_1, G28_1, GK_1⟩, ⟨gs_1, G33_1, GS_1⟩, AK_1, AS_1, NE_1, NQ_1, LE_1⟩ := id HR
  refine mm_enter hl (by decide +kernel) rfl rfl rfl (Nat.le_of_ble_eq_true rfl) ?_
  show mT _ _ _ _ 0 [.ref 27, .int row, .int from_, .int many, .double 0, .double 0] [] _ _ 0 0
  rcases hq2 : inN 4 row with _ | r3
  · refine mt_aload_n dX4_text_0 rfl rfl ?_
    refine mt_iload_n dX4_text_1 rfl ?_
    refine mt_callS (N := mX4_isRow) (Rc := rX4_isRow) (As := [.int row]) (st := [.ref 27]) dX4_text_2 (kX4_isRow hl) sX4_isRow mw_1083 rfl (Nat.le_of_ble_eq_true rfl) ⟨⟨Nat.le_of_ble_eq_true rfl, Nat.le_of_ble_eq_true rfl⟩, Nat.le_of_ble_eq_true rfl, Nat.le_of_ble_eq_true rfl⟩ (fun v4 h5 n6 c7 => ?_) (fun _ _ _ hx => hx.elim)
    obtain ⟨c7a, c7b, c7c⟩ := c7
    rw [show (inN 4 row).isSome = false from by rw [hq2]; rfl] at c7a
    rw [c7a, c7b, c7c]
    show mT _ _ _ _ 5 [.ref 27, .int row, .int from_, .int many, .double 0, .double 0] [.int (nI 0), .ref 27] _ _ _ _
    refine mt_if_eq dX4_text_5 (tgt := 27) rfl (fun q8 => ?_) (fun q8 => ?_)
    · have q8 := (mI_eq0 (by omega)).mp q8
      refine mt_iconst dX4_text_27 (v := nI 0) rfl ?_
      refine mt_iload_n dX4_text_28 rfl ?_
      refine mt_iconst dX4_text_29 (v := nI 0) rfl ?_
      refine mt_bipush dX4_text_30 (v := nI 20) (by decide) ?_
      refine mt_callS (N := mX4_isIn) (Rc := rX4_isIn) (As := [.int many, .int (nI 0), .int (nI 20)]) (st := [.int (nI 0), .ref 27]) dX4_text_32 (kX4_isIn hl) sX4_isIn mw_1086 rfl (Nat.le_of_ble_eq_true rfl) ⟨⟨Nat.le_of_ble_eq_true rfl, Nat.le_of_ble_eq_true rfl⟩, Nat.le_of_ble_eq_true rfl, Nat.le_of_ble_eq_true rfl⟩ (fun v9 h10 n11 c12 => ?_) (fun _ _ _ hx => hx.elim)
      obtain ⟨c12a, c12b, c12c⟩ := c12
      rw [c12a, c12b, c12c]
      show mT _ _ _ _ 35 [.ref 27, .int row, .int from_, .int many, .double 0, .double 0] [.int (mb (inR many (nI 0) (nI 20))), .int (nI 0), .ref 27] _ _ _ _
      refine mt_callV (N := mX4_isLet) (Rc := rX4_isLet) (As := [.int (nI 0), .int (mb (inR many (nI 0) (nI 20)))]) (st := []) dX4_text_35 (kX4_isLet (t := false) (f := inR many (nI 0) (nI 20)) hl C0) sX4_isLet mw_1092 mKX4 rfl C0 rfl (Nat.le_of_ble_eq_true rfl) ⟨⟨Nat.le_of_ble_eq_true rfl, Nat.le_of_ble_eq_true rfl⟩, Nat.le_of_ble_eq_true rfl, Nat.le_of_ble_eq_true rfl⟩ (fun v13 h14 n15 c16 => ?_) (fun _ _ _ hx => hx.elim)
      obtain ⟨c16a, c16b, c16c, c16d⟩ := c16
      rw [c16a, c16b]
      show mT _ _ _ _ 38 [.ref 27, .int row, .int from_, .int many, .double 0, .double 0] [.int (nI 0)] _ _ _ _
      refine mt_if_ne dX4_text_38 (tgt := 44) rfl (fun q17 => ?_) (fun q17 => ?_)
      · have q17 := (not_congr (mI_eq0 (by omega))).mp q17
        exact absurd q17 (by decide)
      · have q17 := (mI_eq0 (by omega)).mp q17
        refine mt_ldcE rfl dX4_text_41 ?_
        refine mt_areturn dX4_text_43 rfl (by first | exact Or.inl ⟨_, rfl⟩ | exact Or.inr ⟨_, rfl⟩) rfl (Nat.le_of_ble_eq_true rfl) (Nat.le_of_ble_eq_true rfl) ?_
        exact ⟨_, Or.inl rfl, by omega, ⟨c16c, by omega, _, _, mRows.fr (n' := n) HR (by omega) (fun j j1 j2 j3 => c16d (j) (by omega)) h39⟩, fun j hj => c16d j (by omega)⟩
    · have q8 := (not_congr (mI_eq0 (by omega))).mp q8
      exact absurd q8 (by decide)
  · obtain ⟨hr3, rfl⟩ := inN_of hq2 (by first | decide | omega)
    obtain ⟨⟨ka_18, kb_18, kc_18, kd_18⟩, kf_18, ke_18, kg_18⟩ := AK_1 r3 hr3
    obtain ⟨⟨sa_18, sb_18, sc_18, sd_18⟩, sf_18, se_18, sg_18⟩ := AS_1 r3 hr3
    have kn_18 := NE_1 r3 r3 hr3 hr3
    have kl_18 := LE_1 r3 hr3
    have km_18 := rroom_le (r := r3)
    rcases hq19 : inN ((S.1 r3).length + 1) from_ with _ | p20
    · refine mt_aload_n dX4_text_0 rfl rfl ?_
      refine mt_iload_n dX4_text_1 rfl ?_
      refine mt_callS (N := mX4_isRow) (Rc := rX4_isRow) (As := [.int (nI r3)]) (st := [.ref 27]) dX4_text_2 (kX4_isRow hl) sX4_isRow mw_1083 rfl (Nat.le_of_ble_eq_true rfl) ⟨⟨Nat.le_of_ble_eq_true rfl, Nat.le_of_ble_eq_true rfl⟩, Nat.le_of_ble_eq_true rfl, Nat.le_of_ble_eq_true rfl⟩ (fun v21 h22 n23 c24 => ?_) (fun _ _ _ hx => hx.elim)
      obtain ⟨c24a, c24b, c24c⟩ := c24
      rw [show (inN 4 (nI r3)).isSome = true from by rw [inN_some hr3 (by decide)]; rfl] at c24a
      rw [c24a, c24b, c24c]
      show mT _ _ _ _ 5 [.ref 27, .int (nI r3), .int from_, .int many, .double 0, .double 0] [.int (nI 1), .ref 27] _ _ _ _
      refine mt_if_eq dX4_text_5 (tgt := 27) rfl (fun q25 => ?_) (fun q25 => ?_)
      · have q25 := (mI_eq0 (by omega)).mp q25
        exact absurd q25 (by decide)
      · have q25 := (not_congr (mI_eq0 (by omega))).mp q25
        refine mt_iload_n dX4_text_8 rfl ?_
        refine mt_iconst dX4_text_9 (v := nI 0) rfl ?_
        refine mt_aload_n dX4_text_10 rfl rfl ?_
        refine mt_getfield mKX4 (i := 0) (by decide) mw_1053 dX4_text_11 C0 rfl ?_
        refine mt_iload_n dX4_text_14 rfl ?_
        refine mp_aaload dX4_text_15 G28_1 (fun _ => rfl) rfl rfl (by omega) (by omega) (v := .ref (kx r3)) (by rw [GK_1 _ (by omega)]; rfl) ?_
        refine mt_alen dX4_text_16 ke_18 (by decide) ?_
        refine mt_callS (N := mX4_isIn) (Rc := rX4_isIn) (As := [.int from_, .int (nI 0), .int (nI ((S.1 r3).length))]) (st := [.ref 27]) dX4_text_17 (kX4_isIn hl) sX4_isIn mw_1086 rfl (Nat.le_of_ble_eq_true rfl) ⟨⟨Nat.le_of_ble_eq_true rfl, Nat.le_of_ble_eq_true rfl⟩, Nat.le_of_ble_eq_true rfl, Nat.le_of_ble_eq_true rfl⟩ (fun v26 h27 n28 c29 => ?_) (fun _ _ _ hx => hx.elim)
        obtain ⟨c29a, c29b, c29c⟩ := c29
        rw [show inR from_ (nI 0) (nI ((S.1 r3).length)) = false from inR_f (k := (S.1 r3).length) hq19 (by first | decide | omega)] at c29a
        rw [c29a, c29b, c29c]
        show mT _ _ _ _ 20 [.ref 27, .int (nI r3), .int from_, .int many, .double 0, .double 0] [.int (nI 0), .ref 27] _ _ _ _
        refine mt_if_eq dX4_text_20 (tgt := 27) rfl (fun q30 => ?_) (fun q30 => ?_)
        · have q30 := (mI_eq0 (by omega)).mp q30
          refine mt_iconst dX4_text_27 (v := nI 0) rfl ?_
          refine mt_iload_n dX4_text_28 rfl ?_
          refine mt_iconst dX4_text_29 (v := nI 0) rfl ?_
          refine mt_bipush dX4_text_30 (v := nI 20) (by decide) ?_
          refine mt_callS (N := mX4_isIn) (Rc := rX4_isIn) (As := [.int many, .int (nI 0), .int (nI 20)]) (st := [.int (nI 0), .ref 27]) dX4_text_32 (kX4_isIn hl) sX4_isIn mw_1086 rfl (Nat.le_of_ble_eq_true rfl) ⟨⟨Nat.le_of_ble_eq_true rfl, Nat.le_of_ble_eq_true rfl⟩, Nat.le_of_ble_eq_true rfl, Nat.le_of_ble_eq_true rfl⟩ (fun v31 h32 n33 c34 => ?_) (fun _ _ _ hx => hx.elim)
          obtain ⟨c34a, c34b, c34c⟩ := c34
          rw [c34a, c34b, c34c]
          show mT _ _ _ _ 35 [.ref 27, .int (nI r3), .int from_, .int many, .double 0, .double 0] [.int (mb (inR many (nI 0) (nI 20))), .int (nI 0), .ref 27] _ _ _ _
          refine mt_callV (N := mX4_isLet) (Rc := rX4_isLet) (As := [.int (nI 0), .int (mb (inR many (nI 0) (nI 20)))]) (st := []) dX4_text_35 (kX4_isLet (t := false) (f := inR many (nI 0) (nI 20)) hl C0) sX4_isLet mw_1092 mKX4 rfl C0 rfl (Nat.le_of_ble_eq_true rfl) ⟨⟨Nat.le_of_ble_eq_true rfl, Nat.le_of_ble_eq_true rfl⟩, Nat.le_of_ble_eq_true rfl, Nat.le_of_ble_eq_true rfl⟩ (fun v35 h36 n37 c38 => ?_) (fun _ _ _ hx => hx.elim)
          obtain ⟨c38a, c38b, c38c, c38d⟩ := c38
          rw [c38a, c38b]
          show mT _ _ _ _ 38 [.ref 27, .int (nI r3), .int from_, .int many, .double 0, .double 0] [.int (nI 0)] _ _ _ _
          refine mt_if_ne dX4_text_38 (tgt := 44) rfl (fun q39 => ?_) (fun q39 => ?_)
          · have q39 := (not_congr (mI_eq0 (by omega))).mp q39
            exact absurd q39 (by decide)
          · have q39 := (mI_eq0 (by omega)).mp q39
            refine mt_ldcE rfl dX4_text_41 ?_
            refine mt_areturn dX4_text_43 rfl (by first | exact Or.inl ⟨_, rfl⟩ | exact Or.inr ⟨_, rfl⟩) rfl (Nat.le_of_ble_eq_true rfl) (Nat.le_of_ble_eq_true rfl) ?_
            exact ⟨_, Or.inl rfl, by omega, ⟨c38c, by omega, _, _, mRows.fr (n' := n) HR (by omega) (fun j j1 j2 j3 => c38d (j) (by omega)) h39⟩, fun j hj => c38d j (by omega)⟩
        · have q30 := (not_congr (mI_eq0 (by omega))).mp q30
          exact absurd q30 (by decide)
    · obtain ⟨hp20, rfl⟩ := inN_of hq19 (by first | decide | omega)
      rcases hq40 : inN 21 many with _ | p41
      · refine mt_aload_n dX4_text_0 rfl rfl ?_
        refine mt_iload_n dX4_text_1 rfl ?_
        refine mt_callS (N := mX4_isRow) (Rc := rX4_isRow) (As := [.int (nI r3)]) (st := [.ref 27]) dX4_text_2 (kX4_isRow hl) sX4_isRow mw_1083 rfl (Nat.le_of_ble_eq_true rfl) ⟨⟨Nat.le_of_ble_eq_true rfl, Nat.le_of_ble_eq_true rfl⟩, Nat.le_of_ble_eq_true rfl, Nat.le_of_ble_eq_true rfl⟩ (fun v42 h43 n44 c45 => ?_) (fun _ _ _ hx => hx.elim)
        obtain ⟨c45a, c45b, c45c⟩ := c45
        rw [show (inN 4 (nI r3)).isSome = true from by rw [inN_some hr3 (by decide)]; rfl] at c45a
        rw [c45a, c45b, c45c]
        show mT _ _ _ _ 5 [.ref 27, .int (nI r3), .int (nI p20), .int many, .double 0, .double 0] [.int (nI 1), .ref 27] _ _ _ _
        refine mt_if_eq dX4_text_5 (tgt := 27) rfl (fun q46 => ?_) (fun q46 => ?_)
        · have q46 := (mI_eq0 (by omega)).mp q46
          exact absurd q46 (by decide)
        · have q46 := (not_congr (mI_eq0 (by omega))).mp q46
          refine mt_iload_n dX4_text_8 rfl ?_
          refine mt_iconst dX4_text_9 (v := nI 0) rfl ?_
          refine mt_aload_n dX4_text_10 rfl rfl ?_
          refine mt_getfield mKX4 (i := 0) (by decide) mw_1053 dX4_text_11 C0 rfl ?_
          refine mt_iload_n dX4_text_14 rfl ?_
          refine mp_aaload dX4_text_15 G28_1 (fun _ => rfl) rfl rfl (by omega) (by omega) (v := .ref (kx r3)) (by rw [GK_1 _ (by omega)]; rfl) ?_
          refine mt_alen dX4_text_16 ke_18 (by decide) ?_
          refine mt_callS (N := mX4_isIn) (Rc := rX4_isIn) (As := [.int (nI p20), .int (nI 0), .int (nI ((S.1 r3).length))]) (st := [.ref 27]) dX4_text_17 (kX4_isIn hl) sX4_isIn mw_1086 rfl (Nat.le_of_ble_eq_true rfl) ⟨⟨Nat.le_of_ble_eq_true rfl, Nat.le_of_ble_eq_true rfl⟩, Nat.le_of_ble_eq_true rfl, Nat.le_of_ble_eq_true rfl⟩ (fun v47 h48 n49 c50 => ?_) (fun _ _ _ hx => hx.elim)
          obtain ⟨c50a, c50b, c50c⟩ := c50
          rw [show inR (nI p20) (nI 0) (nI ((S.1 r3).length)) = true from inR_t (k := (S.1 r3).length) hp20 (by first | decide | omega)] at c50a
          rw [c50a, c50b, c50c]
          show mT _ _ _ _ 20 [.ref 27, .int (nI r3), .int (nI p20), .int many, .double 0, .double 0] [.int (nI 1), .ref 27] _ _ _ _
          refine mt_if_eq dX4_text_20 (tgt := 27) rfl (fun q51 => ?_) (fun q51 => ?_)
          · have q51 := (mI_eq0 (by omega)).mp q51
            exact absurd q51 (by decide)
          · have q51 := (not_congr (mI_eq0 (by omega))).mp q51
            refine mt_iconst dX4_text_23 (v := nI 1) rfl ?_
            refine mt_goto dX4_text_24 (tgt := 28) rfl ?_
            refine mt_iload_n dX4_text_28 rfl ?_
            refine mt_iconst dX4_text_29 (v := nI 0) rfl ?_
            refine mt_bipush dX4_text_30 (v := nI 20) (by decide) ?_
            refine mt_callS (N := mX4_isIn) (Rc := rX4_isIn) (As := [.int many, .int (nI 0), .int (nI 20)]) (st := [.int (nI 1), .ref 27]) dX4_text_32 (kX4_isIn hl) sX4_isIn mw_1086 rfl (Nat.le_of_ble_eq_true rfl) ⟨⟨Nat.le_of_ble_eq_true rfl, Nat.le_of_ble_eq_true rfl⟩, Nat.le_of_ble_eq_true rfl, Nat.le_of_ble_eq_true rfl⟩ (fun v52 h53 n54 c55 => ?_) (fun _ _ _ hx => hx.elim)
            obtain ⟨c55a, c55b, c55c⟩ := c55
            rw [show inR many (nI 0) (nI 20) = false from inR_f (k := 20) hq40 (by first | decide | omega)] at c55a
            rw [c55a, c55b, c55c]
            show mT _ _ _ _ 35 [.ref 27, .int (nI r3), .int (nI p20), .int many, .double 0, .double 0] [.int (nI 0), .int (nI 1), .ref 27] _ _ _ _
            refine mt_callV (N := mX4_isLet) (Rc := rX4_isLet) (As := [.int (nI 1), .int (nI 0)]) (st := []) dX4_text_35 (kX4_isLet (t := true) (f := false) hl C0) sX4_isLet mw_1092 mKX4 rfl C0 rfl (Nat.le_of_ble_eq_true rfl) ⟨⟨Nat.le_of_ble_eq_true rfl, Nat.le_of_ble_eq_true rfl⟩, Nat.le_of_ble_eq_true rfl, Nat.le_of_ble_eq_true rfl⟩ (fun v56 h57 n58 c59 => ?_) (fun _ _ _ hx => hx.elim)
            obtain ⟨c59a, c59b, c59c, c59d⟩ := c59
            rw [c59a, c59b]
            show mT _ _ _ _ 38 [.ref 27, .int (nI r3), .int (nI p20), .int many, .double 0, .double 0] [.int (nI 0)] _ _ _ _
            refine mt_if_ne dX4_text_38 (tgt := 44) rfl (fun q60 => ?_) (fun q60 => ?_)
            · have q60 := (not_congr (mI_eq0 (by omega))).mp q60
              exact absurd q60 (by decide)
            · have q60 := (mI_eq0 (by omega)).mp q60
              refine mt_ldcE rfl dX4_text_41 ?_
              refine mt_areturn dX4_text_43 rfl (by first | exact Or.inl ⟨_, rfl⟩ | exact Or.inr ⟨_, rfl⟩) rfl (Nat.le_of_ble_eq_true rfl) (Nat.le_of_ble_eq_true rfl) ?_
              exact ⟨_, Or.inl rfl, by omega, ⟨c59c, by omega, _, _, mRows.fr (n' := n) HR (by omega) (fun j j1 j2 j3 => c59d (j) (by omega)) h39⟩, fun j hj => c59d j (by omega)⟩
      · obtain ⟨hp41, rfl⟩ := inN_of hq40 (by first | decide | omega)
        refine mt_aload_n dX4_text_0 rfl rfl ?_
        refine mt_iload_n dX4_text_1 rfl ?_
        refine mt_callS (N := mX4_isRow) (Rc := rX4_isRow) (As := [.int (nI r3)]) (st := [.ref 27]) dX4_text_2 (kX4_isRow hl) sX4_isRow mw_1083 rfl (Nat.le_of_ble_eq_true rfl) ⟨⟨Nat.le_of_ble_eq_true rfl, Nat.le_of_ble_eq_true rfl⟩, Nat.le_of_ble_eq_true rfl, Nat.le_of_ble_eq_true rfl⟩ (fun v61 h62 n63 c64 => ?_) (fun _ _ _ hx => hx.elim)
        obtain ⟨c64a, c64b, c64c⟩ := c64
        rw [show (inN 4 (nI r3)).isSome = true from by rw [inN_some hr3 (by decide)]; rfl] at c64a
        rw [c64a, c64b, c64c]
        show mT _ _ _ _ 5 [.ref 27, .int (nI r3), .int (nI p20), .int (nI p41), .double 0, .double 0] [.int (nI 1), .ref 27] _ _ _ _
        refine mt_if_eq dX4_text_5 (tgt := 27) rfl (fun q65 => ?_) (fun q65 => ?_)
        · have q65 := (mI_eq0 (by omega)).mp q65
          exact absurd q65 (by decide)
        · have q65 := (not_congr (mI_eq0 (by omega))).mp q65
          refine mt_iload_n dX4_text_8 rfl ?_
          refine mt_iconst dX4_text_9 (v := nI 0) rfl ?_
          refine mt_aload_n dX4_text_10 rfl rfl ?_
          refine mt_getfield mKX4 (i := 0) (by decide) mw_1053 dX4_text_11 C0 rfl ?_
          refine mt_iload_n dX4_text_14 rfl ?_
          refine mp_aaload dX4_text_15 G28_1 (fun _ => rfl) rfl rfl (by omega) (by omega) (v := .ref (kx r3)) (by rw [GK_1 _ (by omega)]; rfl) ?_
          refine mt_alen dX4_text_16 ke_18 (by decide) ?_
          refine mt_callS (N := mX4_isIn) (Rc := rX4_isIn) (As := [.int (nI p20), .int (nI 0), .int (nI ((S.1 r3).length))]) (st := [.ref 27]) dX4_text_17 (kX4_isIn hl) sX4_isIn mw_1086 rfl (Nat.le_of_ble_eq_true rfl) ⟨⟨Nat.le_of_ble_eq_true rfl, Nat.le_of_ble_eq_true rfl⟩, Nat.le_of_ble_eq_true rfl, Nat.le_of_ble_eq_true rfl⟩ (fun v66 h67 n68 c69 => ?_) (fun _ _ _ hx => hx.elim)
          obtain ⟨c69a, c69b, c69c⟩ := c69
          rw [show inR (nI p20) (nI 0) (nI ((S.1 r3).length)) = true from inR_t (k := (S.1 r3).length) hp20 (by first | decide | omega)] at c69a
          rw [c69a, c69b, c69c]
          show mT _ _ _ _ 20 [.ref 27, .int (nI r3), .int (nI p20), .int (nI p41), .double 0, .double 0] [.int (nI 1), .ref 27] _ _ _ _
          refine mt_if_eq dX4_text_20 (tgt := 27) rfl (fun q70 => ?_) (fun q70 => ?_)
          · have q70 := (mI_eq0 (by omega)).mp q70
            exact absurd q70 (by decide)
          · have q70 := (not_congr (mI_eq0 (by omega))).mp q70
            refine mt_iconst dX4_text_23 (v := nI 1) rfl ?_
            refine mt_goto dX4_text_24 (tgt := 28) rfl ?_
            refine mt_iload_n dX4_text_28 rfl ?_
            refine mt_iconst dX4_text_29 (v := nI 0) rfl ?_
            refine mt_bipush dX4_text_30 (v := nI 20) (by decide) ?_
            refine mt_callS (N := mX4_isIn) (Rc := rX4_isIn) (As := [.int (nI p41), .int (nI 0), .int (nI 20)]) (st := [.int (nI 1), .ref 27]) dX4_text_32 (kX4_isIn hl) sX4_isIn mw_1086 rfl (Nat.le_of_ble_eq_true rfl) ⟨⟨Nat.le_of_ble_eq_true rfl, Nat.le_of_ble_eq_true rfl⟩, Nat.le_of_ble_eq_true rfl, Nat.le_of_ble_eq_true rfl⟩ (fun v71 h72 n73 c74 => ?_) (fun _ _ _ hx => hx.elim)
            obtain ⟨c74a, c74b, c74c⟩ := c74
            rw [show inR (nI p41) (nI 0) (nI 20) = true from inR_t (k := 20) hp41 (by first | decide | omega)] at c74a
            rw [c74a, c74b, c74c]
            show mT _ _ _ _ 35 [.ref 27, .int (nI r3), .int (nI p20), .int (nI p41), .double 0, .double 0] [.int (nI 1), .int (nI 1), .ref 27] _ _ _ _
            refine mt_callV (N := mX4_isLet) (Rc := rX4_isLet) (As := [.int (nI 1), .int (nI 1)]) (st := []) dX4_text_35 (kX4_isLet (t := true) (f := true) hl C0) sX4_isLet mw_1092 mKX4 rfl C0 rfl (Nat.le_of_ble_eq_true rfl) ⟨⟨Nat.le_of_ble_eq_true rfl, Nat.le_of_ble_eq_true rfl⟩, Nat.le_of_ble_eq_true rfl, Nat.le_of_ble_eq_true rfl⟩ (fun v75 h76 n77 c78 => ?_) (fun _ _ _ hx => hx.elim)
            obtain ⟨c78a, c78b, c78c, c78d⟩ := c78
            rw [c78a, c78b]
            show mT _ _ _ _ 38 [.ref 27, .int (nI r3), .int (nI p20), .int (nI p41), .double 0, .double 0] [.int (nI 1)] _ _ _ _
            refine mt_if_ne dX4_text_38 (tgt := 44) rfl (fun q79 => ?_) (fun q79 => ?_)
            · have q79 := (not_congr (mI_eq0 (by omega))).mp q79
              refine mp_new mKJ4 dX4_text_44 mw_1256 mw_641 mw_44 (fs := [.null, .int (nI 0), .int (nI 0), .int (nI 0)]) mDJ4 (mdf_ok rfl) (Nat.le_of_ble_eq_true rfl) (Nat.le_of_ble_eq_true rfl) (fun h80 e81 f82 => ?_)
              refine mt_dup dX4_text_47 rfl ?_
              refine mt_callI (N := mJ4_init_da8c8) (Rc := rJ4_init_da8c8) (As := []) (st := [.ref n]) dX4_text_48 (kJ4_init_da8c8 hl e81 (by omega)) sJ4_init_da8c8 mw_1257 rfl (Nat.le_of_ble_eq_true rfl) ⟨⟨Nat.le_of_ble_eq_true rfl, Nat.le_of_ble_eq_true rfl⟩, Nat.le_of_ble_eq_true rfl, Nat.le_of_ble_eq_true rfl⟩ (fun v83 h84 n85 c86 => ?_)
              obtain ⟨c86a, c86b, c86c, c86d⟩ := c86
              rw [c86a]
              obtain ⟨vz87, cz87, fz87, mz87, ez87, -⟩ := id c86c
              show mT _ _ _ _ 51 [.ref 27, .int (nI r3), .int (nI p20), .int (nI p41), .double 0, .double 0] [.ref n] _ _ _ _
              refine mp_astore dX4_text_51 (ls' := [.ref 27, .int (nI r3), .int (nI p20), .int (nI p41), .ref n, .double 0]) rfl rfl (by decide) rfl ?_
              refine mt_widen (cc' := 10 + 2 * (p20 - p20)) (sc' := 100 + 1400 * (p20 - p20)) (by simp only [rX4_text, rX4_isRow, rX4_isIn, rX4_isIn, rX4_isLet, rJ4_init_da8c8, rJ4_append_15ec4, rJ4_append_bf812, rJ4_toString_0e30d]; omega) (by simp only [rX4_text, rX4_isRow, rX4_isIn, rX4_isIn, rX4_isLet, rJ4_init_da8c8, rJ4_append_15ec4, rJ4_append_bf812, rJ4_toString_0e30d]; omega) ?_
              have C9 : mAt h84 n S (nI 0) := ⟨(c86d (27) (by omega)).trans ((f82 (27) (by omega)).trans c78c), h39, _, _, mRows.fr (n' := n) HR (Nat.le_refl _) (fun j j1 j2 j3 => (c86d (j) (by omega)).trans ((f82 (j) (by omega)).trans (c78d (j) (by omega)))) h39⟩
              refine mt_iload_n dX4_text_53 rfl ?_
              refine mp_istore dX4_text_54 (ls' := [.ref 27, .int (nI r3), .int (nI p20), .int (nI p41), .ref n, .int (nI p20)]) rfl (by decide) rfl ?_
              refine tX4_text_56 hl C9 (Nat.le_refl n) (by omega) (by omega) (by omega) (fun h_88 n_89 c_90 i_91 z92 z93 z94 z95 => ?_) _ h84 n85 0 p20 (Nat.lt_succ_self _) c86c (by omega) (⟨by omega, by omega⟩) (fun j hj => rfl) (by omega)
              obtain ⟨vz96, cz96, fz96, mz96, ez96, -⟩ := id z92
              refine mt_aload dX4_text_111 rfl rfl ?_
              refine mt_callV (N := mJ4_toString_0e30d) (Rc := rJ4_toString_0e30d) (As := []) (st := []) dX4_text_113 (kJ4_toString_0e30d hl z92) sJ4_toString_0e30d mw_1261 mKJ4 rfl ez96 rfl (Nat.le_of_ble_eq_true rfl) ⟨⟨Nat.le_of_ble_eq_true rfl, Nat.le_of_ble_eq_true rfl⟩, Nat.le_of_ble_eq_true rfl, Nat.le_of_ble_eq_true rfl⟩ (fun v97 h98 n99 c100 => ?_) (fun _ _ _ hx => hx.elim)
              obtain ⟨c100a, c100b, c100d⟩ := c100
              rw [c100a]
              show mT _ _ _ _ 116 [.ref 27, .int (nI r3), .int (nI p20), .int (nI p41), .ref n, .int (nI i_91)] [.ref n_89] _ _ _ _
              refine mt_areturn dX4_text_116 rfl (by first | exact Or.inl ⟨_, rfl⟩ | exact Or.inr ⟨_, rfl⟩) rfl (Nat.le_of_ble_eq_true rfl) (Nat.le_of_ble_eq_true rfl) ?_
              exact ⟨_, Or.inr ⟨_, rfl⟩, by omega, ⟨(c100d (27) (by omega)).trans ((z94 27 (by omega)).trans C9.1), by omega, _, _, mRows.fr (n' := n99) HR (by omega) (fun j j1 j2 j3 => (c100d (j) (by omega)).trans ((z94 (j) (by omega)).trans ((c86d (j) (by omega)).trans ((f82 (j) (by omega)).trans (c78d (j) (by omega)))))) h39⟩, fun j hj => (c100d j (by omega)).trans ((z94 j (by omega)).trans ((c86d j (by omega)).trans ((f82 j (by omega)).trans (c78d j (by omega)))))⟩
            · have q79 := (mI_eq0 (by omega)).mp q79
              exact absurd q79 (by decide)
