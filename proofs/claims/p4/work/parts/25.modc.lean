/-! ===== the reference: sorted, choose ===== -/
abbrev rX4_sorted : Room := { frames := 1, cells := 1, slots := 320, locals := 24 }
set_option maxRecDepth 100000 in
set_option maxHeartbeats 2000000 in
theorem tX4_sorted_12 {l : Launch} {K : mK} {n : Nat} {S : cS} {kx sx : Nat → Nat} {g ac rf kn th : Int32} {r : Nat} {P9 : Nat → Nat} {h0 : mH} (hl : l.stackTraces = false) (h39 : 39 ≤ n) (hr : r < 4) (kk0 : ∀ (k : Nat) (h : mH) (g9 : Nat → Int32), (h n = .inl (0, (S.1 r).length, g9)) → (∀ i, g9 i = nI (P9 i)) → (∀ j, j ≠ n → h j = h0 j) → mT l mX4_sorted rX4_sorted K 33 [.ref 27, .int (nI r), .ref n, .int (nI k)] [] h (n + 1) 1 (0 + (S.1 r).length)) : ∀ (N0 : Nat) (k : Nat) (h : mH) (g9 : Nat → Int32) (P : Nat → Nat), ((S.1 r).length - k) < N0 → (h 27 = .inr (.inr (6, [.ref 28, .ref 33, .int g, .int ac, .int rf, .int kn, .int th]))) → (mRows h n S kx sx) → (h n = .inl (0, (S.1 r).length, g9)) → (∀ i, g9 i = nI (P i)) → (∀ j, j ≠ n → h j = h0 j) → (mlp (scS (S.1 r)) ((S.1 r).length - k) k P = P9) → (k ≤ (S.1 r).length) → mT l mX4_sorted rX4_sorted K 12 [.ref 27, .int (nI r), .ref n, .int (nI k)] [] h (n + 1) 1 (0 + (S.1 r).length) := by
  intro N0
  induction N0 with
  | zero => intro k h g9 P hm; exact absurd hm (Nat.not_lt_zero _)
  | succ N0 ih =>
    intro k h g9 P hm C0 HR eN hg hfr hr9 hk
    obtain ⟨⟨gk_1, G28_1, GK_1⟩, ⟨gs_1, G33_1, GS_1⟩, AK_1, AS_1, NE_1, NQ_1, LE_1⟩ := id HR
    obtain ⟨⟨ka_2, kb_2, kc_2, kd_2⟩, kf_2, ke_2, kg_2⟩ := AK_1 r hr
    obtain ⟨⟨sa_2, sb_2, sc_2, sd_2⟩, sf_2, se_2, sg_2⟩ := AS_1 r hr
    have kn_2 := NE_1 r r hr hr
    have kl_2 := LE_1 r hr
    have km_2 := rroom_le (r := r)
    have rl := rankf_lt (xs := (S.1 r)) (k := k)
    refine mt_iload_n dX4_sorted_12 rfl ?_
    refine mt_aload_n dX4_sorted_13 rfl rfl ?_
    refine mt_alen dX4_sorted_14 eN (by decide) ?_
    refine mt_icmp_ge dX4_sorted_15 (tgt := 33) rfl (fun q3 => ?_) (fun q3 => ?_)
    · have q3 := Int32.not_lt.mpr q3
      have q3 := (not_congr (nI_ltI (by omega) (by omega))).mp q3
      exact kk0 k h g9 eN ((show P = P9 from (mlp_end (f := scS (S.1 r)) (by omega)).symm.trans hr9) ▸ hg) hfr
    · have q3 := Int32.not_le.mp q3
      have q3 := (nI_ltI (by omega) (by omega)).mp q3
      refine mt_aload_n dX4_sorted_18 rfl rfl ?_
      refine mt_aload_n dX4_sorted_19 rfl rfl ?_
      refine mt_iload_n dX4_sorted_20 rfl ?_
      refine mt_iload_n dX4_sorted_21 rfl ?_
      refine mt_callV (N := mX4_ranked) (Rc := rX4_ranked) (As := [.int (nI r), .int (nI k)]) (st := [.ref n]) dX4_sorted_22 (kX4_ranked hl C0 (mRows.fr (n' := n + 1) HR (by omega) (fun j j1 j2 j3 => rfl) (by omega)) (by omega) (by omega)) sX4_ranked mw_1191 mKX4 rfl C0 rfl (Nat.le_of_ble_eq_true rfl) ⟨⟨Nat.le_of_ble_eq_true rfl, Nat.le_of_ble_eq_true rfl⟩, (by simp only [rX4_sorted, rX4_ranked]; omega), (by simp only [rX4_sorted, rX4_ranked]; omega)⟩ (fun v4 h5 n6 c7 => ?_) (fun _ _ _ hx => hx.elim)
      obtain ⟨c7a, c7b, c7c⟩ := c7
      rw [c7a, c7b, c7c]
      show mT _ _ _ _ 25 [.ref 27, .int (nI r), .ref n, .int (nI k)] [.int (nI (rankf (S.1 r) k)), .ref n] _ _ _ _
      have rl2 := rankf_lt (xs := (S.1 r)) (k := k) (by omega)
      refine mt_iload_n dX4_sorted_25 rfl ?_
      refine mp_iastore dX4_sorted_26 eN rfl (by omega) (by omega) (fun h8 e9 f10 => ?_)
      refine mp_iinc dX4_sorted_27 rfl (v := nI (k + 1)) mI_inc (ls' := [.ref 27, .int (nI r), .ref n, .int (nI (k + 1))]) rfl (by decide) rfl ?_
      refine mt_goto dX4_sorted_30 (tgt := 12) rfl ?_
      exact ih (k + 1) h8 (upd g9 (rankf (S.1 r) k) (nI k)) (scS (S.1 r) k P) (by omega) ((f10 (27) (by omega)).trans C0) (mRows.fr HR (Nat.le_refl _) (fun j j1 j2 j3 => f10 j (by omega)) h39) e9 (fun i => by unfold scS upd; split; rfl; exact hg i) (fun j hj => (f10 j (by omega)).trans (hfr j hj)) ((mlp_go (f := scS (S.1 r)) (by omega) rfl).symm.trans hr9) (by omega)
set_option maxRecDepth 100000 in
set_option maxHeartbeats 2000000 in
theorem kX4_sorted {l : Launch} (hl : l.stackTraces = false) {h : mH} {n : Nat} {S : cS} {kx sx : Nat → Nat} {g ac rf kn th : Int32} {r : Nat} (C0 : h 27 = .inr (.inr (6, [.ref 28, .ref 33, .int g, .int ac, .int rf, .int kn, .int th]))) (HR : mRows h n S kx sx) (h39 : 39 ≤ n) (hr : r < 4) : mC l mX4_sorted rX4_sorted [.ref 27, .int (nI r)] h n (mArr (S.1 r).length (fun i => nI (scat (S.1 r) i)) h n) (mNX) := by
  obtain ⟨⟨gk_1, G28_1, GK_1⟩, ⟨gs_1, G33_1, GS_1⟩, AK_1, AS_1, NE_1, NQ_1, LE_1⟩ := id HR
  obtain ⟨⟨ka_2, kb_2, kc_2, kd_2⟩, kf_2, ke_2, kg_2⟩ := AK_1 r hr
  obtain ⟨⟨sa_2, sb_2, sc_2, sd_2⟩, sf_2, se_2, sg_2⟩ := AS_1 r hr
  have kn_2 := NE_1 r r hr hr
  have kl_2 := LE_1 r hr
  have km_2 := rroom_le (r := r)
  refine mm_enter hl (by decide +kernel) rfl rfl rfl (Nat.le_of_ble_eq_true rfl) ?_
  show mT _ _ _ _ 0 [.ref 27, .int (nI r), .double 0, .double 0] [] _ _ 0 0
  refine mt_aload_n dX4_sorted_0 rfl rfl ?_
  refine mt_getfield mKX4 (i := 0) (by decide) mw_1053 dX4_sorted_1 C0 rfl ?_
  refine mt_iload_n dX4_sorted_4 rfl ?_
  refine mp_aaload dX4_sorted_5 G28_1 (fun _ => rfl) rfl rfl (by omega) (by omega) (v := .ref (kx r)) (by rw [GK_1 _ (by omega)]; rfl) ?_
  refine mt_alen dX4_sorted_6 ke_2 (by decide) ?_
  refine mp_newarray dX4_sorted_7 mw_87 rfl (by omega) (by simp only [rX4_sorted]; omega) (by simp only [rX4_sorted]; omega) (fun h3 e4 f5 => ?_)
  refine mp_astore_n dX4_sorted_9 (ls' := [.ref 27, .int (nI r), .ref n, .double 0]) rfl rfl (by decide) rfl ?_
  refine mt_iconst dX4_sorted_10 (v := nI 0) rfl ?_
  refine mp_istore_n dX4_sorted_11 (ls' := [.ref 27, .int (nI r), .ref n, .int (nI 0)]) rfl (by decide) rfl ?_
  refine tX4_sorted_12 hl h39 hr (fun k_6 h_7 g9_8 z9 z10 z11 => ?_) _ 0 h3 (fun _ => (0 : Int32)) (fun _ => 0) (Nat.lt_succ_self _) ((f5 (27) (by omega)).trans C0) (mRows.fr HR (Nat.le_refl _) (fun j j1 j2 j3 => f5 j (by omega)) h39) e4 (fun _ => rfl) (fun _ _ => rfl) rfl (by omega)
  refine mt_aload_n dX4_sorted_33 rfl rfl ?_
  refine mt_areturn dX4_sorted_34 rfl (by first | exact Or.inl ⟨_, rfl⟩ | exact Or.inr ⟨_, rfl⟩) rfl (by simp only [rX4_sorted, rX4_ranked]; omega) (by simp only [rX4_sorted, rX4_ranked]; omega) ?_
  exact ⟨rfl, rfl, ⟨_, z9, fun i _ => z10 i⟩, fun j hj => (z11 j hj).trans (f5 j (by omega))⟩
abbrev rX4_choose : Room := { frames := 0, cells := 2, slots := 640, locals := 0 }
set_option maxRecDepth 100000 in
set_option maxHeartbeats 2000000 in
theorem tX4_choose_14 {l : Launch} {R : Room} {K : mK} {cc sc : Nat} {n : Nat} {S : cS} {kx sx : Nat → Nat} {g ac rf kn th : Int32} {r : Nat} {p plen : Nat} {pf : Nat → Int32} {pl : Nat → Nat} {h0 : mH} (h39 : 39 ≤ n) (hr : r < 4) (hpl : ∀ i, i < plen → pf i = nI (pl i) ∧ pl i < (S.1 r).length) (hpm : plen ≤ rroom r) (hpn : p < n) (kk0 : ∀ (k : Nat) (h : mH) (g1 : Nat → Int32) (g2 : Nat → Int32), (h 27 = .inr (.inr (6, [.ref 28, .ref 33, .int g, .int ac, .int rf, .int kn, .int th]))) → (h n = .inl (0, plen, g1)) → (h (n + 1) = .inl (0, plen, g2)) → (∀ i, i < plen → g1 i = xk (S.1 r) (pl i)) → (∀ i, i < plen → g2 i = xt (S.1 r) (pl i)) → (∀ j, j < n → h j = h0 j) → mT l mX4_choose R K 58 [.ref 27, .int (nI r), .ref p, .ref n, .ref (n + 1), .int (nI k)] [] h (n + 2) cc sc) : ∀ (N0 : Nat) (k : Nat) (h : mH) (g1 : Nat → Int32) (g2 : Nat → Int32), (plen - k) < N0 → (h 27 = .inr (.inr (6, [.ref 28, .ref 33, .int g, .int ac, .int rf, .int kn, .int th]))) → (mRows h n S kx sx) → (h p = .inl (0, plen, pf)) → (h n = .inl (0, plen, g1)) → (h (n + 1) = .inl (0, plen, g2)) → (∀ i, i < k → g1 i = xk (S.1 r) (pl i)) → (∀ i, i < k → g2 i = xt (S.1 r) (pl i)) → (∀ j, j < n → h j = h0 j) → (k ≤ plen) → mT l mX4_choose R K 14 [.ref 27, .int (nI r), .ref p, .ref n, .ref (n + 1), .int (nI k)] [] h (n + 2) cc sc := by
  intro N0
  induction N0 with
  | zero => intro k h g1 g2 hm; exact absurd hm (Nat.not_lt_zero _)
  | succ N0 ih =>
    intro k h g1 g2 hm C0 HR ep eN eM hg1 hg2 hfr hk
    obtain ⟨⟨gk_1, G28_1, GK_1⟩, ⟨gs_1, G33_1, GS_1⟩, AK_1, AS_1, NE_1, NQ_1, LE_1⟩ := id HR
    obtain ⟨⟨ka_2, kb_2, kc_2, kd_2⟩, kf_2, ke_2, kg_2⟩ := AK_1 r hr
    obtain ⟨⟨sa_2, sb_2, sc_2, sd_2⟩, sf_2, se_2, sg_2⟩ := AS_1 r hr
    have kn_2 := NE_1 r r hr hr
    have kl_2 := LE_1 r hr
    have km_2 := rroom_le (r := r)
    refine mt_iload dX4_choose_14 rfl ?_
    refine mt_aload_n dX4_choose_16 rfl rfl ?_
    refine mt_alen dX4_choose_17 ep (by decide) ?_
    refine mt_icmp_ge dX4_choose_18 (tgt := 58) rfl (fun q3 => ?_) (fun q3 => ?_)
    · have q3 := Int32.not_lt.mpr q3
      have q3 := (not_congr (nI_ltI (by omega) (by omega))).mp q3
      exact kk0 k h g1 g2 C0 eN eM (fun i hi => hg1 i (by omega)) (fun i hi => hg2 i (by omega)) hfr
    · have q3 := Int32.not_le.mp q3
      have q3 := (nI_ltI (by omega) (by omega)).mp q3
      have hpk := (hpl k (by omega)).2
      refine mt_aload_n dX4_choose_21 rfl rfl ?_
      refine mt_iload dX4_choose_22 rfl ?_
      refine mt_aload_n dX4_choose_24 rfl rfl ?_
      refine mt_getfield mKX4 (i := 0) (by decide) mw_1053 dX4_choose_25 C0 rfl ?_
      refine mt_iload_n dX4_choose_28 rfl ?_
      refine mp_aaload dX4_choose_29 G28_1 (fun _ => rfl) rfl rfl (by omega) (by omega) (v := .ref (kx r)) (by rw [GK_1 _ (by omega)]; rfl) ?_
      refine mt_aload_n dX4_choose_30 rfl rfl ?_
      refine mt_iload dX4_choose_31 rfl ?_
      refine mp_iaload dX4_choose_33 ep rfl (by omega) (by omega) (v := nI (pl k)) ((hpl _ (by omega)).1) ?_
      refine mp_iaload dX4_choose_34 ke_2 rfl (by omega) (by omega) (v := xk (S.1 r) (pl k)) (kg_2 _ (by omega)) ?_
      refine mp_iastore dX4_choose_35 eN rfl (by omega) (by omega) (fun h4 e5 f6 => ?_)
      refine mt_aload dX4_choose_36 rfl rfl ?_
      refine mt_iload dX4_choose_38 rfl ?_
      refine mt_aload_n dX4_choose_40 rfl rfl ?_
      refine mt_getfield mKX4 (i := 1) (by decide) mw_1054 dX4_choose_41 ((f6 (27) (by omega)).trans C0) rfl ?_
      refine mt_iload_n dX4_choose_44 rfl ?_
      refine mp_aaload dX4_choose_45 ((f6 (33) (by omega)).trans G33_1) (fun _ => rfl) rfl rfl (by omega) (by omega) (v := .ref (sx r)) (by rw [GS_1 _ (by omega)]; rfl) ?_
      refine mt_aload_n dX4_choose_46 rfl rfl ?_
      refine mt_iload dX4_choose_47 rfl ?_
      refine mp_iaload dX4_choose_49 ((f6 (p) (by omega)).trans ep) rfl (by omega) (by omega) (v := nI (pl k)) ((hpl _ (by omega)).1) ?_
      refine mp_iaload dX4_choose_50 ((f6 (sx r) (by omega)).trans se_2) rfl (by omega) (by omega) (v := xt (S.1 r) (pl k)) (sg_2 _ (by omega)) ?_
      refine mp_iastore dX4_choose_51 ((f6 (n + 1) (by omega)).trans eM) rfl (by omega) (by omega) (fun h7 e8 f9 => ?_)
      refine mp_iinc dX4_choose_52 rfl (v := nI (k + 1)) mI_inc (ls' := [.ref 27, .int (nI r), .ref p, .ref n, .ref (n + 1), .int (nI (k + 1))]) rfl (by decide) rfl ?_
      refine mt_goto dX4_choose_55 (tgt := 14) rfl ?_
      exact ih (k + 1) h7 (upd g1 k (xk (S.1 r) (pl k))) (upd g2 k (xt (S.1 r) (pl k))) (by omega) ((f9 (27) (by omega)).trans ((f6 (27) (by omega)).trans C0)) (mRows.fr HR (Nat.le_refl _) (fun j j1 j2 j3 => (f9 j (by omega)).trans (f6 j (by omega))) h39) ((f9 (p) (by omega)).trans ((f6 (p) (by omega)).trans ep)) ((f9 (n) (by omega)).trans e5) e8 (arr_step (F := fun i => xk (S.1 r) (pl i)) hg1 rfl) (arr_step (F := fun i => xt (S.1 r) (pl i)) hg2 rfl) (fun j hj => ((f9 j (by omega)).trans (f6 j (by omega))).trans (hfr j hj)) (by omega)
theorem chF_len {xs : List mIt} {pl : Nat → Nat} {n : Nat} : (chF xs pl n).length = n := zipF_len
set_option maxRecDepth 100000 in
set_option maxHeartbeats 2000000 in
theorem kX4_choose {l : Launch} (hl : l.stackTraces = false) {h : mH} {n : Nat} {S : cS} {kx sx : Nat → Nat} {g ac rf kn th : Int32} {r : Nat} {p plen : Nat} {pf : Nat → Int32} {pl : Nat → Nat} (C0 : h 27 = .inr (.inr (6, [.ref 28, .ref 33, .int g, .int ac, .int rf, .int kn, .int th]))) (HR : mRows h n S kx sx) (h39 : 39 ≤ n) (hr : r < 4) (ep : h p = .inl (0, plen, pf)) (hpl : ∀ i, i < plen → pf i = nI (pl i) ∧ pl i < (S.1 r).length) (hpm : plen ≤ rroom r) (hpn : p < n) : mC l mX4_choose rX4_choose [.ref 27, .int (nI r), .ref p] h n (fun v h' n' => v = none ∧ n' = n + 2 ∧ mRows h' (n + 2) (cSet S r (chF (S.1 r) pl plen)) (fun q => if q = r then n else kx q) (fun q => if q = r then n + 1 else sx q) ∧ h' 27 = .inr (.inr (6, [.ref 28, .ref 33, .int g, .int ac, .int rf, .int kn, .int th])) ∧ ∀ j, j < n → j ≠ 28 → j ≠ 33 → h' j = h j) (mNX) := by
  obtain ⟨⟨gk_1, G28_1, GK_1⟩, ⟨gs_1, G33_1, GS_1⟩, AK_1, AS_1, NE_1, NQ_1, LE_1⟩ := id HR
  obtain ⟨⟨ka_2, kb_2, kc_2, kd_2⟩, kf_2, ke_2, kg_2⟩ := AK_1 r hr
  obtain ⟨⟨sa_2, sb_2, sc_2, sd_2⟩, sf_2, se_2, sg_2⟩ := AS_1 r hr
  have kn_2 := NE_1 r r hr hr
  have kl_2 := LE_1 r hr
  have km_2 := rroom_le (r := r)
  refine mm_enter hl (by decide +kernel) rfl rfl rfl (Nat.le_of_ble_eq_true rfl) ?_
  show mT _ _ _ _ 0 [.ref 27, .int (nI r), .ref p, .double 0, .double 0, .double 0] [] _ _ 0 0
  refine mt_aload_n dX4_choose_0 rfl rfl ?_
  refine mt_alen dX4_choose_1 ep (by decide) ?_
  refine mp_newarray dX4_choose_2 mw_87 rfl (by omega) (by simp only [rX4_choose]; omega) (by simp only [rX4_choose]; omega) (fun h3 e4 f5 => ?_)
  refine mp_astore_n dX4_choose_4 (ls' := [.ref 27, .int (nI r), .ref p, .ref n, .double 0, .double 0]) rfl rfl (by decide) rfl ?_
  refine mt_aload_n dX4_choose_5 rfl rfl ?_
  refine mt_alen dX4_choose_6 ((f5 (p) (by omega)).trans ep) (by decide) ?_
  refine mp_newarray dX4_choose_7 mw_87 rfl (by omega) (by simp only [rX4_choose]; omega) (by simp only [rX4_choose]; omega) (fun h6 e7 f8 => ?_)
  refine mp_astore dX4_choose_9 (ls' := [.ref 27, .int (nI r), .ref p, .ref n, .ref (n + 1), .double 0]) rfl rfl (by decide) rfl ?_
  refine mt_iconst dX4_choose_11 (v := nI 0) rfl ?_
  refine mp_istore dX4_choose_12 (ls' := [.ref 27, .int (nI r), .ref p, .ref n, .ref (n + 1), .int (nI 0)]) rfl (by decide) rfl ?_
  refine tX4_choose_14 h39 hr hpl hpm hpn (fun k_9 h_10 g1_11 g2_12 z13 z14 z15 z16 z17 z18 => ?_) _ 0 h6 (fun _ => (0 : Int32)) (fun _ => (0 : Int32)) (Nat.lt_succ_self _) ((f8 (27) (by omega)).trans ((f5 (27) (by omega)).trans C0)) (mRows.fr HR (Nat.le_refl _) (fun j j1 j2 j3 => (f8 j (by omega)).trans (f5 j (by omega))) h39) ((f8 (p) (by omega)).trans ((f5 (p) (by omega)).trans ep)) ((f8 (n) (by omega)).trans e4) e7 (fun i hi => absurd hi (by omega)) (fun i hi => absurd hi (by omega)) (fun _ _ => rfl) (by omega)
  refine mt_aload_n dX4_choose_58 rfl rfl ?_
  refine mt_getfield mKX4 (i := 0) (by decide) mw_1053 dX4_choose_59 ((z18 (27) (by omega)).trans ((f8 (27) (by omega)).trans ((f5 (27) (by omega)).trans C0))) rfl ?_
  refine mt_iload_n dX4_choose_62 rfl ?_
  refine mt_aload_n dX4_choose_63 rfl rfl ?_
  refine mp_aastoreA dX4_choose_64 ((z18 (28) (by omega)).trans ((f8 (28) (by omega)).trans ((f5 (28) (by omega)).trans G28_1))) z14 rfl (by omega) (by omega) (fun h19 e20 f21 => ?_)
  refine mt_aload_n dX4_choose_65 rfl rfl ?_
  refine mt_getfield mKX4 (i := 1) (by decide) mw_1054 dX4_choose_66 ((f21 (27) (by omega)).trans ((z18 (27) (by omega)).trans ((f8 (27) (by omega)).trans ((f5 (27) (by omega)).trans C0)))) rfl ?_
  refine mt_iload_n dX4_choose_69 rfl ?_
  refine mt_aload dX4_choose_70 rfl rfl ?_
  refine mp_aastoreA dX4_choose_72 ((f21 (33) (by omega)).trans ((z18 (33) (by omega)).trans ((f8 (33) (by omega)).trans ((f5 (33) (by omega)).trans G33_1)))) ((f21 (n + 1) (by omega)).trans z15) rfl (by omega) (by omega) (fun h22 e23 f24 => ?_)
  refine mt_return dX4_choose_73 rfl (by simp only [rX4_choose]; omega) (by simp only [rX4_choose]; omega) ?_
  refine ⟨rfl, rfl, mRows.upd (fk := g1_11) (fs := g2_12) HR h39 (by omega) hr ⟨by omega, by omega⟩ ⟨by omega, by omega⟩ (by omega) ((f24 (28) (by omega)).trans e20) (if_pos rfl) (fun q hq hne => (if_neg hne).trans (GK_1 q hq)) (e23) (if_pos rfl) (fun q hq hne => (if_neg hne).trans (GS_1 q hq)) (by rw [chF_len]; exact (f24 (n) (by omega)).trans ((f21 (n) (by omega)).trans z14)) (by rw [chF_len]; exact (f24 (n + 1) (by omega)).trans ((f21 (n + 1) (by omega)).trans z15)) (fun i hi => ?_) (fun i hi => ?_) (by rw [chF_len]; exact hpm) (fun j j1 j2 j3 j4 => (f24 j (by omega)).trans ((f21 j (by omega)).trans ((z18 j (by omega)).trans ((f8 j (by omega)).trans (f5 j (by omega)))))), (f24 (27) (by omega)).trans ((f21 (27) (by omega)).trans ((z18 (27) (by omega)).trans ((f8 (27) (by omega)).trans ((f5 (27) (by omega)).trans C0)))), fun j j1 j2 j3 => (f24 j (by omega)).trans ((f21 j (by omega)).trans ((z18 j (by omega)).trans ((f8 j (by omega)).trans (f5 j (by omega)))))⟩
  · rw [chF_len] at hi; rw [z16 i hi]; exact (xk_zip (f := fun k => xk (S.1 r) (pl k)) (g := fun k => xt (S.1 r) (pl k)) hi).symm
  · rw [chF_len] at hi; rw [z17 i hi]; exact (xt_zip (f := fun k => xk (S.1 r) (pl k)) (g := fun k => xt (S.1 r) (pl k)) hi).symm
abbrev rX4_change : Room := { frames := 0, cells := 0, slots := 0, locals := 0 }
set_option maxRecDepth 100000 in
set_option maxHeartbeats 2000000 in
theorem kX4_change {l : Launch} (hl : l.stackTraces = false) {h : mH} {n : Nat} {S : cS} {kx sx : Nat → Nat} {g ac rf kn th : Int32} {r : Nat} {p q : Nat} (C0 : h 27 = .inr (.inr (6, [.ref 28, .ref 33, .int g, .int ac, .int rf, .int kn, .int th]))) (HR : mRows h n S kx sx) (h39 : 39 ≤ n) (hr : r < 4) (hp : p < (S.1 r).length) (hq : q < (S.1 r).length) : mC l mX4_change rX4_change [.ref 27, .int (nI r), .int (nI p), .int (nI q)] h n (fun v h' n' => v = none ∧ n' = n ∧ mRows h' n (cSet S r (swp (S.1 r) p q)) kx sx ∧ h' 27 = .inr (.inr (6, [.ref 28, .ref 33, .int g, .int ac, .int rf, .int kn, .int th])) ∧ ∀ j, (j < 27 ∨ j = 38) → h' j = h j) (mNX) := by
  obtain ⟨⟨gk_1, G28_1, GK_1⟩, ⟨gs_1, G33_1, GS_1⟩, AK_1, AS_1, NE_1, NQ_1, LE_1⟩ := id HR
  obtain ⟨⟨ka_2, kb_2, kc_2, kd_2⟩, kf_2, ke_2, kg_2⟩ := AK_1 r hr
  obtain ⟨⟨sa_2, sb_2, sc_2, sd_2⟩, sf_2, se_2, sg_2⟩ := AS_1 r hr
  have kn_2 := NE_1 r r hr hr
  have kl_2 := LE_1 r hr
  have km_2 := rroom_le (r := r)
  refine mm_enter hl (by decide +kernel) rfl rfl rfl (Nat.le_of_ble_eq_true rfl) ?_
  show mT _ _ _ _ 0 [.ref 27, .int (nI r), .int (nI p), .int (nI q), .double 0, .double 0] [] _ _ 0 0
  refine mt_aload_n dX4_change_0 rfl rfl ?_
  refine mt_getfield mKX4 (i := 0) (by decide) mw_1053 dX4_change_1 C0 rfl ?_
  refine mt_iload_n dX4_change_4 rfl ?_
  refine mp_aaload dX4_change_5 G28_1 (fun _ => rfl) rfl rfl (by omega) (by omega) (v := .ref (kx r)) (by rw [GK_1 _ (by omega)]; rfl) ?_
  refine mt_iload_n dX4_change_6 rfl ?_
  refine mp_iaload dX4_change_7 ke_2 rfl (by omega) (by omega) (v := xk (S.1 r) p) (kg_2 _ (by omega)) ?_
  refine mp_istore dX4_change_8 (ls' := [.ref 27, .int (nI r), .int (nI p), .int (nI q), .int (xk (S.1 r) p), .double 0]) rfl (by decide) rfl ?_
  refine mt_aload_n dX4_change_10 rfl rfl ?_
  refine mt_getfield mKX4 (i := 1) (by decide) mw_1054 dX4_change_11 C0 rfl ?_
  refine mt_iload_n dX4_change_14 rfl ?_
  refine mp_aaload dX4_change_15 G33_1 (fun _ => rfl) rfl rfl (by omega) (by omega) (v := .ref (sx r)) (by rw [GS_1 _ (by omega)]; rfl) ?_
  refine mt_iload_n dX4_change_16 rfl ?_
  refine mp_iaload dX4_change_17 se_2 rfl (by omega) (by omega) (v := xt (S.1 r) p) (sg_2 _ (by omega)) ?_
  refine mp_istore dX4_change_18 (ls' := [.ref 27, .int (nI r), .int (nI p), .int (nI q), .int (xk (S.1 r) p), .int (xt (S.1 r) p)]) rfl (by decide) rfl ?_
  refine mt_aload_n dX4_change_20 rfl rfl ?_
  refine mt_getfield mKX4 (i := 0) (by decide) mw_1053 dX4_change_21 C0 rfl ?_
  refine mt_iload_n dX4_change_24 rfl ?_
  refine mp_aaload dX4_change_25 G28_1 (fun _ => rfl) rfl rfl (by omega) (by omega) (v := .ref (kx r)) (by rw [GK_1 _ (by omega)]; rfl) ?_
  refine mt_iload_n dX4_change_26 rfl ?_
  refine mt_aload_n dX4_change_27 rfl rfl ?_
  refine mt_getfield mKX4 (i := 0) (by decide) mw_1053 dX4_change_28 C0 rfl ?_
  refine mt_iload_n dX4_change_31 rfl ?_
  refine mp_aaload dX4_change_32 G28_1 (fun _ => rfl) rfl rfl (by omega) (by omega) (v := .ref (kx r)) (by rw [GK_1 _ (by omega)]; rfl) ?_
  refine mt_iload_n dX4_change_33 rfl ?_
  refine mp_iaload dX4_change_34 ke_2 rfl (by omega) (by omega) (v := xk (S.1 r) q) (kg_2 _ (by omega)) ?_
  refine mp_iastore dX4_change_35 ke_2 rfl (by omega) (by omega) (fun h3 e4 f5 => ?_)
  refine mt_aload_n dX4_change_36 rfl rfl ?_
  refine mt_getfield mKX4 (i := 1) (by decide) mw_1054 dX4_change_37 ((f5 (27) (by omega)).trans C0) rfl ?_
  refine mt_iload_n dX4_change_40 rfl ?_
  refine mp_aaload dX4_change_41 ((f5 (33) (by omega)).trans G33_1) (fun _ => rfl) rfl rfl (by omega) (by omega) (v := .ref (sx r)) (by rw [GS_1 _ (by omega)]; rfl) ?_
  refine mt_iload_n dX4_change_42 rfl ?_
  refine mt_aload_n dX4_change_43 rfl rfl ?_
  refine mt_getfield mKX4 (i := 1) (by decide) mw_1054 dX4_change_44 ((f5 (27) (by omega)).trans C0) rfl ?_
  refine mt_iload_n dX4_change_47 rfl ?_
  refine mp_aaload dX4_change_48 ((f5 (33) (by omega)).trans G33_1) (fun _ => rfl) rfl rfl (by omega) (by omega) (v := .ref (sx r)) (by rw [GS_1 _ (by omega)]; rfl) ?_
  refine mt_iload_n dX4_change_49 rfl ?_
  refine mp_iaload dX4_change_50 ((f5 (sx r) (by omega)).trans se_2) rfl (by omega) (by omega) (v := xt (S.1 r) q) (sg_2 _ (by omega)) ?_
  refine mp_iastore dX4_change_51 ((f5 (sx r) (by omega)).trans se_2) rfl (by omega) (by omega) (fun h6 e7 f8 => ?_)
  refine mt_aload_n dX4_change_52 rfl rfl ?_
  refine mt_getfield mKX4 (i := 0) (by decide) mw_1053 dX4_change_53 ((f8 (27) (by omega)).trans ((f5 (27) (by omega)).trans C0)) rfl ?_
  refine mt_iload_n dX4_change_56 rfl ?_
  refine mp_aaload dX4_change_57 ((f8 (28) (by omega)).trans ((f5 (28) (by omega)).trans G28_1)) (fun _ => rfl) rfl rfl (by omega) (by omega) (v := .ref (kx r)) (by rw [GK_1 _ (by omega)]; rfl) ?_
  refine mt_iload_n dX4_change_58 rfl ?_
  refine mt_iload dX4_change_59 rfl ?_
  refine mp_iastore dX4_change_61 ((f8 (kx r) (by omega)).trans e4) rfl (by omega) (by omega) (fun h9 e10 f11 => ?_)
  refine mt_aload_n dX4_change_62 rfl rfl ?_
  refine mt_getfield mKX4 (i := 1) (by decide) mw_1054 dX4_change_63 ((f11 (27) (by omega)).trans ((f8 (27) (by omega)).trans ((f5 (27) (by omega)).trans C0))) rfl ?_
  refine mt_iload_n dX4_change_66 rfl ?_
  refine mp_aaload dX4_change_67 ((f11 (33) (by omega)).trans ((f8 (33) (by omega)).trans ((f5 (33) (by omega)).trans G33_1))) (fun _ => rfl) rfl rfl (by omega) (by omega) (v := .ref (sx r)) (by rw [GS_1 _ (by omega)]; rfl) ?_
  refine mt_iload_n dX4_change_68 rfl ?_
  refine mt_iload dX4_change_69 rfl ?_
  refine mp_iastore dX4_change_71 ((f11 (sx r) (by omega)).trans e7) rfl (by omega) (by omega) (fun h12 e13 f14 => ?_)
  refine mt_return dX4_change_72 rfl (Nat.le_of_ble_eq_true rfl) (Nat.le_of_ble_eq_true rfl) ?_
  exact ⟨rfl, rfl, mRows.put HR h39 (Nat.le_refl _) hr swp_len (by rw [swp_len]; exact (f14 (kx r) (by omega)).trans e10) (by rw [swp_len]; exact e13) (by rw [swp_len]; exact swp_k hp hq kg_2) (by rw [swp_len]; exact swp_t hp hq sg_2) (fun j j1 j2 j3 j4 j5 => (f14 j (by omega)).trans ((f11 j (by omega)).trans ((f8 j (by omega)).trans (f5 j (by omega))))), (f14 (27) (by omega)).trans ((f11 (27) (by omega)).trans ((f8 (27) (by omega)).trans ((f5 (27) (by omega)).trans C0))), fun j hj => (f14 j (by omega)).trans ((f11 j (by omega)).trans ((f8 j (by omega)).trans (f5 j (by omega))))⟩
abbrev rX4_coming : Room := { frames := 1, cells := 1, slots := 640, locals := 24 }
set_option maxRecDepth 100000 in
set_option maxHeartbeats 2000000 in
theorem kX4_coming {l : Launch} (hl : l.stackTraces = false) {h : mH} {n : Nat} {S : cS} {kx sx : Nat → Nat} {g ac rf kn th : Int32} {r : Nat} {q : Nat} (C0 : h 27 = .inr (.inr (6, [.ref 28, .ref 33, .int g, .int ac, .int rf, .int kn, .int th]))) (HR : mRows h n S kx sx) (h39 : 39 ≤ n) (hr : r < 4) (hq : q < 4) : mC l mX4_coming rX4_coming [.ref 27, .int (nI r), .int (nI q)] h n (fun v h' n' => v = some (.ref n) ∧ n' = n + 1 ∧ (∃ g9 : Nat → Int32, h' n = .inl (0, (S.1 r).length, g9) ∧ ∀ i, i < (S.1 r).length → g9 i = comF q r (S.1 r).length (S.1 r) g i) ∧ h' 27 = .inr (.inr (6, [.ref 28, .ref 33, .int (comG q r (S.1 r).length g), .int ac, .int rf, .int kn, .int th])) ∧ ∀ j, j ≠ n → j ≠ 27 → h' j = h j) (mNX) := by
  obtain ⟨⟨gk_1, G28_1, GK_1⟩, ⟨gs_1, G33_1, GS_1⟩, AK_1, AS_1, NE_1, NQ_1, LE_1⟩ := id HR
  obtain ⟨⟨ka_2, kb_2, kc_2, kd_2⟩, kf_2, ke_2, kg_2⟩ := AK_1 r hr
  obtain ⟨⟨sa_2, sb_2, sc_2, sd_2⟩, sf_2, se_2, sg_2⟩ := AS_1 r hr
  have kn_2 := NE_1 r r hr hr
  have kl_2 := LE_1 r hr
  have km_2 := rroom_le (r := r)
  refine mm_enter hl (by decide +kernel) rfl rfl rfl (Nat.le_of_ble_eq_true rfl) ?_
  show mT _ _ _ _ 0 [.ref 27, .int (nI r), .int (nI q)] [] _ _ 0 0
  refine mt_iload_n dX4_coming_0 rfl ?_
  refine mt_iconst dX4_coming_1 (v := nI 1) rfl ?_
  refine mt_icmp_gt dX4_coming_2 (tgt := 10) rfl (fun q3 => ?_) (fun q3 => ?_)
  · have q3 := (nI_ltI (by omega) (by omega)).mp q3
    refine mt_aload_n dX4_coming_10 rfl rfl ?_
    refine mt_iload_n dX4_coming_11 rfl ?_
    refine mt_aload_n dX4_coming_12 rfl rfl ?_
    refine mt_getfield mKX4 (i := 0) (by decide) mw_1053 dX4_coming_13 C0 rfl ?_
    refine mt_iload_n dX4_coming_16 rfl ?_
    refine mp_aaload dX4_coming_17 G28_1 (fun _ => rfl) rfl rfl (by omega) (by omega) (v := .ref (kx r)) (by rw [GK_1 _ (by omega)]; rfl) ?_
    refine mt_alen dX4_coming_18 ke_2 (by decide) ?_
    refine mt_callV (N := mX4_made) (Rc := rX4_made) (As := [.int (nI q), .int (nI ((S.1 r).length))]) (st := []) dX4_coming_19 (kX4_made hl C0 (by omega) (by omega) (by omega)) sX4_made mw_1101 mKX4 rfl C0 rfl (Nat.le_of_ble_eq_true rfl) ⟨⟨Nat.le_of_ble_eq_true rfl, Nat.le_of_ble_eq_true rfl⟩, Nat.le_of_ble_eq_true rfl, Nat.le_of_ble_eq_true rfl⟩ (fun v4 h5 n6 c7 => ?_) (fun _ _ _ hx => hx.elim)
    obtain ⟨c7a, c7b, ⟨c7g, c7c, c7d⟩, c7f, c7e⟩ := c7
    rw [c7a, c7b]
    have c7k : ∀ j, j ≠ n ∧ j ≠ 27 → h5 j = h j := fun j hj => c7e j hj.1 hj.2
    show mT _ _ _ _ 22 [.ref 27, .int (nI r), .int (nI q)] [.ref n] _ _ _ _
    refine mt_areturn dX4_coming_22 rfl (by first | exact Or.inl ⟨_, rfl⟩ | exact Or.inr ⟨_, rfl⟩) rfl (Nat.le_of_ble_eq_true rfl) (Nat.le_of_ble_eq_true rfl) ?_
    exact ⟨rfl, rfl, ⟨_, c7c, fun i hi => (c7d i hi).trans (if_pos (show 1 < q ∨ 1 < r from Or.inl q3)).symm⟩, (c7f).trans (by rw [comG, if_pos (show 1 < q ∨ 1 < r from Or.inl q3)]), fun j hj hj2 => c7k j (by omega)⟩
  · have q3 := (not_congr (nI_ltI (by omega) (by omega))).mp q3
    refine mt_iload_n dX4_coming_5 rfl ?_
    refine mt_iconst dX4_coming_6 (v := nI 1) rfl ?_
    refine mt_icmp_le dX4_coming_7 (tgt := 23) rfl (fun q8 => ?_) (fun q8 => ?_)
    · have q8 := Int32.not_lt.mpr q8
      have q8 := (not_congr (nI_ltI (by omega) (by omega))).mp q8
      refine mt_aload_n dX4_coming_23 rfl rfl ?_
      refine mt_getfield mKX4 (i := 1) (by decide) mw_1054 dX4_coming_24 C0 rfl ?_
      refine mt_iload_n dX4_coming_27 rfl ?_
      refine mp_aaload dX4_coming_28 G33_1 (fun _ => rfl) rfl rfl (by omega) (by omega) (v := .ref (sx r)) (by rw [GS_1 _ (by omega)]; rfl) ?_
      refine mt_iconst dX4_coming_29 (v := nI 0) rfl ?_
      refine mt_aload_n dX4_coming_30 rfl rfl ?_
      refine mt_getfield mKX4 (i := 1) (by decide) mw_1054 dX4_coming_31 C0 rfl ?_
      refine mt_iload_n dX4_coming_34 rfl ?_
      refine mp_aaload dX4_coming_35 G33_1 (fun _ => rfl) rfl rfl (by omega) (by omega) (v := .ref (sx r)) (by rw [GS_1 _ (by omega)]; rfl) ?_
      refine mt_alen dX4_coming_36 se_2 (by decide) ?_
      refine mt_callS (N := mX4_part) (Rc := rX4_part) (As := [.ref (sx r), .int (nI 0), .int (nI ((S.1 r).length))]) (st := []) dX4_coming_37 (kX4_part hl se_2 (by omega) (by omega) (by omega) (by omega)) sX4_part mw_1180 rfl (Nat.le_of_ble_eq_true rfl) ⟨⟨Nat.le_of_ble_eq_true rfl, Nat.le_of_ble_eq_true rfl⟩, Nat.le_of_ble_eq_true rfl, Nat.le_of_ble_eq_true rfl⟩ (fun v9 h10 n11 c12 => ?_) (fun _ _ _ hx => hx.elim)
      obtain ⟨c12a, c12b, ⟨c12g, c12c, c12d⟩, c12e⟩ := c12
      rw [c12a, c12b]
      show mT _ _ _ _ 40 [.ref 27, .int (nI r), .int (nI q)] [.ref n] _ _ _ _
      refine mt_areturn dX4_coming_40 rfl (by first | exact Or.inl ⟨_, rfl⟩ | exact Or.inr ⟨_, rfl⟩) rfl (Nat.le_of_ble_eq_true rfl) (Nat.le_of_ble_eq_true rfl) ?_
      exact ⟨rfl, rfl, ⟨_, c12c, fun i hi => (c12d i hi).trans ((show _ = xt (S.1 r) i from (congrArg sf_2 (Nat.zero_add i)).trans (sg_2 i (by omega))).trans (if_neg (show ¬ (1 < q ∨ 1 < r) from fun z => z.elim q3 q8)).symm)⟩, ((c12e (27) (by omega)).trans C0).trans (by rw [comG, if_neg (show ¬ (1 < q ∨ 1 < r) from fun z => z.elim q3 q8)]), fun j hj hj2 => c12e j (by omega)⟩
    · have q8 := Int32.not_le.mp q8
      have q8 := (nI_ltI (by omega) (by omega)).mp q8
      refine mt_aload_n dX4_coming_10 rfl rfl ?_
      refine mt_iload_n dX4_coming_11 rfl ?_
      refine mt_aload_n dX4_coming_12 rfl rfl ?_
      refine mt_getfield mKX4 (i := 0) (by decide) mw_1053 dX4_coming_13 C0 rfl ?_
      refine mt_iload_n dX4_coming_16 rfl ?_
      refine mp_aaload dX4_coming_17 G28_1 (fun _ => rfl) rfl rfl (by omega) (by omega) (v := .ref (kx r)) (by rw [GK_1 _ (by omega)]; rfl) ?_
      refine mt_alen dX4_coming_18 ke_2 (by decide) ?_
      refine mt_callV (N := mX4_made) (Rc := rX4_made) (As := [.int (nI q), .int (nI ((S.1 r).length))]) (st := []) dX4_coming_19 (kX4_made hl C0 (by omega) (by omega) (by omega)) sX4_made mw_1101 mKX4 rfl C0 rfl (Nat.le_of_ble_eq_true rfl) ⟨⟨Nat.le_of_ble_eq_true rfl, Nat.le_of_ble_eq_true rfl⟩, Nat.le_of_ble_eq_true rfl, Nat.le_of_ble_eq_true rfl⟩ (fun v13 h14 n15 c16 => ?_) (fun _ _ _ hx => hx.elim)
      obtain ⟨c16a, c16b, ⟨c16g, c16c, c16d⟩, c16f, c16e⟩ := c16
      rw [c16a, c16b]
      have c16k : ∀ j, j ≠ n ∧ j ≠ 27 → h14 j = h j := fun j hj => c16e j hj.1 hj.2
      show mT _ _ _ _ 22 [.ref 27, .int (nI r), .int (nI q)] [.ref n] _ _ _ _
      refine mt_areturn dX4_coming_22 rfl (by first | exact Or.inl ⟨_, rfl⟩ | exact Or.inr ⟨_, rfl⟩) rfl (Nat.le_of_ble_eq_true rfl) (Nat.le_of_ble_eq_true rfl) ?_
      exact ⟨rfl, rfl, ⟨_, c16c, fun i hi => (c16d i hi).trans (if_pos (show 1 < q ∨ 1 < r from Or.inr q8)).symm⟩, (c16f).trans (by rw [comG, if_pos (show 1 < q ∨ 1 < r from Or.inr q8)]), fun j hj hj2 => c16k j (by omega)⟩
abbrev rX4_isPlace : Room := { frames := 2, cells := 0, slots := 0, locals := 42 }
theorem inR_m1 {x : Int32} : inR x (nI 0) (-1) = false := by
  unfold inR
  by_cases h : x < 0
  · rw [decide_eq_true (show x < nI 0 from h)]; rfl
  · rw [decide_eq_true (show (-1 : Int32) < x from Classical.byContradiction fun z => by
      have h2 : ¬ x < 0 := h
      rw [Int32.lt_iff_toInt_lt] at *
      have e0 : (0 : Int32).toInt = 0 := by decide
      have e1 : (-1 : Int32).toInt = -1 := by decide
      omega), Bool.not_true, Bool.and_false]
set_option maxRecDepth 100000 in
set_option maxHeartbeats 2000000 in
theorem kX4_isPlace {l : Launch} (hl : l.stackTraces = false) {h : mH} {n : Nat} {S : cS} {kx sx : Nat → Nat} {g ac rf kn th : Int32} {r : Nat} {place : Int32} (C0 : h 27 = .inr (.inr (6, [.ref 28, .ref 33, .int g, .int ac, .int rf, .int kn, .int th]))) (HR : mRows h n S kx sx) (h39 : 39 ≤ n) (hr : r < 4) : mC l mX4_isPlace rX4_isPlace [.ref 27, .int (nI r), .int place] h n (mRi (mb (inN (S.1 r).length place).isSome) h n) (mNX) := by
  obtain ⟨⟨gk_1, G28_1, GK_1⟩, ⟨gs_1, G33_1, GS_1⟩, AK_1, AS_1, NE_1, NQ_1, LE_1⟩ := id HR
  obtain ⟨⟨ka_2, kb_2, kc_2, kd_2⟩, kf_2, ke_2, kg_2⟩ := AK_1 r hr
  obtain ⟨⟨sa_2, sb_2, sc_2, sd_2⟩, sf_2, se_2, sg_2⟩ := AS_1 r hr
  have kn_2 := NE_1 r r hr hr
  have kl_2 := LE_1 r hr
  have km_2 := rroom_le (r := r)
  refine mm_enter hl (by decide +kernel) rfl rfl rfl (Nat.le_of_ble_eq_true rfl) ?_
  show mT _ _ _ _ 0 [.ref 27, .int (nI r), .int place] [] _ _ 0 0
  refine mt_iload_n dX4_isPlace_0 rfl ?_
  refine mt_callS (N := mX4_isRow) (Rc := rX4_isRow) (As := [.int (nI r)]) (st := []) dX4_isPlace_1 (kX4_isRow hl) sX4_isRow mw_1083 rfl (Nat.le_of_ble_eq_true rfl) ⟨⟨Nat.le_of_ble_eq_true rfl, Nat.le_of_ble_eq_true rfl⟩, Nat.le_of_ble_eq_true rfl, Nat.le_of_ble_eq_true rfl⟩ (fun v3 h4 n5 c6 => ?_) (fun _ _ _ hx => hx.elim)
  obtain ⟨c6a, c6b, c6c⟩ := c6
  rw [inN_some hr (by decide)] at c6a
  rw [c6a, c6b, c6c]
  show mT _ _ _ _ 4 [.ref 27, .int (nI r), .int place] [.int (nI 1)] _ _ _ _
  refine mt_if_eq dX4_isPlace_4 (tgt := 28) rfl (fun q7 => ?_) (fun q7 => ?_)
  · have q7 := (mI_eq0 (by omega)).mp q7
    exact absurd q7 (by decide)
  · have q7 := (not_congr (mI_eq0 (by omega))).mp q7
    refine mt_iload_n dX4_isPlace_7 rfl ?_
    refine mt_iconst dX4_isPlace_8 (v := nI 0) rfl ?_
    refine mt_aload_n dX4_isPlace_9 rfl rfl ?_
    refine mt_getfield mKX4 (i := 0) (by decide) mw_1053 dX4_isPlace_10 C0 rfl ?_
    refine mt_iload_n dX4_isPlace_13 rfl ?_
    refine mp_aaload dX4_isPlace_14 G28_1 (fun _ => rfl) rfl rfl (by omega) (by omega) (v := .ref (kx r)) (by rw [GK_1 _ (by omega)]; rfl) ?_
    refine mt_alen dX4_isPlace_15 ke_2 (by decide) ?_
    refine mt_iconst dX4_isPlace_16 (v := nI 1) rfl ?_
    by_cases q0 : (S.1 r).length = 0
    · refine mp_isub dX4_isPlace_17 (v := -1) (by rw [q0]; rfl) ?_
      refine mt_callS (N := mX4_isIn) (Rc := rX4_isIn) (As := [.int place, .int (nI 0), .int (-1)]) (st := []) dX4_isPlace_18 (kX4_isIn hl) sX4_isIn mw_1086 rfl (Nat.le_of_ble_eq_true rfl) ⟨⟨Nat.le_of_ble_eq_true rfl, Nat.le_of_ble_eq_true rfl⟩, Nat.le_of_ble_eq_true rfl, Nat.le_of_ble_eq_true rfl⟩ (fun v8 h9 n10 c11 => ?_) (fun _ _ _ hx => hx.elim)
      obtain ⟨c11a, c11b, c11c⟩ := c11
      rw [c11a, c11b, c11c]
      show mT _ _ _ _ 21 [.ref 27, .int (nI r), .int place] [.int (mb (inR place (nI 0) (-1)))] _ _ _ _
      refine mt_if_eq dX4_isPlace_21 (tgt := 28) rfl (fun q12 => ?_) (fun q12 => ?_)
      · have q12 : (inR place (nI 0) (-1)) = false := mb_0.mp q12
        refine mt_iconst dX4_isPlace_28 (v := nI 0) rfl ?_
        refine mt_ireturn dX4_isPlace_29 rfl rfl (Nat.le_of_ble_eq_true rfl) (Nat.le_of_ble_eq_true rfl) ?_
        exact ⟨congrArg (fun b => some (Value.int (mb b))) (show false = (inN (S.1 r).length place).isSome from by rw [q0, inN_0]; rfl), rfl, rfl⟩
      · have q12 : (inR place (nI 0) (-1)) = true := mb_1.mp q12
        refine mt_iconst dX4_isPlace_24 (v := nI 1) rfl ?_
        refine mt_goto dX4_isPlace_25 (tgt := 29) rfl ?_
        refine mt_ireturn dX4_isPlace_29 rfl rfl (Nat.le_of_ble_eq_true rfl) (Nat.le_of_ble_eq_true rfl) ?_
        exact absurd (show inR place (nI 0) (-1) = false from inR_m1) (by rw [q12]; decide)
    · refine mp_isub dX4_isPlace_17 (v := nI (((S.1 r).length) - 1)) (pk_sub (by omega)) ?_
      refine mt_callS (N := mX4_isIn) (Rc := rX4_isIn) (As := [.int place, .int (nI 0), .int (nI (((S.1 r).length) - 1))]) (st := []) dX4_isPlace_18 (kX4_isIn hl) sX4_isIn mw_1086 rfl (Nat.le_of_ble_eq_true rfl) ⟨⟨Nat.le_of_ble_eq_true rfl, Nat.le_of_ble_eq_true rfl⟩, Nat.le_of_ble_eq_true rfl, Nat.le_of_ble_eq_true rfl⟩ (fun v13 h14 n15 c16 => ?_) (fun _ _ _ hx => hx.elim)
      obtain ⟨c16a, c16b, c16c⟩ := c16
      rw [c16a, c16b, c16c]
      show mT _ _ _ _ 21 [.ref 27, .int (nI r), .int place] [.int (mb (inR place (nI 0) (nI (((S.1 r).length) - 1))))] _ _ _ _
      refine mt_if_eq dX4_isPlace_21 (tgt := 28) rfl (fun q17 => ?_) (fun q17 => ?_)
      · have q17 : (inR place (nI 0) (nI (((S.1 r).length) - 1))) = false := mb_0.mp q17
        refine mt_iconst dX4_isPlace_28 (v := nI 0) rfl ?_
        refine mt_ireturn dX4_isPlace_29 rfl rfl (Nat.le_of_ble_eq_true rfl) (Nat.le_of_ble_eq_true rfl) ?_
        exact ⟨congrArg (fun b => some (Value.int (mb b))) (show false = (inN (S.1 r).length place).isSome from by rw [← q17, inR_in (by omega), show (S.1 r).length - 1 + 1 = (S.1 r).length by omega]), rfl, rfl⟩
      · have q17 : (inR place (nI 0) (nI (((S.1 r).length) - 1))) = true := mb_1.mp q17
        refine mt_iconst dX4_isPlace_24 (v := nI 1) rfl ?_
        refine mt_goto dX4_isPlace_25 (tgt := 29) rfl ?_
        refine mt_ireturn dX4_isPlace_29 rfl rfl (Nat.le_of_ble_eq_true rfl) (Nat.le_of_ble_eq_true rfl) ?_
        exact ⟨congrArg (fun b => some (Value.int (mb b))) (show true = (inN (S.1 r).length place).isSome from by rw [← q17, inR_in (by omega), show (S.1 r).length - 1 + 1 = (S.1 r).length by omega]), rfl, rfl⟩
set_option maxRecDepth 100000 in
set_option maxHeartbeats 2000000 in
theorem kX4_isPlace_f {l : Launch} (hl : l.stackTraces = false) {h : mH} {n : Nat} {row place : Int32} (hq : inN 4 row = none) : mC l mX4_isPlace rX4_isPlace [.ref 27, .int row, .int place] h n (mRi (mb false) h n) (mNX) := by
  refine mm_enter hl (by decide +kernel) rfl rfl rfl (Nat.le_of_ble_eq_true rfl) ?_
  show mT _ _ _ _ 0 [.ref 27, .int row, .int place] [] _ _ 0 0
  refine mt_iload_n dX4_isPlace_0 rfl ?_
  refine mt_callS (N := mX4_isRow) (Rc := rX4_isRow) (As := [.int row]) (st := []) dX4_isPlace_1 (kX4_isRow hl) sX4_isRow mw_1083 rfl (Nat.le_of_ble_eq_true rfl) ⟨⟨Nat.le_of_ble_eq_true rfl, Nat.le_of_ble_eq_true rfl⟩, Nat.le_of_ble_eq_true rfl, Nat.le_of_ble_eq_true rfl⟩ (fun v1 h2 n3 c4 => ?_) (fun _ _ _ hx => hx.elim)
  obtain ⟨c4a, c4b, c4c⟩ := c4
  rw [hq] at c4a
  rw [c4a, c4b, c4c]
  show mT _ _ _ _ 4 [.ref 27, .int row, .int place] [.int (nI 0)] _ _ _ _
  refine mt_if_eq dX4_isPlace_4 (tgt := 28) rfl (fun q5 => ?_) (fun q5 => ?_)
  · have q5 := (mI_eq0 (by omega)).mp q5
    refine mt_iconst dX4_isPlace_28 (v := nI 0) rfl ?_
    refine mt_ireturn dX4_isPlace_29 rfl rfl (Nat.le_of_ble_eq_true rfl) (Nat.le_of_ble_eq_true rfl) ?_
    exact ⟨rfl, rfl, rfl⟩
  · have q5 := (not_congr (mI_eq0 (by omega))).mp q5
    exact absurd q5 (by decide)
