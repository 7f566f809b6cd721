/-! ===== the reference: what it reads ===== -/
abbrev rX4_ranked : Room := { frames := 0, cells := 0, slots := 0, locals := 0 }
set_option maxRecDepth 100000 in
set_option maxHeartbeats 2000000 in
theorem tX4_ranked_5 {l : Launch} {R : Room} {K : mK} {cc sc : Nat} {h : mH} {n : Nat} {S : cS} {kx sx : Nat → Nat} {g ac rf kn th : Int32} {r : Nat} {r9 : Nat} {p : Nat} (C0 : h 27 = .inr (.inr (6, [.ref 28, .ref 33, .int g, .int ac, .int rf, .int kn, .int th]))) (HR : mRows h n S kx sx) (hr : r < 4) (hp : p < (S.1 r).length) (kk0 : ∀ (acc : Nat) (k : Nat), (acc = r9) → mT l mX4_ranked R K 77 [.ref 27, .int (nI r), .int (nI p), .int (nI acc), .int (nI k)] [] h n cc sc) : ∀ (N0 : Nat) (k : Nat) (acc : Nat), ((S.1 r).length - k) < N0 → (mlp (rkS (S.1 r) p) ((S.1 r).length - k) k acc = r9) → (k ≤ (S.1 r).length) → mT l mX4_ranked R K 5 [.ref 27, .int (nI r), .int (nI p), .int (nI acc), .int (nI k)] [] h n cc sc := by
  intro N0
  induction N0 with
  | zero => intro k acc hm; exact absurd hm (Nat.not_lt_zero _)
  | succ N0 ih =>
    intro k acc hm hr9 hi9
    obtain ⟨⟨gk_1, G28_1, GK_1⟩, ⟨gs_1, G33_1, GS_1⟩, AK_1, AS_1, NE_1, NQ_1, LE_1⟩ := id HR
    obtain ⟨⟨ka_2, kb_2, kc_2, kd_2⟩, kf_2, ke_2, kg_2⟩ := AK_1 r hr
    obtain ⟨⟨sa_2, sb_2, sc_2, sd_2⟩, sf_2, se_2, sg_2⟩ := AS_1 r hr
    have kn_2 := NE_1 r r hr hr
    have kl_2 := LE_1 r hr
    have km_2 := rroom_le (r := r)
    refine mt_iload dX4_ranked_5 rfl ?_
    refine mt_aload_n dX4_ranked_7 rfl rfl ?_
    refine mt_getfield mKX4 (i := 0) (by decide) mw_1053 dX4_ranked_8 C0 rfl ?_
    refine mt_iload_n dX4_ranked_11 rfl ?_
    refine mp_aaload dX4_ranked_12 G28_1 (fun _ => rfl) rfl rfl (by omega) (by omega) (v := .ref (kx r)) (by rw [GK_1 _ (by omega)]; rfl) ?_
    refine mt_alen dX4_ranked_13 ke_2 (by decide) ?_
    refine mt_icmp_ge dX4_ranked_14 (tgt := 77) rfl (fun q3 => ?_) (fun q3 => ?_)
    · have q3 := Int32.not_lt.mpr q3
      have q3 := (not_congr (nI_ltI (by omega) (by omega))).mp q3
      exact kk0 acc k ((mlp_end (f := rkS (S.1 r) p) (by omega)).symm.trans hr9)
    · have q3 := Int32.not_le.mp q3
      have q3 := (nI_ltI (by omega) (by omega)).mp q3
      refine mt_iload_n dX4_ranked_17 rfl ?_
      refine mt_aload_n dX4_ranked_18 rfl rfl ?_
      refine mt_getfield mKX4 (i := 0) (by decide) mw_1053 dX4_ranked_19 C0 rfl ?_
      refine mt_iload_n dX4_ranked_22 rfl ?_
      refine mp_aaload dX4_ranked_23 G28_1 (fun _ => rfl) rfl rfl (by omega) (by omega) (v := .ref (kx r)) (by rw [GK_1 _ (by omega)]; rfl) ?_
      refine mt_iload dX4_ranked_24 rfl ?_
      refine mp_iaload dX4_ranked_26 ke_2 rfl (by omega) (by omega) (v := xk (S.1 r) k) (kg_2 _ (by omega)) ?_
      refine mt_aload_n dX4_ranked_27 rfl rfl ?_
      refine mt_getfield mKX4 (i := 0) (by decide) mw_1053 dX4_ranked_28 C0 rfl ?_
      refine mt_iload_n dX4_ranked_31 rfl ?_
      refine mp_aaload dX4_ranked_32 G28_1 (fun _ => rfl) rfl rfl (by omega) (by omega) (v := .ref (kx r)) (by rw [GK_1 _ (by omega)]; rfl) ?_
      refine mt_iload_n dX4_ranked_33 rfl ?_
      refine mp_iaload dX4_ranked_34 ke_2 rfl (by omega) (by omega) (v := xk (S.1 r) p) (kg_2 _ (by omega)) ?_
      refine mt_icmp_lt dX4_ranked_35 (tgt := 64) rfl (fun q4 => ?_) (fun q4 => ?_)
      · refine mt_iconst dX4_ranked_64 (v := nI 1) rfl ?_
        refine mt_goto dX4_ranked_65 (tgt := 69) rfl ?_
        refine mp_iadd dX4_ranked_69 (v := nI (acc + 1)) (nI_add _ _) ?_
        refine mp_istore_n dX4_ranked_70 (ls' := [.ref 27, .int (nI r), .int (nI p), .int (nI (acc + 1)), .int (nI k)]) rfl (by decide) rfl ?_
        refine mp_iinc dX4_ranked_71 rfl (v := nI (k + 1)) mI_inc (ls' := [.ref 27, .int (nI r), .int (nI p), .int (nI (acc + 1)), .int (nI (k + 1))]) rfl (by decide) rfl ?_
        refine mt_goto dX4_ranked_74 (tgt := 5) rfl ?_
        exact ih (k + 1) (acc + 1) (by omega) ((mlp_go (f := rkS (S.1 r) p) (by omega) (by simp [rkS, q3, q4])).symm.trans hr9) (by omega)
      · refine mt_iload dX4_ranked_38 rfl ?_
        refine mt_iload_n dX4_ranked_40 rfl ?_
        refine mt_icmp_ge dX4_ranked_41 (tgt := 68) rfl (fun q5 => ?_) (fun q5 => ?_)
        · have q5 := Int32.not_lt.mpr q5
          have q5 := (not_congr (nI_ltI (by omega) (by omega))).mp q5
          refine mt_iconst dX4_ranked_68 (v := nI 0) rfl ?_
          refine mp_iadd dX4_ranked_69 (v := nI (acc + 0)) (nI_add _ _) ?_
          refine mp_istore_n dX4_ranked_70 (ls' := [.ref 27, .int (nI r), .int (nI p), .int (nI (acc + 0)), .int (nI k)]) rfl (by decide) rfl ?_
          refine mp_iinc dX4_ranked_71 rfl (v := nI (k + 1)) mI_inc (ls' := [.ref 27, .int (nI r), .int (nI p), .int (nI (acc + 0)), .int (nI (k + 1))]) rfl (by decide) rfl ?_
          refine mt_goto dX4_ranked_74 (tgt := 5) rfl ?_
          exact ih (k + 1) (acc + 0) (by omega) ((mlp_go (f := rkS (S.1 r) p) (by omega) (by simp [rkS, q3, q4, q5])).symm.trans hr9) (by omega)
        · have q5 := Int32.not_le.mp q5
          have q5 := (nI_ltI (by omega) (by omega)).mp q5
          refine mt_aload_n dX4_ranked_44 rfl rfl ?_
          refine mt_getfield mKX4 (i := 0) (by decide) mw_1053 dX4_ranked_45 C0 rfl ?_
          refine mt_iload_n dX4_ranked_48 rfl ?_
          refine mp_aaload dX4_ranked_49 G28_1 (fun _ => rfl) rfl rfl (by omega) (by omega) (v := .ref (kx r)) (by rw [GK_1 _ (by omega)]; rfl) ?_
          refine mt_iload dX4_ranked_50 rfl ?_
          refine mp_iaload dX4_ranked_52 ke_2 rfl (by omega) (by omega) (v := xk (S.1 r) k) (kg_2 _ (by omega)) ?_
          refine mt_aload_n dX4_ranked_53 rfl rfl ?_
          refine mt_getfield mKX4 (i := 0) (by decide) mw_1053 dX4_ranked_54 C0 rfl ?_
          refine mt_iload_n dX4_ranked_57 rfl ?_
          refine mp_aaload dX4_ranked_58 G28_1 (fun _ => rfl) rfl rfl (by omega) (by omega) (v := .ref (kx r)) (by rw [GK_1 _ (by omega)]; rfl) ?_
          refine mt_iload_n dX4_ranked_59 rfl ?_
          refine mp_iaload dX4_ranked_60 ke_2 rfl (by omega) (by omega) (v := xk (S.1 r) p) (kg_2 _ (by omega)) ?_
          refine mt_icmp_ne dX4_ranked_61 (tgt := 68) rfl (fun q6 => ?_) (fun q6 => ?_)
          · refine mt_iconst dX4_ranked_68 (v := nI 0) rfl ?_
            refine mp_iadd dX4_ranked_69 (v := nI (acc + 0)) (nI_add _ _) ?_
            refine mp_istore_n dX4_ranked_70 (ls' := [.ref 27, .int (nI r), .int (nI p), .int (nI (acc + 0)), .int (nI k)]) rfl (by decide) rfl ?_
            refine mp_iinc dX4_ranked_71 rfl (v := nI (k + 1)) mI_inc (ls' := [.ref 27, .int (nI r), .int (nI p), .int (nI (acc + 0)), .int (nI (k + 1))]) rfl (by decide) rfl ?_
            refine mt_goto dX4_ranked_74 (tgt := 5) rfl ?_
            exact ih (k + 1) (acc + 0) (by omega) ((mlp_go (f := rkS (S.1 r) p) (by omega) (by simp [rkS, q3, q4, q5, q6])).symm.trans hr9) (by omega)
          · refine mt_iconst dX4_ranked_64 (v := nI 1) rfl ?_
            refine mt_goto dX4_ranked_65 (tgt := 69) rfl ?_
            refine mp_iadd dX4_ranked_69 (v := nI (acc + 1)) (nI_add _ _) ?_
            refine mp_istore_n dX4_ranked_70 (ls' := [.ref 27, .int (nI r), .int (nI p), .int (nI (acc + 1)), .int (nI k)]) rfl (by decide) rfl ?_
            refine mp_iinc dX4_ranked_71 rfl (v := nI (k + 1)) mI_inc (ls' := [.ref 27, .int (nI r), .int (nI p), .int (nI (acc + 1)), .int (nI (k + 1))]) rfl (by decide) rfl ?_
            refine mt_goto dX4_ranked_74 (tgt := 5) rfl ?_
            exact ih (k + 1) (acc + 1) (by omega) ((mlp_go (f := rkS (S.1 r) p) (by omega) (by simp [rkS, q3, q4, q5, q6])).symm.trans hr9) (by omega)
set_option maxRecDepth 100000 in
set_option maxHeartbeats 2000000 in
theorem kX4_ranked {l : Launch} (hl : l.stackTraces = false) {h : mH} {n : Nat} {S : cS} {kx sx : Nat → Nat} {g ac rf kn th : Int32} {r : Nat} {p : Nat} (C0 : h 27 = .inr (.inr (6, [.ref 28, .ref 33, .int g, .int ac, .int rf, .int kn, .int th]))) (HR : mRows h n S kx sx) (hr : r < 4) (hp : p < (S.1 r).length) : mC l mX4_ranked rX4_ranked [.ref 27, .int (nI r), .int (nI p)] h n (mRi (nI (rankf (S.1 r) p)) h n) (mNX) := by
  obtain ⟨⟨gk_1, G28_1, GK_1⟩, ⟨gs_1, G33_1, GS_1⟩, AK_1, AS_1, NE_1, NQ_1, LE_1⟩ := id HR
  obtain ⟨⟨ka_2, kb_2, kc_2, kd_2⟩, kf_2, ke_2, kg_2⟩ := AK_1 r hr
  obtain ⟨⟨sa_2, sb_2, sc_2, sd_2⟩, sf_2, se_2, sg_2⟩ := AS_1 r hr
  have kn_2 := NE_1 r r hr hr
  have kl_2 := LE_1 r hr
  have km_2 := rroom_le (r := r)
  refine mm_enter hl (by decide +kernel) rfl rfl rfl (Nat.le_of_ble_eq_true rfl) ?_
  show mT _ _ _ _ 0 [.ref 27, .int (nI r), .int (nI p), .double 0, .double 0] [] _ _ 0 0
  refine mt_iconst dX4_ranked_0 (v := nI 0) rfl ?_
  refine mp_istore_n dX4_ranked_1 (ls' := [.ref 27, .int (nI r), .int (nI p), .int (nI 0), .double 0]) rfl (by decide) rfl ?_
  refine mt_iconst dX4_ranked_2 (v := nI 0) rfl ?_
  refine mp_istore dX4_ranked_3 (ls' := [.ref 27, .int (nI r), .int (nI p), .int (nI 0), .int (nI 0)]) rfl (by decide) rfl ?_
  refine tX4_ranked_5 C0 HR hr hp (fun acc_3 k_4 z5 => ?_) _ 0 0 (Nat.lt_succ_self _) rfl (by omega)
  refine mt_iload_n dX4_ranked_77 rfl ?_
  refine mt_ireturn dX4_ranked_78 rfl rfl (Nat.le_of_ble_eq_true rfl) (Nat.le_of_ble_eq_true rfl) ?_
  exact ⟨congrArg (fun x => some (Value.int (nI x))) z5, rfl, rfl⟩
abbrev rX4_pairs : Room := { frames := 1, cells := 0, slots := 0, locals := 21 }
set_option maxRecDepth 100000 in
set_option maxHeartbeats 2000000 in
theorem tX4_pairs_20 {l : Launch} {K : mK} {h : mH} {n : Nat} {S : cS} {kx sx : Nat → Nat} {g ac rf kn th : Int32} {r : Nat} {r9 : Int32} {how : Int32} {k : Nat} (hl : l.stackTraces = false) (C0 : h 27 = .inr (.inr (6, [.ref 28, .ref 33, .int g, .int ac, .int rf, .int kn, .int th]))) (HR : mRows h n S kx sx) (hr : r < 4) (hk9 : k < (S.1 r).length) (kk0 : ∀ (acc : Int32) (o : Nat), (acc = r9) → mT l mX4_pairs rX4_pairs K 66 [.ref 27, .int (nI r), .int how, .int acc, .int (nI k), .int (nI o)] [] h n 0 0) : ∀ (N0 : Nat) (o : Nat) (acc : Int32), (k - o) < N0 → (mlp (prS (S.1 r) how k) (k - o) o acc = r9) → (o ≤ k) → mT l mX4_pairs rX4_pairs K 20 [.ref 27, .int (nI r), .int how, .int acc, .int (nI k), .int (nI o)] [] h n 0 0 := by
  intro N0
  induction N0 with
  | zero => intro o acc hm; exact absurd hm (Nat.not_lt_zero _)
  | succ N0 ih =>
    intro o acc hm hr9 hi9
    obtain ⟨⟨gk_1, G28_1, GK_1⟩, ⟨gs_1, G33_1, GS_1⟩, AK_1, AS_1, NE_1, NQ_1, LE_1⟩ := id HR
    obtain ⟨⟨ka_2, kb_2, kc_2, kd_2⟩, kf_2, ke_2, kg_2⟩ := AK_1 r hr
    obtain ⟨⟨sa_2, sb_2, sc_2, sd_2⟩, sf_2, se_2, sg_2⟩ := AS_1 r hr
    have kn_2 := NE_1 r r hr hr
    have kl_2 := LE_1 r hr
    have km_2 := rroom_le (r := r)
    refine mt_iload dX4_pairs_20 rfl ?_
    refine mt_iload dX4_pairs_22 rfl ?_
    refine mt_icmp_ge dX4_pairs_24 (tgt := 66) rfl (fun q3 => ?_) (fun q3 => ?_)
    · have q3 := Int32.not_lt.mpr q3
      have q3 := (not_congr (nI_ltI (by omega) (by omega))).mp q3
      exact kk0 acc o ((mlp_end (f := prS (S.1 r) how k) (by omega)).symm.trans hr9)
    · have q3 := Int32.not_le.mp q3
      have q3 := (nI_ltI (by omega) (by omega)).mp q3
      refine mt_iload_n dX4_pairs_27 rfl ?_
      refine mt_aload_n dX4_pairs_28 rfl rfl ?_
      refine mt_getfield mKX4 (i := 0) (by decide) mw_1053 dX4_pairs_29 C0 rfl ?_
      refine mt_iload_n dX4_pairs_32 rfl ?_
      refine mp_aaload dX4_pairs_33 G28_1 (fun _ => rfl) rfl rfl (by omega) (by omega) (v := .ref (kx r)) (by rw [GK_1 _ (by omega)]; rfl) ?_
      refine mt_iload dX4_pairs_34 rfl ?_
      refine mp_iaload dX4_pairs_36 ke_2 rfl (by omega) (by omega) (v := xk (S.1 r) o) (kg_2 _ (by omega)) ?_
      refine mt_aload_n dX4_pairs_37 rfl rfl ?_
      refine mt_getfield mKX4 (i := 0) (by decide) mw_1053 dX4_pairs_38 C0 rfl ?_
      refine mt_iload_n dX4_pairs_41 rfl ?_
      refine mp_aaload dX4_pairs_42 G28_1 (fun _ => rfl) rfl rfl (by omega) (by omega) (v := .ref (kx r)) (by rw [GK_1 _ (by omega)]; rfl) ?_
      refine mt_iload dX4_pairs_43 rfl ?_
      refine mp_iaload dX4_pairs_45 ke_2 rfl (by omega) (by omega) (v := xk (S.1 r) k) (kg_2 _ (by omega)) ?_
      refine mt_callS (N := mX4_side) (Rc := rX4_side) (As := [.int (xk (S.1 r) o), .int (xk (S.1 r) k)]) (st := [.int acc]) dX4_pairs_46 (kX4_side hl) sX4_side mw_1150 rfl (Nat.le_of_ble_eq_true rfl) ⟨⟨Nat.le_of_ble_eq_true rfl, Nat.le_of_ble_eq_true rfl⟩, Nat.le_of_ble_eq_true rfl, Nat.le_of_ble_eq_true rfl⟩ (fun v4 h5 n6 c7 => ?_) (fun _ _ _ hx => hx.elim)
      obtain ⟨c7a, c7b, c7c⟩ := c7
      rw [c7a, c7b, c7c]
      show mT _ _ _ _ 49 [.ref 27, .int (nI r), .int how, .int acc, .int (nI k), .int (nI o)] [.int (sideF (xk (S.1 r) o) (xk (S.1 r) k)), .int acc] _ _ _ _
      refine mt_iload_n dX4_pairs_49 rfl ?_
      refine mt_icmp_ne dX4_pairs_50 (tgt := 57) rfl (fun q8 => ?_) (fun q8 => ?_)
      · refine mt_iconst dX4_pairs_57 (v := nI 0) rfl ?_
        refine mp_iadd dX4_pairs_58 (v := acc + (nI 0)) rfl ?_
        refine mp_istore_n dX4_pairs_59 (ls' := [.ref 27, .int (nI r), .int how, .int (acc + (nI 0)), .int (nI k), .int (nI o)]) rfl (by decide) rfl ?_
        refine mp_iinc dX4_pairs_60 rfl (v := nI (o + 1)) mI_inc (ls' := [.ref 27, .int (nI r), .int how, .int (acc + (nI 0)), .int (nI k), .int (nI (o + 1))]) rfl (by decide) rfl ?_
        refine mt_goto dX4_pairs_63 (tgt := 20) rfl ?_
        exact ih (o + 1) (acc + (nI 0)) (by omega) ((mlp_go (f := prS (S.1 r) how k) (by omega) (by simp only [prS, if_pos q3, if_neg q8])).symm.trans hr9) (by omega)
      · refine mt_iconst dX4_pairs_53 (v := nI 1) rfl ?_
        refine mt_goto dX4_pairs_54 (tgt := 58) rfl ?_
        refine mp_iadd dX4_pairs_58 (v := acc + (nI 1)) rfl ?_
        refine mp_istore_n dX4_pairs_59 (ls' := [.ref 27, .int (nI r), .int how, .int (acc + (nI 1)), .int (nI k), .int (nI o)]) rfl (by decide) rfl ?_
        refine mp_iinc dX4_pairs_60 rfl (v := nI (o + 1)) mI_inc (ls' := [.ref 27, .int (nI r), .int how, .int (acc + (nI 1)), .int (nI k), .int (nI (o + 1))]) rfl (by decide) rfl ?_
        refine mt_goto dX4_pairs_63 (tgt := 20) rfl ?_
        exact ih (o + 1) (acc + (nI 1)) (by omega) ((mlp_go (f := prS (S.1 r) how k) (by omega) (by simp only [prS, if_pos q3, if_pos q8])).symm.trans hr9) (by omega)
set_option maxRecDepth 100000 in
set_option maxHeartbeats 2000000 in
theorem tX4_pairs_5 {l : Launch} {K : mK} {h : mH} {n : Nat} {S : cS} {kx sx : Nat → Nat} {g ac rf kn th : Int32} {r : Nat} {r9 : Int32} {how : Int32} (hl : l.stackTraces = false) (C0 : h 27 = .inr (.inr (6, [.ref 28, .ref 33, .int g, .int ac, .int rf, .int kn, .int th]))) (HR : mRows h n S kx sx) (hr : r < 4) (kk0 : ∀ (acc : Int32) (k : Nat), (acc = r9) → mT l mX4_pairs rX4_pairs K 72 [.ref 27, .int (nI r), .int how, .int acc, .int (nI k), .double 0] [] h n 0 0) : ∀ (N0 : Nat) (k : Nat) (acc : Int32), ((S.1 r).length - k) < N0 → (mlp (fun k acc => mlp (prS (S.1 r) how k) (k - 0) 0 acc) ((S.1 r).length - k) k acc = r9) → (k ≤ (S.1 r).length) → mT l mX4_pairs rX4_pairs K 5 [.ref 27, .int (nI r), .int how, .int acc, .int (nI k), .double 0] [] h n 0 0 := by
  intro N0
  induction N0 with
  | zero => intro k acc hm; exact absurd hm (Nat.not_lt_zero _)
  | succ N0 ih =>
    intro k acc hm hr9 hi9
    obtain ⟨⟨gk_1, G28_1, GK_1⟩, ⟨gs_1, G33_1, GS_1⟩, AK_1, AS_1, NE_1, NQ_1, LE_1⟩ := id HR
    obtain ⟨⟨ka_2, kb_2, kc_2, kd_2⟩, kf_2, ke_2, kg_2⟩ := AK_1 r hr
    obtain ⟨⟨sa_2, sb_2, sc_2, sd_2⟩, sf_2, se_2, sg_2⟩ := AS_1 r hr
    have kn_2 := NE_1 r r hr hr
    have kl_2 := LE_1 r hr
    have km_2 := rroom_le (r := r)
    refine mt_iload dX4_pairs_5 rfl ?_
    refine mt_aload_n dX4_pairs_7 rfl rfl ?_
    refine mt_getfield mKX4 (i := 0) (by decide) mw_1053 dX4_pairs_8 C0 rfl ?_
    refine mt_iload_n dX4_pairs_11 rfl ?_
    refine mp_aaload dX4_pairs_12 G28_1 (fun _ => rfl) rfl rfl (by omega) (by omega) (v := .ref (kx r)) (by rw [GK_1 _ (by omega)]; rfl) ?_
    refine mt_alen dX4_pairs_13 ke_2 (by decide) ?_
    refine mt_icmp_ge dX4_pairs_14 (tgt := 72) rfl (fun q3 => ?_) (fun q3 => ?_)
    · have q3 := Int32.not_lt.mpr q3
      have q3 := (not_congr (nI_ltI (by omega) (by omega))).mp q3
      exact kk0 acc k ((mlp_end (f := fun k acc => mlp (prS (S.1 r) how k) (k - 0) 0 acc) (by omega)).symm.trans hr9)
    · have q3 := Int32.not_le.mp q3
      have q3 := (nI_ltI (by omega) (by omega)).mp q3
      refine mt_iconst dX4_pairs_17 (v := nI 0) rfl ?_
      refine mp_istore dX4_pairs_18 (ls' := [.ref 27, .int (nI r), .int how, .int acc, .int (nI k), .int (nI 0)]) rfl (by decide) rfl ?_
      refine tX4_pairs_20 hl C0 HR hr (by omega) (fun acc_4 o_5 z6 => ?_) _ 0 acc (Nat.lt_succ_self _) rfl (by omega)
      refine mp_iinc dX4_pairs_66 rfl (v := nI (k + 1)) mI_inc (ls' := [.ref 27, .int (nI r), .int how, .int acc_4, .int (nI (k + 1)), .int (nI o_5)]) rfl (by decide) rfl ?_
      refine mt_goto dX4_pairs_69 (tgt := 5) rfl ?_
      refine mt_drop 5 (ls' := [.ref 27, .int (nI r), .int how, .int acc_4, .int (nI (k + 1)), .double 0]) rfl ?_
      exact ih (k + 1) acc_4 (by omega) ((mlp_go (f := fun k acc => mlp (prS (S.1 r) how k) (k - 0) 0 acc) (by omega) z6.symm).symm.trans hr9) (by omega)
set_option maxRecDepth 100000 in
set_option maxHeartbeats 2000000 in
theorem kX4_pairs {l : Launch} (hl : l.stackTraces = false) {h : mH} {n : Nat} {S : cS} {kx sx : Nat → Nat} {g ac rf kn th : Int32} {r : Nat} {how : Int32} (C0 : h 27 = .inr (.inr (6, [.ref 28, .ref 33, .int g, .int ac, .int rf, .int kn, .int th]))) (HR : mRows h n S kx sx) (hr : r < 4) : mC l mX4_pairs rX4_pairs [.ref 27, .int (nI r), .int how] h n (mRi (mq_pairs (S.1 r) how) h n) (mNX) := by
  obtain ⟨⟨gk_1, G28_1, GK_1⟩, ⟨gs_1, G33_1, GS_1⟩, AK_1, AS_1, NE_1, NQ_1, LE_1⟩ := id HR
  obtain ⟨⟨ka_2, kb_2, kc_2, kd_2⟩, kf_2, ke_2, kg_2⟩ := AK_1 r hr
  obtain ⟨⟨sa_2, sb_2, sc_2, sd_2⟩, sf_2, se_2, sg_2⟩ := AS_1 r hr
  have kn_2 := NE_1 r r hr hr
  have kl_2 := LE_1 r hr
  have km_2 := rroom_le (r := r)
  refine mm_enter hl (by decide +kernel) rfl rfl rfl (Nat.le_of_ble_eq_true rfl) ?_
  show mT _ _ _ _ 0 [.ref 27, .int (nI r), .int how, .double 0, .double 0, .double 0] [] _ _ 0 0
  refine mt_iconst dX4_pairs_0 (v := nI 0) rfl ?_
  refine mp_istore_n dX4_pairs_1 (ls' := [.ref 27, .int (nI r), .int how, .int (nI 0), .double 0, .double 0]) rfl (by decide) rfl ?_
  refine mt_iconst dX4_pairs_2 (v := nI 0) rfl ?_
  refine mp_istore dX4_pairs_3 (ls' := [.ref 27, .int (nI r), .int how, .int (nI 0), .int (nI 0), .double 0]) rfl (by decide) rfl ?_
  refine tX4_pairs_5 hl C0 HR hr (fun acc_3 k_4 z5 => ?_) _ 0 (nI 0) (Nat.lt_succ_self _) rfl (by omega)
  refine mt_iload_n dX4_pairs_72 rfl ?_
  refine mt_ireturn dX4_pairs_73 rfl rfl (Nat.le_of_ble_eq_true rfl) (Nat.le_of_ble_eq_true rfl) ?_
  exact ⟨congrArg (fun x => some (Value.int (x))) z5, rfl, rfl⟩
abbrev rX4_behind : Room := { frames := 0, cells := 0, slots := 0, locals := 0 }
set_option maxRecDepth 100000 in
set_option maxHeartbeats 2000000 in
theorem tX4_behind_4 {l : Launch} {R : Room} {K : mK} {cc sc : Nat} {h : mH} {n : Nat} {S : cS} {kx sx : Nat → Nat} {g ac rf kn th : Int32} {r : Nat} {p r9 : Nat} (C0 : h 27 = .inr (.inr (6, [.ref 28, .ref 33, .int g, .int ac, .int rf, .int kn, .int th]))) (HR : mRows h n S kx sx) (hr : r < 4) (kk0 : ∀ (e : Nat), (e = r9) → mT l mX4_behind R K 42 [.ref 27, .int (nI r), .int (nI p), .int (nI e)] [] h n cc sc) : ∀ (N0 : Nat) (e : Nat), ((S.1 r).length - e) < N0 → (erun (S.1 r) ((S.1 r).length - e) e = r9) → (0 < e) → (e ≤ (S.1 r).length) → mT l mX4_behind R K 4 [.ref 27, .int (nI r), .int (nI p), .int (nI e)] [] h n cc sc := by
  intro N0
  induction N0 with
  | zero => intro e hm; exact absurd hm (Nat.not_lt_zero _)
  | succ N0 ih =>
    intro e hm hr9 h0 he
    obtain ⟨⟨gk_1, G28_1, GK_1⟩, ⟨gs_1, G33_1, GS_1⟩, AK_1, AS_1, NE_1, NQ_1, LE_1⟩ := id HR
    obtain ⟨⟨ka_2, kb_2, kc_2, kd_2⟩, kf_2, ke_2, kg_2⟩ := AK_1 r hr
    obtain ⟨⟨sa_2, sb_2, sc_2, sd_2⟩, sf_2, se_2, sg_2⟩ := AS_1 r hr
    have kn_2 := NE_1 r r hr hr
    have kl_2 := LE_1 r hr
    have km_2 := rroom_le (r := r)
    refine mt_iload_n dX4_behind_4 rfl ?_
    refine mt_aload_n dX4_behind_5 rfl rfl ?_
    refine mt_getfield mKX4 (i := 0) (by decide) mw_1053 dX4_behind_6 C0 rfl ?_
    refine mt_iload_n dX4_behind_9 rfl ?_
    refine mp_aaload dX4_behind_10 G28_1 (fun _ => rfl) rfl rfl (by omega) (by omega) (v := .ref (kx r)) (by rw [GK_1 _ (by omega)]; rfl) ?_
    refine mt_alen dX4_behind_11 ke_2 (by decide) ?_
    refine mt_icmp_ge dX4_behind_12 (tgt := 42) rfl (fun q3 => ?_) (fun q3 => ?_)
    · have q3 := Int32.not_lt.mpr q3
      have q3 := (not_congr (nI_ltI (by omega) (by omega))).mp q3
      exact kk0 e (by first | exact (erun_end (by omega)).symm.trans hr9 | exact (erun_no (by omega) (by assumption)).symm.trans hr9)
    · have q3 := Int32.not_le.mp q3
      have q3 := (nI_ltI (by omega) (by omega)).mp q3
      refine mt_aload_n dX4_behind_15 rfl rfl ?_
      refine mt_getfield mKX4 (i := 0) (by decide) mw_1053 dX4_behind_16 C0 rfl ?_
      refine mt_iload_n dX4_behind_19 rfl ?_
      refine mp_aaload dX4_behind_20 G28_1 (fun _ => rfl) rfl rfl (by omega) (by omega) (v := .ref (kx r)) (by rw [GK_1 _ (by omega)]; rfl) ?_
      refine mt_iload_n dX4_behind_21 rfl ?_
      refine mp_iaload dX4_behind_22 ke_2 rfl (by omega) (by omega) (v := xk (S.1 r) e) (kg_2 _ (by omega)) ?_
      refine mt_aload_n dX4_behind_23 rfl rfl ?_
      refine mt_getfield mKX4 (i := 0) (by decide) mw_1053 dX4_behind_24 C0 rfl ?_
      refine mt_iload_n dX4_behind_27 rfl ?_
      refine mp_aaload dX4_behind_28 G28_1 (fun _ => rfl) rfl rfl (by omega) (by omega) (v := .ref (kx r)) (by rw [GK_1 _ (by omega)]; rfl) ?_
      refine mt_iload_n dX4_behind_29 rfl ?_
      refine mt_iconst dX4_behind_30 (v := nI 1) rfl ?_
      refine mp_isub dX4_behind_31 (v := nI (e - 1)) (pk_sub (by omega)) ?_
      refine mp_iaload dX4_behind_32 ke_2 rfl (by omega) (by omega) (v := xk (S.1 r) (e - 1)) (kg_2 _ (by omega)) ?_
      refine mt_icmp_lt dX4_behind_33 (tgt := 42) rfl (fun q4 => ?_) (fun q4 => ?_)
      · exact kk0 e (by first | exact (erun_end (by omega)).symm.trans hr9 | exact (erun_no (by omega) (by assumption)).symm.trans hr9)
      · refine mp_iinc dX4_behind_36 rfl (v := nI (e + 1)) mI_inc (ls' := [.ref 27, .int (nI r), .int (nI p), .int (nI (e + 1))]) rfl (by decide) rfl ?_
        refine mt_goto dX4_behind_39 (tgt := 4) rfl ?_
        exact ih (e + 1) (by omega) ((erun_go (by omega) (by assumption)).symm.trans hr9) (by omega) (by omega)
set_option maxRecDepth 100000 in
set_option maxHeartbeats 2000000 in
theorem kX4_behind {l : Launch} (hl : l.stackTraces = false) {h : mH} {n : Nat} {S : cS} {kx sx : Nat → Nat} {g ac rf kn th : Int32} {r : Nat} {p : Nat} (C0 : h 27 = .inr (.inr (6, [.ref 28, .ref 33, .int g, .int ac, .int rf, .int kn, .int th]))) (HR : mRows h n S kx sx) (hr : r < 4) (hp : p < (S.1 r).length) : mC l mX4_behind rX4_behind [.ref 27, .int (nI r), .int (nI p)] h n (mRi (nI (q_endOfRun (S.1 r) p - p)) h n) (mNX) := by
  obtain ⟨⟨gk_1, G28_1, GK_1⟩, ⟨gs_1, G33_1, GS_1⟩, AK_1, AS_1, NE_1, NQ_1, LE_1⟩ := id HR
  obtain ⟨⟨ka_2, kb_2, kc_2, kd_2⟩, kf_2, ke_2, kg_2⟩ := AK_1 r hr
  obtain ⟨⟨sa_2, sb_2, sc_2, sd_2⟩, sf_2, se_2, sg_2⟩ := AS_1 r hr
  have kn_2 := NE_1 r r hr hr
  have kl_2 := LE_1 r hr
  have km_2 := rroom_le (r := r)
  refine mm_enter hl (by decide +kernel) rfl rfl rfl (Nat.le_of_ble_eq_true rfl) ?_
  show mT _ _ _ _ 0 [.ref 27, .int (nI r), .int (nI p), .double 0] [] _ _ 0 0
  refine mt_iload_n dX4_behind_0 rfl ?_
  refine mt_iconst dX4_behind_1 (v := nI 1) rfl ?_
  refine mp_iadd dX4_behind_2 (v := nI (p + 1)) (nI_add _ _) ?_
  refine mp_istore_n dX4_behind_3 (ls' := [.ref 27, .int (nI r), .int (nI p), .int (nI (p + 1))]) rfl (by decide) rfl ?_
  refine tX4_behind_4 C0 HR hr (fun e_3 z4 => ?_) _ (p + 1) (Nat.lt_succ_self _) rfl (by omega) (by omega)
  have el := @erun_le (S.1 r) ((S.1 r).length - (p + 1)) (p + 1)
  rw [← z4] at el
  refine mt_iload_n dX4_behind_42 rfl ?_
  refine mt_iload_n dX4_behind_43 rfl ?_
  refine mp_isub dX4_behind_44 (v := nI (e_3 - p)) (pk_sub (by omega)) ?_
  refine mt_ireturn dX4_behind_45 rfl rfl (Nat.le_of_ble_eq_true rfl) (Nat.le_of_ble_eq_true rfl) ?_
  exact ⟨congrArg (fun x => some (Value.int (nI (x - p)))) z4, rfl, rfl⟩
abbrev rX4_often : Room := { frames := 1, cells := 0, slots := 0, locals := 21 }
set_option maxRecDepth 100000 in
set_option maxHeartbeats 2000000 in
theorem tX4_often_19 {l : Launch} {K : mK} {h : mH} {n : Nat} {S : cS} {kx sx : Nat → Nat} {g ac rf kn th : Int32} {r : Nat} {r9 : Int32} {key how : Int32} (hl : l.stackTraces = false) (C0 : h 27 = .inr (.inr (6, [.ref 28, .ref 33, .int g, .int ac, .int rf, .int kn, .int th]))) (HR : mRows h n S kx sx) (hr : r < 4) (kk0 : ∀ (acc : Int32) (i : Nat), (acc = r9) → mT l mX4_often rX4_often K 59 [.ref 27, .int (nI r), .int key, .int how, .int acc, .ref (kx r), .int (nI ((S.1 r).length)), .int (nI i), .double 0] [] h n 0 0) : ∀ (N0 : Nat) (i : Nat) (acc : Int32), ((S.1 r).length - i) < N0 → (mlp (ofS (S.1 r) key how) ((S.1 r).length - i) i acc = r9) → (i ≤ (S.1 r).length) → mT l mX4_often rX4_often K 19 [.ref 27, .int (nI r), .int key, .int how, .int acc, .ref (kx r), .int (nI ((S.1 r).length)), .int (nI i), .double 0] [] h n 0 0 := by
  intro N0
  induction N0 with
  | zero => intro i acc hm; exact absurd hm (Nat.not_lt_zero _)
  | succ N0 ih =>
    intro i acc hm hr9 hi9
    obtain ⟨⟨gk_1, G28_1, GK_1⟩, ⟨gs_1, G33_1, GS_1⟩, AK_1, AS_1, NE_1, NQ_1, LE_1⟩ := id HR
    obtain ⟨⟨ka_2, kb_2, kc_2, kd_2⟩, kf_2, ke_2, kg_2⟩ := AK_1 r hr
    obtain ⟨⟨sa_2, sb_2, sc_2, sd_2⟩, sf_2, se_2, sg_2⟩ := AS_1 r hr
    have kn_2 := NE_1 r r hr hr
    have kl_2 := LE_1 r hr
    have km_2 := rroom_le (r := r)
    refine mt_iload dX4_often_19 rfl ?_
    refine mt_iload dX4_often_21 rfl ?_
    refine mt_icmp_ge dX4_often_23 (tgt := 59) rfl (fun q3 => ?_) (fun q3 => ?_)
    · have q3 := Int32.not_lt.mpr q3
      have q3 := (not_congr (nI_ltI (by omega) (by omega))).mp q3
      exact kk0 acc i ((mlp_end (f := ofS (S.1 r) key how) (by omega)).symm.trans hr9)
    · have q3 := Int32.not_le.mp q3
      have q3 := (nI_ltI (by omega) (by omega)).mp q3
      refine mt_aload dX4_often_26 rfl rfl ?_
      refine mt_iload dX4_often_28 rfl ?_
      refine mp_iaload dX4_often_30 ke_2 rfl (by omega) (by omega) (v := xk (S.1 r) i) (kg_2 _ (by omega)) ?_
      refine mp_istore dX4_often_31 (ls' := [.ref 27, .int (nI r), .int key, .int how, .int acc, .ref (kx r), .int (nI ((S.1 r).length)), .int (nI i), .int (xk (S.1 r) i)]) rfl (by decide) rfl ?_
      refine mt_iload dX4_often_33 rfl ?_
      refine mt_iload dX4_often_35 rfl ?_
      refine mt_iload_n dX4_often_37 rfl ?_
      refine mt_callS (N := mX4_side) (Rc := rX4_side) (As := [.int (xk (S.1 r) i), .int key]) (st := [.int acc]) dX4_often_38 (kX4_side hl) sX4_side mw_1150 rfl (Nat.le_of_ble_eq_true rfl) ⟨⟨Nat.le_of_ble_eq_true rfl, Nat.le_of_ble_eq_true rfl⟩, Nat.le_of_ble_eq_true rfl, Nat.le_of_ble_eq_true rfl⟩ (fun v4 h5 n6 c7 => ?_) (fun _ _ _ hx => hx.elim)
      obtain ⟨c7a, c7b, c7c⟩ := c7
      rw [c7a, c7b, c7c]
      show mT _ _ _ _ 41 [.ref 27, .int (nI r), .int key, .int how, .int acc, .ref (kx r), .int (nI ((S.1 r).length)), .int (nI i), .int (xk (S.1 r) i)] [.int (sideF (xk (S.1 r) i) key), .int acc] _ _ _ _
      refine mt_iload_n dX4_often_41 rfl ?_
      refine mt_icmp_ne dX4_often_42 (tgt := 49) rfl (fun q8 => ?_) (fun q8 => ?_)
      · refine mt_iconst dX4_often_49 (v := nI 0) rfl ?_
        refine mp_iadd dX4_often_50 (v := acc + (nI 0)) rfl ?_
        refine mp_istore dX4_often_51 (ls' := [.ref 27, .int (nI r), .int key, .int how, .int (acc + (nI 0)), .ref (kx r), .int (nI ((S.1 r).length)), .int (nI i), .int (xk (S.1 r) i)]) rfl (by decide) rfl ?_
        refine mp_iinc dX4_often_53 rfl (v := nI (i + 1)) mI_inc (ls' := [.ref 27, .int (nI r), .int key, .int how, .int (acc + (nI 0)), .ref (kx r), .int (nI ((S.1 r).length)), .int (nI (i + 1)), .int (xk (S.1 r) i)]) rfl (by decide) rfl ?_
        refine mt_goto dX4_often_56 (tgt := 19) rfl ?_
        refine mt_drop 8 (ls' := [.ref 27, .int (nI r), .int key, .int how, .int (acc + (nI 0)), .ref (kx r), .int (nI ((S.1 r).length)), .int (nI (i + 1)), .double 0]) rfl ?_
        exact ih (i + 1) (acc + (nI 0)) (by omega) ((mlp_go (f := ofS (S.1 r) key how) (by omega) (by simp only [ofS, if_pos q3, if_neg q8])).symm.trans hr9) (by omega)
      · refine mt_iconst dX4_often_45 (v := nI 1) rfl ?_
        refine mt_goto dX4_often_46 (tgt := 50) rfl ?_
        refine mp_iadd dX4_often_50 (v := acc + (nI 1)) rfl ?_
        refine mp_istore dX4_often_51 (ls' := [.ref 27, .int (nI r), .int key, .int how, .int (acc + (nI 1)), .ref (kx r), .int (nI ((S.1 r).length)), .int (nI i), .int (xk (S.1 r) i)]) rfl (by decide) rfl ?_
        refine mp_iinc dX4_often_53 rfl (v := nI (i + 1)) mI_inc (ls' := [.ref 27, .int (nI r), .int key, .int how, .int (acc + (nI 1)), .ref (kx r), .int (nI ((S.1 r).length)), .int (nI (i + 1)), .int (xk (S.1 r) i)]) rfl (by decide) rfl ?_
        refine mt_goto dX4_often_56 (tgt := 19) rfl ?_
        refine mt_drop 8 (ls' := [.ref 27, .int (nI r), .int key, .int how, .int (acc + (nI 1)), .ref (kx r), .int (nI ((S.1 r).length)), .int (nI (i + 1)), .double 0]) rfl ?_
        exact ih (i + 1) (acc + (nI 1)) (by omega) ((mlp_go (f := ofS (S.1 r) key how) (by omega) (by simp only [ofS, if_pos q3, if_pos q8])).symm.trans hr9) (by omega)
set_option maxRecDepth 100000 in
set_option maxHeartbeats 2000000 in
theorem kX4_often {l : Launch} (hl : l.stackTraces = false) {h : mH} {n : Nat} {S : cS} {kx sx : Nat → Nat} {g ac rf kn th : Int32} {r : Nat} {key how : Int32} (C0 : h 27 = .inr (.inr (6, [.ref 28, .ref 33, .int g, .int ac, .int rf, .int kn, .int th]))) (HR : mRows h n S kx sx) (hr : r < 4) : mC l mX4_often rX4_often [.ref 27, .int (nI r), .int key, .int how] h n (mRi (mq_often (S.1 r) key how) h n) (mNX) := by
  obtain ⟨⟨gk_1, G28_1, GK_1⟩, ⟨gs_1, G33_1, GS_1⟩, AK_1, AS_1, NE_1, NQ_1, LE_1⟩ := id HR
  obtain ⟨⟨ka_2, kb_2, kc_2, kd_2⟩, kf_2, ke_2, kg_2⟩ := AK_1 r hr
  obtain ⟨⟨sa_2, sb_2, sc_2, sd_2⟩, sf_2, se_2, sg_2⟩ := AS_1 r hr
  have kn_2 := NE_1 r r hr hr
  have kl_2 := LE_1 r hr
  have km_2 := rroom_le (r := r)
  refine mm_enter hl (by decide +kernel) rfl rfl rfl (Nat.le_of_ble_eq_true rfl) ?_
  show mT _ _ _ _ 0 [.ref 27, .int (nI r), .int key, .int how, .double 0, .double 0, .double 0, .double 0, .double 0] [] _ _ 0 0
  refine mt_iconst dX4_often_0 (v := nI 0) rfl ?_
  refine mp_istore dX4_often_1 (ls' := [.ref 27, .int (nI r), .int key, .int how, .int (nI 0), .double 0, .double 0, .double 0, .double 0]) rfl (by decide) rfl ?_
  refine mt_aload_n dX4_often_3 rfl rfl ?_
  refine mt_getfield mKX4 (i := 0) (by decide) mw_1053 dX4_often_4 C0 rfl ?_
  refine mt_iload_n dX4_often_7 rfl ?_
  refine mp_aaload dX4_often_8 G28_1 (fun _ => rfl) rfl rfl (by omega) (by omega) (v := .ref (kx r)) (by rw [GK_1 _ (by omega)]; rfl) ?_
  refine mp_astore dX4_often_9 (ls' := [.ref 27, .int (nI r), .int key, .int how, .int (nI 0), .ref (kx r), .double 0, .double 0, .double 0]) rfl rfl (by decide) rfl ?_
  refine mt_aload dX4_often_11 rfl rfl ?_
  refine mt_alen dX4_often_13 ke_2 (by decide) ?_
  refine mp_istore dX4_often_14 (ls' := [.ref 27, .int (nI r), .int key, .int how, .int (nI 0), .ref (kx r), .int (nI ((S.1 r).length)), .double 0, .double 0]) rfl (by decide) rfl ?_
  refine mt_iconst dX4_often_16 (v := nI 0) rfl ?_
  refine mp_istore dX4_often_17 (ls' := [.ref 27, .int (nI r), .int key, .int how, .int (nI 0), .ref (kx r), .int (nI ((S.1 r).length)), .int (nI 0), .double 0]) rfl (by decide) rfl ?_
  refine tX4_often_19 hl C0 HR hr (fun acc_3 i_4 z5 => ?_) _ 0 (nI 0) (Nat.lt_succ_self _) rfl (by omega)
  refine mt_iload dX4_often_59 rfl ?_
  refine mt_ireturn dX4_often_61 rfl rfl (Nat.le_of_ble_eq_true rfl) (Nat.le_of_ble_eq_true rfl) ?_
  exact ⟨congrArg (fun x => some (Value.int (x))) z5, rfl, rfl⟩
abbrev rX4_isNew : Room := { frames := 0, cells := 0, slots := 0, locals := 0 }
set_option maxRecDepth 100000 in
set_option maxHeartbeats 2000000 in
theorem tX4_isNew_2 {l : Launch} {R : Room} {K : mK} {cc sc : Nat} {h : mH} {n : Nat} {S : cS} {kx sx : Nat → Nat} {g ac rf kn th : Int32} {r : Nat} {p : Nat} {r9 : Bool} (C0 : h 27 = .inr (.inr (6, [.ref 28, .ref 33, .int g, .int ac, .int rf, .int kn, .int th]))) (HR : mRows h n S kx sx) (hr : r < 4) (hp : p < (S.1 r).length) (kk0 : ∀ (k : Nat), (r9 = true) → mT l mX4_isNew R K 34 [.ref 27, .int (nI r), .int (nI p), .int (nI k)] [] h n cc sc) (kk1 : ∀ (k : Nat), (r9 = false) → mT l mX4_isNew R K 26 [.ref 27, .int (nI r), .int (nI p), .int (nI k)] [] h n cc sc) : ∀ (N0 : Nat) (k : Nat), (p - k) < N0 → (mall (fun k => decide (¬ xk (S.1 r) k = xk (S.1 r) p)) (p - k) k = r9) → (k ≤ p) → mT l mX4_isNew R K 2 [.ref 27, .int (nI r), .int (nI p), .int (nI k)] [] h n cc sc := by
  intro N0
  induction N0 with
  | zero => intro k hm; exact absurd hm (Nat.not_lt_zero _)
  | succ N0 ih =>
    intro k hm hr9 hk
    obtain ⟨⟨gk_1, G28_1, GK_1⟩, ⟨gs_1, G33_1, GS_1⟩, AK_1, AS_1, NE_1, NQ_1, LE_1⟩ := id HR
    obtain ⟨⟨ka_2, kb_2, kc_2, kd_2⟩, kf_2, ke_2, kg_2⟩ := AK_1 r hr
    obtain ⟨⟨sa_2, sb_2, sc_2, sd_2⟩, sf_2, se_2, sg_2⟩ := AS_1 r hr
    have kn_2 := NE_1 r r hr hr
    have kl_2 := LE_1 r hr
    have km_2 := rroom_le (r := r)
    refine mt_iload_n dX4_isNew_2 rfl ?_
    refine mt_iload_n dX4_isNew_3 rfl ?_
    refine mt_icmp_ge dX4_isNew_4 (tgt := 34) rfl (fun q3 => ?_) (fun q3 => ?_)
    · have q3 := Int32.not_lt.mpr q3
      have q3 := (not_congr (nI_ltI (by omega) (by omega))).mp q3
      exact kk0 k (((mall_end (p := fun k => decide (¬ xk (S.1 r) k = xk (S.1 r) p)) (by omega)).symm.trans hr9).symm)
    · have q3 := Int32.not_le.mp q3
      have q3 := (nI_ltI (by omega) (by omega)).mp q3
      refine mt_aload_n dX4_isNew_7 rfl rfl ?_
      refine mt_getfield mKX4 (i := 0) (by decide) mw_1053 dX4_isNew_8 C0 rfl ?_
      refine mt_iload_n dX4_isNew_11 rfl ?_
      refine mp_aaload dX4_isNew_12 G28_1 (fun _ => rfl) rfl rfl (by omega) (by omega) (v := .ref (kx r)) (by rw [GK_1 _ (by omega)]; rfl) ?_
      refine mt_iload_n dX4_isNew_13 rfl ?_
      refine mp_iaload dX4_isNew_14 ke_2 rfl (by omega) (by omega) (v := xk (S.1 r) k) (kg_2 _ (by omega)) ?_
      refine mt_aload_n dX4_isNew_15 rfl rfl ?_
      refine mt_getfield mKX4 (i := 0) (by decide) mw_1053 dX4_isNew_16 C0 rfl ?_
      refine mt_iload_n dX4_isNew_19 rfl ?_
      refine mp_aaload dX4_isNew_20 G28_1 (fun _ => rfl) rfl rfl (by omega) (by omega) (v := .ref (kx r)) (by rw [GK_1 _ (by omega)]; rfl) ?_
      refine mt_iload_n dX4_isNew_21 rfl ?_
      refine mp_iaload dX4_isNew_22 ke_2 rfl (by omega) (by omega) (v := xk (S.1 r) p) (kg_2 _ (by omega)) ?_
      refine mt_icmp_ne dX4_isNew_23 (tgt := 28) rfl (fun q4 => ?_) (fun q4 => ?_)
      · refine mp_iinc dX4_isNew_28 rfl (v := nI (k + 1)) mI_inc (ls' := [.ref 27, .int (nI r), .int (nI p), .int (nI (k + 1))]) rfl (by decide) rfl ?_
        refine mt_goto dX4_isNew_31 (tgt := 2) rfl ?_
        exact ih (k + 1) (by omega) ((mall_go (p := fun k => decide (¬ xk (S.1 r) k = xk (S.1 r) p)) (by omega) (by simp [q4])).symm.trans hr9) (by omega)
      · exact kk1 k (((mall_no (p := fun k => decide (¬ xk (S.1 r) k = xk (S.1 r) p)) (by omega) (by simp [q4])).symm.trans hr9).symm)
set_option maxRecDepth 100000 in
set_option maxHeartbeats 2000000 in
theorem kX4_isNew {l : Launch} (hl : l.stackTraces = false) {h : mH} {n : Nat} {S : cS} {kx sx : Nat → Nat} {g ac rf kn th : Int32} {r : Nat} {p : Nat} (C0 : h 27 = .inr (.inr (6, [.ref 28, .ref 33, .int g, .int ac, .int rf, .int kn, .int th]))) (HR : mRows h n S kx sx) (hr : r < 4) (hp : p < (S.1 r).length) : mC l mX4_isNew rX4_isNew [.ref 27, .int (nI r), .int (nI p)] h n (mRi (mb (mq_isNew (S.1 r) p)) h n) (mNX) := by
  obtain ⟨⟨gk_1, G28_1, GK_1⟩, ⟨gs_1, G33_1, GS_1⟩, AK_1, AS_1, NE_1, NQ_1, LE_1⟩ := id HR
  obtain ⟨⟨ka_2, kb_2, kc_2, kd_2⟩, kf_2, ke_2, kg_2⟩ := AK_1 r hr
  obtain ⟨⟨sa_2, sb_2, sc_2, sd_2⟩, sf_2, se_2, sg_2⟩ := AS_1 r hr
  have kn_2 := NE_1 r r hr hr
  have kl_2 := LE_1 r hr
  have km_2 := rroom_le (r := r)
  refine mm_enter hl (by decide +kernel) rfl rfl rfl (Nat.le_of_ble_eq_true rfl) ?_
  show mT _ _ _ _ 0 [.ref 27, .int (nI r), .int (nI p), .double 0] [] _ _ 0 0
  refine mt_iconst dX4_isNew_0 (v := nI 0) rfl ?_
  refine mp_istore_n dX4_isNew_1 (ls' := [.ref 27, .int (nI r), .int (nI p), .int (nI 0)]) rfl (by decide) rfl ?_
  refine tX4_isNew_2 C0 HR hr hp (fun k_3 z4 => ?_) (fun k_5 z6 => ?_) _ 0 (Nat.lt_succ_self _) rfl (by omega)
  · refine mt_iconst dX4_isNew_34 (v := nI 1) rfl ?_
    refine mt_ireturn dX4_isNew_35 rfl rfl (Nat.le_of_ble_eq_true rfl) (Nat.le_of_ble_eq_true rfl) ?_
    exact ⟨congrArg (fun x => some (Value.int (mb x))) z4.symm, rfl, rfl⟩
  · refine mt_iconst dX4_isNew_26 (v := nI 0) rfl ?_
    refine mt_ireturn dX4_isNew_27 rfl rfl (Nat.le_of_ble_eq_true rfl) (Nat.le_of_ble_eq_true rfl) ?_
    exact ⟨congrArg (fun x => some (Value.int (mb x))) z6.symm, rfl, rfl⟩
