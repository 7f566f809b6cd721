/-! ===== text: StringBuilder, safety alone ===== -/
abbrev rJ5_append_c97b9 : Room := { frames := 4, cells := 1, slots := 700, locals := 100 }
set_option maxRecDepth 100000 in
set_option maxHeartbeats 2000000 in
theorem kJ5_append_c97b9 {l : Launch} (hl : l.stackTraces = false) {h : mH} {n : Nat} {lo a c : Nat} {x : Int32} (A : sbA h lo n a c c) (q2 : c ≤ 280) : mC l mJ5_append_c97b9 rJ5_append_c97b9 [.ref a, .int x] h n (fun r h' n' => r = some (.ref a) ∧ n ≤ n' ∧ (∃ c', c ≤ c' ∧ c' ≤ c + 11 ∧ sbA h' lo n' a c' c') ∧ ∀ j, j < lo → h' j = h j) (mNX) := by
  obtain ⟨v, cap, f, ml, E, B, hf, ck, c7, la, lv, ne, an, vn⟩ := id A
  refine mm_enter hl (by decide +kernel) rfl rfl rfl (Nat.le_of_ble_eq_true rfl) ?_
  show mT _ _ _ _ 0 [.ref a, .int x, .double 0, .double 0] [] _ _ 0 0
  refine mt_aload_n dJ5_append_c97b9_0 rfl rfl ?_
  refine mt_getfield mKJ4 (i := 3) (by decide) mw_661 dJ5_append_c97b9_1 E rfl ?_
  refine mp_istore_n dJ5_append_c97b9_4 (ls' := [.ref a, .int x, .int (nI c), .double 0]) rfl (by decide) rfl ?_
  refine mt_iload_n dJ5_append_c97b9_5 rfl ?_
  refine mt_iload_n dJ5_append_c97b9_6 rfl ?_
  refine mt_callS (N := mJ6_stringSize_0f7a4) (Rc := rJ6_stringSize_0f7a4) (As := [.int x]) (st := [.int (nI c)]) dJ5_append_c97b9_7 (kJ6_stringSize_0f7a4 hl) sJ6_stringSize_0f7a4 mw_767 rfl (Nat.le_of_ble_eq_true rfl) ⟨⟨Nat.le_of_ble_eq_true rfl, Nat.le_of_ble_eq_true rfl⟩, Nat.le_of_ble_eq_true rfl, Nat.le_of_ble_eq_true rfl⟩ (fun v1 h2 n3 c4 => ?_) (fun _ _ _ hx => hx.elim)
  obtain ⟨d, c4a, d1, d2, hfit, c4b, c4c⟩ := c4
  rw [c4a, c4b, c4c]
  show mT _ _ _ _ 10 [.ref a, .int x, .int (nI c), .double 0] [.int (nI d), .int (nI c)] _ _ _ _
  refine mp_iadd dJ5_append_c97b9_10 (v := nI (c + d)) (nI_add _ _) ?_
  refine mp_istore_n dJ5_append_c97b9_11 (ls' := [.ref a, .int x, .int (nI c), .int (nI (c + d))]) rfl (by decide) rfl ?_
  refine mt_aload_n dJ5_append_c97b9_12 rfl rfl ?_
  refine mt_iload_n dJ5_append_c97b9_13 rfl ?_
  refine mt_callU (N := mJ5_ensureCapacityInternal_d00df) (Rc := rJ5_ensureCapacityInternal_d00df) (As := [.int (nI (c + d))]) (st := []) dJ5_append_c97b9_14 (kJ5_ensureCapacityInternal_d00df hl A (by omega)) uJ5_ensureCapacityInternal_d00df mw_1381 mw_678 mKJ4 E rfl (Nat.le_of_ble_eq_true rfl) ⟨⟨Nat.le_of_ble_eq_true rfl, Nat.le_of_ble_eq_true rfl⟩, Nat.le_of_ble_eq_true rfl, Nat.le_of_ble_eq_true rfl⟩ (fun v5 h6 n7 c8 => ?_) (fun _ _ _ hx => hx.elim)
  obtain ⟨c8a, c8b, ⟨v2, cap2, f2, ml2, E2, B2, hf2, ck2, c72, la2, lv2, ne2, an2, vn2⟩, c8d⟩ := c8
  rw [c8a]
  show mT _ _ _ _ 17 [.ref a, .int x, .int (nI c), .int (nI (c + d))] [] _ _ _ _
  refine mt_aload_n dJ5_append_c97b9_17 rfl rfl ?_
  refine mt_callU (N := mJ5_isLatin1_aae02) (Rc := rJ5_isLatin1_aae02) (As := []) (st := []) dJ5_append_c97b9_18 (kJ5_isLatin1_aae02 hl E2) uJ5_isLatin1_aae02 mw_710 mw_707 mKJ4 E2 rfl (Nat.le_of_ble_eq_true rfl) ⟨⟨Nat.le_of_ble_eq_true rfl, Nat.le_of_ble_eq_true rfl⟩, Nat.le_of_ble_eq_true rfl, Nat.le_of_ble_eq_true rfl⟩ (fun v9 h10 n11 c12 => ?_) (fun _ _ _ hx => hx.elim)
  obtain ⟨c12a, c12b, c12c⟩ := c12
  rw [c12a, c12b, c12c]
  show mT _ _ _ _ 21 [.ref a, .int x, .int (nI c), .int (nI (c + d))] [.int (nI 1)] _ _ _ _
  refine mt_if_eq dJ5_append_c97b9_21 (tgt := 37) rfl (fun q13 => ?_) (fun q13 => ?_)
  · have q13 := (mI_eq0 (by omega)).mp q13
    exact absurd q13 (by decide)
  · have q13 := (not_congr (mI_eq0 (by omega))).mp q13
    refine mt_iload_n dJ5_append_c97b9_24 rfl ?_
    refine mt_iload_n dJ5_append_c97b9_25 rfl ?_
    refine mt_aload_n dJ5_append_c97b9_26 rfl rfl ?_
    refine mt_getfield mKJ4 (i := 0) (by decide) mw_658 dJ5_append_c97b9_27 E2 rfl ?_
    refine mt_callS (N := mJ6_getChars_ba4f3) (Rc := rJ6_getChars_ba4f3) (As := [.int x, .int (nI (c + d)), .ref v2]) (st := []) dJ5_append_c97b9_30 (kJ6_getChars_ba4f3 hl hfit c72 B2 hf2 (by omega) (by omega)) sJ6_getChars_ba4f3 mw_770 rfl (Nat.le_of_ble_eq_true rfl) ⟨⟨Nat.le_of_ble_eq_true rfl, Nat.le_of_ble_eq_true rfl⟩, Nat.le_of_ble_eq_true rfl, Nat.le_of_ble_eq_true rfl⟩ (fun v14 h15 n16 c17 => ?_) (fun _ _ _ hx => hx.elim)
    obtain ⟨yc17, c17a, c17b, ⟨gc17, c17c, c17d⟩, c17e⟩ := c17
    rw [c17a, c17b]
    show mT _ _ _ _ 33 [.ref a, .int x, .int (nI c), .int (nI (c + d))] [.int yc17] _ _ _ _
    refine mt_pop dJ5_append_c97b9_33 rfl ?_
    refine mt_goto dJ5_append_c97b9_34 (tgt := 48) rfl ?_
    refine mt_aload_n dJ5_append_c97b9_48 rfl rfl ?_
    refine mt_iload_n dJ5_append_c97b9_49 rfl ?_
    refine mp_putfield mKJ4 (i := 3) (fs' := [.ref v2, .int (nI 0), .int ml2, .int (nI (c + d))]) (by decide) mw_661 rfl dJ5_append_c97b9_50 ((c17e (a) (by omega)).trans E2) (Nat.le_of_ble_eq_true rfl) rfl rfl (fun h18 e19 f20 => ?_)
    refine mt_aload_n dJ5_append_c97b9_53 rfl rfl ?_
    refine mt_areturn dJ5_append_c97b9_54 rfl (by first | exact Or.inl ⟨_, rfl⟩ | exact Or.inr ⟨_, rfl⟩) rfl (Nat.le_of_ble_eq_true rfl) (Nat.le_of_ble_eq_true rfl) ?_
    exact ⟨rfl, by omega, ⟨c + d, by omega, by omega, v2, cap2, _, ml2, e19, (f20 (v2) (by omega)).trans c17c, c17d, by omega, c72, la2, lv2, ne2, an2, vn2⟩, fun j hj => (f20 j (by omega)).trans ((c17e j (by omega)).trans (c8d j (by omega)))⟩
abbrev rJ5_append_3fe6f : Room := { frames := 4, cells := 1, slots := 700, locals := 100 }
set_option maxRecDepth 100000 in
set_option maxHeartbeats 2000000 in
theorem kJ5_append_3fe6f {l : Launch} (hl : l.stackTraces = false) {h : mH} {n : Nat} {lo a c : Nat} (A : sbA h lo n a c c) (q2 : c ≤ 280) : mC l mJ5_append_3fe6f rJ5_append_3fe6f [.ref a, .int (nI 32)] h n (fun r h' n' => r = some (.ref a) ∧ n ≤ n' ∧ (∃ c', c ≤ c' ∧ c' ≤ c + 1 ∧ sbA h' lo n' a c' c') ∧ ∀ j, j < lo → h' j = h j) (mNX) := by
  obtain ⟨v, cap, f, ml, E, B, hf, ck, c7, la, lv, ne, an, vn⟩ := id A
  refine mm_enter hl (by decide +kernel) rfl rfl rfl (Nat.le_of_ble_eq_true rfl) ?_
  show mT _ _ _ _ 0 [.ref a, .int (nI 32)] [] _ _ 0 0
  refine mt_aload_n dJ5_append_3fe6f_0 rfl rfl ?_
  refine mt_aload_n dJ5_append_3fe6f_1 rfl rfl ?_
  refine mt_getfield mKJ4 (i := 3) (by decide) mw_661 dJ5_append_3fe6f_2 E rfl ?_
  refine mt_iconst dJ5_append_3fe6f_5 (v := nI 1) rfl ?_
  refine mp_iadd dJ5_append_3fe6f_6 (v := nI (c + 1)) (nI_add _ _) ?_
  refine mt_callU (N := mJ5_ensureCapacityInternal_d00df) (Rc := rJ5_ensureCapacityInternal_d00df) (As := [.int (nI (c + 1))]) (st := []) dJ5_append_3fe6f_7 (kJ5_ensureCapacityInternal_d00df hl A (by omega)) uJ5_ensureCapacityInternal_d00df mw_1381 mw_678 mKJ4 E rfl (Nat.le_of_ble_eq_true rfl) ⟨⟨Nat.le_of_ble_eq_true rfl, Nat.le_of_ble_eq_true rfl⟩, Nat.le_of_ble_eq_true rfl, Nat.le_of_ble_eq_true rfl⟩ (fun v1 h2 n3 c4 => ?_) (fun _ _ _ hx => hx.elim)
  obtain ⟨c4a, c4b, ⟨v2, cap2, f2, ml2, E2, B2, hf2, ck2, c72, la2, lv2, ne2, an2, vn2⟩, c4d⟩ := c4
  rw [c4a]
  show mT _ _ _ _ 10 [.ref a, .int (nI 32)] [] _ _ _ _
  refine mt_aload_n dJ5_append_3fe6f_10 rfl rfl ?_
  refine mt_callU (N := mJ5_isLatin1_aae02) (Rc := rJ5_isLatin1_aae02) (As := []) (st := []) dJ5_append_3fe6f_11 (kJ5_isLatin1_aae02 hl E2) uJ5_isLatin1_aae02 mw_710 mw_707 mKJ4 E2 rfl (Nat.le_of_ble_eq_true rfl) ⟨⟨Nat.le_of_ble_eq_true rfl, Nat.le_of_ble_eq_true rfl⟩, Nat.le_of_ble_eq_true rfl, Nat.le_of_ble_eq_true rfl⟩ (fun v5 h6 n7 c8 => ?_) (fun _ _ _ hx => hx.elim)
  obtain ⟨c8a, c8b, c8c⟩ := c8
  rw [c8a, c8b, c8c]
  show mT _ _ _ _ 14 [.ref a, .int (nI 32)] [.int (nI 1)] _ _ _ _
  refine mt_if_eq dJ5_append_3fe6f_14 (tgt := 45) rfl (fun q9 => ?_) (fun q9 => ?_)
  · have q9 := (mI_eq0 (by omega)).mp q9
    exact absurd q9 (by decide)
  · have q9 := (not_congr (mI_eq0 (by omega))).mp q9
    refine mt_iload_n dJ5_append_3fe6f_17 rfl ?_
    refine mt_callS (N := mJ1_canEncode_fc78d) (Rc := rJ1_canEncode_fc78d) (As := [.int (nI 32)]) (st := []) dJ5_append_3fe6f_18 (kJ1_canEncode_fc78d hl) sJ1_canEncode_fc78d mw_712 rfl (Nat.le_of_ble_eq_true rfl) ⟨⟨Nat.le_of_ble_eq_true rfl, Nat.le_of_ble_eq_true rfl⟩, Nat.le_of_ble_eq_true rfl, Nat.le_of_ble_eq_true rfl⟩ (fun v10 h11 n12 c13 => ?_) (fun _ _ _ hx => hx.elim)
    obtain ⟨c13a, c13b, c13c⟩ := c13
    rw [c13a, c13b, c13c]
    show mT _ _ _ _ 21 [.ref a, .int (nI 32)] [.int (nI 1)] _ _ _ _
    refine mt_if_eq dJ5_append_3fe6f_21 (tgt := 45) rfl (fun q14 => ?_) (fun q14 => ?_)
    · have q14 := (mI_eq0 (by omega)).mp q14
      exact absurd q14 (by decide)
    · have q14 := (not_congr (mI_eq0 (by omega))).mp q14
      refine mt_aload_n dJ5_append_3fe6f_24 rfl rfl ?_
      refine mt_getfield mKJ4 (i := 0) (by decide) mw_658 dJ5_append_3fe6f_25 E2 rfl ?_
      refine mt_aload_n dJ5_append_3fe6f_28 rfl rfl ?_
      refine mt_dup dJ5_append_3fe6f_29 rfl ?_
      refine mt_getfield mKJ4 (i := 3) (by decide) mw_661 dJ5_append_3fe6f_30 E2 rfl ?_
      refine mt_dup_x1 dJ5_append_3fe6f_33 rfl rfl ?_
      refine mt_iconst dJ5_append_3fe6f_34 (v := nI 1) rfl ?_
      refine mp_iadd dJ5_append_3fe6f_35 (v := nI (c + 1)) (nI_add _ _) ?_
      refine mp_putfield mKJ4 (i := 3) (fs' := [.ref v2, .int (nI 0), .int ml2, .int (nI (c + 1))]) (by decide) mw_661 rfl dJ5_append_3fe6f_36 E2 (Nat.le_of_ble_eq_true rfl) rfl rfl (fun h15 e16 f17 => ?_)
      refine mt_iload_n dJ5_append_3fe6f_39 rfl ?_
      refine mt_i2b dJ5_append_3fe6f_40 ?_
      refine mp_bastore dJ5_append_3fe6f_41 ((f17 (v2) (by omega)).trans B2) (by omega) (by omega) (fun h18 e19 f20 => ?_)
      refine mt_goto dJ5_append_3fe6f_42 (tgt := 75) rfl ?_
      refine mt_aload_n dJ5_append_3fe6f_75 rfl rfl ?_
      refine mt_areturn dJ5_append_3fe6f_76 rfl (by first | exact Or.inl ⟨_, rfl⟩ | exact Or.inr ⟨_, rfl⟩) rfl (Nat.le_of_ble_eq_true rfl) (Nat.le_of_ble_eq_true rfl) ?_
      exact ⟨rfl, by omega, ⟨c + 1, by omega, by omega, v2, cap2, _, ml2, (f20 (a) (by omega)).trans e16, e19, (hf2).u, by omega, c72, la2, lv2, ne2, an2, vn2⟩, fun j hj => (f20 j (by omega)).trans ((f17 j (by omega)).trans (c4d j (by omega)))⟩
abbrev rJ5_inflateIfNeededFor_a7421 : Room := { frames := 1, cells := 0, slots := 0, locals := 20 }
set_option maxRecDepth 100000 in
set_option maxHeartbeats 2000000 in
theorem kJ5_inflateIfNeededFor_a7421 {l : Launch} (hl : l.stackTraces = false) {h : mH} {n : Nat} {a v c : Nat} {ml : Int32} (E : h a = .inr (.inr (1, [.ref v, .int (nI 0), .int ml, .int (nI c)]))) : mC l mJ5_inflateIfNeededFor_a7421 rJ5_inflateIfNeededFor_a7421 [.ref a, .retAddr 1] h n (fun r h' n' => r = none ∧ h' = h ∧ n' = n) (mNX) := by
  refine mm_enter hl (by decide +kernel) rfl rfl rfl (Nat.le_of_ble_eq_true rfl) ?_
  show mT _ _ _ _ 0 [.ref a, .retAddr 1] [] _ _ 0 0
  refine mt_getsC dJ5_inflateIfNeededFor_a7421_0 mw_649 ?_
  refine mt_if_eq dJ5_inflateIfNeededFor_a7421_3 (tgt := 21) rfl (fun q1 => ?_) (fun q1 => ?_)
  · have q1 := (mI_eq0 (by omega)).mp q1
    exact absurd q1 (by decide)
  · have q1 := (not_congr (mI_eq0 (by omega))).mp q1
    refine mt_aload_n dJ5_inflateIfNeededFor_a7421_6 rfl rfl ?_
    refine mt_getfield mKJ4 (i := 1) (by decide) mw_659 dJ5_inflateIfNeededFor_a7421_7 E rfl ?_
    refine mt_aload_n dJ5_inflateIfNeededFor_a7421_10 rfl rfl ?_
    refine mt_callX (N := mJ0_coder_7d493) (Rc := rJ0_coder_7d493) (As := []) (st := [.int (nI 0)]) dJ5_inflateIfNeededFor_a7421_11 (kJ0_coder_7d493 hl) sJ0_coder_7d493 mw_866 rfl rfl (Nat.le_of_ble_eq_true rfl) ⟨⟨Nat.le_of_ble_eq_true rfl, Nat.le_of_ble_eq_true rfl⟩, Nat.le_of_ble_eq_true rfl, Nat.le_of_ble_eq_true rfl⟩ (fun v2 h3 n4 c5 => ?_) (fun _ _ _ hx => hx.elim)
    obtain ⟨c5a, c5b, c5c⟩ := c5
    rw [c5a, c5b, c5c]
    show mT _ _ _ _ 14 [.ref a, .retAddr 1] [.int (nI 0), .int (nI 0)] _ _ _ _
    refine mt_icmp_eq dJ5_inflateIfNeededFor_a7421_14 (tgt := 21) rfl (fun q6 => ?_) (fun q6 => ?_)
    · have q6 := (nI_eq (by omega) (by omega)).mp q6
      refine mt_return dJ5_inflateIfNeededFor_a7421_21 rfl (Nat.le_of_ble_eq_true rfl) (Nat.le_of_ble_eq_true rfl) ?_
      exact ⟨rfl, rfl, rfl⟩
    · have q6 := (not_congr (nI_eq (by omega) (by omega))).mp q6
      exact absurd q6 (by decide)
abbrev rJ0_getBytes_840e7 : Room := { frames := 1, cells := 0, slots := 0, locals := 30 }
set_option maxRecDepth 100000 in
set_option maxHeartbeats 2000000 in
theorem kJ0_getBytes_840e7 {l : Launch} (hl : l.stackTraces = false) {h : mH} {n : Nat} {v c cap : Nat} {f : Nat → Int32} (B : h v = .inl (1, cap, f)) (hf : bFit f) (q1 : c < cap) (c7 : cap ≤ 700) : mC l mJ0_getBytes_840e7 rJ0_getBytes_840e7 [.retAddr 1, .ref v, .int (nI c), .int (nI 0)] h n (fun r h' n' => r = none ∧ n' = n ∧ (∃ g, h' v = .inl (1, cap, g) ∧ bFit g) ∧ ∀ j, j ≠ v → h' j = h j) (mNX) := by
  refine mm_enter hl (by decide +kernel) rfl rfl rfl (Nat.le_of_ble_eq_true rfl) ?_
  show mT _ _ _ _ 0 [.retAddr 1, .ref v, .int (nI c), .int (nI 0)] [] _ _ 0 0
  refine mt_aload_n dJ0_getBytes_840e7_0 rfl rfl ?_
  refine mt_callX (N := mJ0_coder_7d493) (Rc := rJ0_coder_7d493) (As := []) (st := []) dJ0_getBytes_840e7_1 (kJ0_coder_7d493 hl) sJ0_coder_7d493 mw_853 rfl rfl (Nat.le_of_ble_eq_true rfl) ⟨⟨Nat.le_of_ble_eq_true rfl, Nat.le_of_ble_eq_true rfl⟩, Nat.le_of_ble_eq_true rfl, Nat.le_of_ble_eq_true rfl⟩ (fun v1 h2 n3 c4 => ?_) (fun _ _ _ hx => hx.elim)
  obtain ⟨c4a, c4b, c4c⟩ := c4
  rw [c4a, c4b, c4c]
  show mT _ _ _ _ 4 [.retAddr 1, .ref v, .int (nI c), .int (nI 0)] [.int (nI 0)] _ _ _ _
  refine mt_iload_n dJ0_getBytes_840e7_4 rfl ?_
  refine mt_icmp_ne dJ0_getBytes_840e7_5 (tgt := 28) rfl (fun q5 => ?_) (fun q5 => ?_)
  · have q5 := (not_congr (nI_eq (by omega) (by omega))).mp q5
    exact absurd q5 (by decide)
  · have q5 := (nI_eq (by omega) (by omega)).mp q5
    refine mt_aload_n dJ0_getBytes_840e7_8 rfl rfl ?_
    refine mt_xvalue dJ0_getBytes_840e7_9 mw_888 ?_
    refine mt_iconst dJ0_getBytes_840e7_12 (v := nI 0) rfl ?_
    refine mt_aload_n dJ0_getBytes_840e7_13 rfl rfl ?_
    refine mt_iload_n dJ0_getBytes_840e7_14 rfl ?_
    refine mt_iload_n dJ0_getBytes_840e7_15 rfl ?_
    refine mt_ishl0 dJ0_getBytes_840e7_16 ?_
    refine mt_aload_n dJ0_getBytes_840e7_17 rfl rfl ?_
    refine mt_xvalue dJ0_getBytes_840e7_18 mw_888 ?_
    refine mt_xlenB dJ0_getBytes_840e7_21 ?_
    refine mp_xcopy dJ0_getBytes_840e7_22 mw_871 mw_156 mw_155 mw_42 B hf (by omega) (by omega) (Nat.le_of_ble_eq_true rfl) ⟨Nat.le_of_ble_eq_true rfl, Nat.le_of_ble_eq_true rfl⟩ (fun g6 h8 b7 e9 f10 => ?_)
    refine mt_goto dJ0_getBytes_840e7_25 (tgt := 43) rfl ?_
    refine mt_return dJ0_getBytes_840e7_43 rfl (Nat.le_of_ble_eq_true rfl) (Nat.le_of_ble_eq_true rfl) ?_
    exact ⟨rfl, rfl, ⟨_, e9, b7⟩, fun j hj => f10 j (by omega)⟩
abbrev rJ5_putStringAt_47b60 : Room := { frames := 2, cells := 0, slots := 0, locals := 53 }
set_option maxRecDepth 100000 in
set_option maxHeartbeats 2000000 in
theorem kJ5_putStringAt_47b60 {l : Launch} (hl : l.stackTraces = false) {h : mH} {n : Nat} {a v c i cap : Nat} {ml : Int32} {f : Nat → Int32} (E : h a = .inr (.inr (1, [.ref v, .int (nI 0), .int ml, .int (nI c)]))) (B : h v = .inl (1, cap, f)) (hf : bFit f) (ne : a ≠ v) (q1 : i < cap) (c7 : cap ≤ 700) : mC l mJ5_putStringAt_47b60 rJ5_putStringAt_47b60 [.ref a, .int (nI i), .retAddr 1] h n (fun r h' n' => r = none ∧ n' = n ∧ (∃ g, h' v = .inl (1, cap, g) ∧ bFit g) ∧ ∀ j, j ≠ v → h' j = h j) (mNX) := by
  refine mm_enter hl (by decide +kernel) rfl rfl rfl (Nat.le_of_ble_eq_true rfl) ?_
  show mT _ _ _ _ 0 [.ref a, .int (nI i), .retAddr 1] [] _ _ 0 0
  refine mt_aload_n dJ5_putStringAt_47b60_0 rfl rfl ?_
  refine mt_aload_n dJ5_putStringAt_47b60_1 rfl rfl ?_
  refine mt_callU (N := mJ5_inflateIfNeededFor_a7421) (Rc := rJ5_inflateIfNeededFor_a7421) (As := [.retAddr 1]) (st := []) dJ5_putStringAt_47b60_2 (kJ5_inflateIfNeededFor_a7421 hl E) uJ5_inflateIfNeededFor_a7421 mw_1384 mw_862 mKJ4 E rfl (Nat.le_of_ble_eq_true rfl) ⟨⟨Nat.le_of_ble_eq_true rfl, Nat.le_of_ble_eq_true rfl⟩, Nat.le_of_ble_eq_true rfl, Nat.le_of_ble_eq_true rfl⟩ (fun v1 h2 n3 c4 => ?_) (fun _ _ _ hx => hx.elim)
  obtain ⟨c4a, c4b, c4c⟩ := c4
  rw [c4a, c4b, c4c]
  show mT _ _ _ _ 5 [.ref a, .int (nI i), .retAddr 1] [] _ _ _ _
  refine mt_aload_n dJ5_putStringAt_47b60_5 rfl rfl ?_
  refine mt_aload_n dJ5_putStringAt_47b60_6 rfl rfl ?_
  refine mt_getfield mKJ4 (i := 0) (by decide) mw_658 dJ5_putStringAt_47b60_7 E rfl ?_
  refine mt_iload_n dJ5_putStringAt_47b60_10 rfl ?_
  refine mt_aload_n dJ5_putStringAt_47b60_11 rfl rfl ?_
  refine mt_getfield mKJ4 (i := 1) (by decide) mw_659 dJ5_putStringAt_47b60_12 E rfl ?_
  refine mt_callX (N := mJ0_getBytes_840e7) (Rc := rJ0_getBytes_840e7) (As := [.ref v, .int (nI i), .int (nI 0)]) (st := []) dJ5_putStringAt_47b60_15 (kJ0_getBytes_840e7 hl B hf (by omega) (by omega)) sJ0_getBytes_840e7 mw_867 rfl rfl (Nat.le_of_ble_eq_true rfl) ⟨⟨Nat.le_of_ble_eq_true rfl, Nat.le_of_ble_eq_true rfl⟩, Nat.le_of_ble_eq_true rfl, Nat.le_of_ble_eq_true rfl⟩ (fun v5 h6 n7 c8 => ?_) (fun _ _ _ hx => hx.elim)
  obtain ⟨c8a, c8b, ⟨gc8, c8c, c8d⟩, c8e⟩ := c8
  rw [c8a, c8b]
  show mT _ _ _ _ 18 [.ref a, .int (nI i), .retAddr 1] [] _ _ _ _
  refine mt_return dJ5_putStringAt_47b60_18 rfl (Nat.le_of_ble_eq_true rfl) (Nat.le_of_ble_eq_true rfl) ?_
  exact ⟨rfl, rfl, ⟨_, c8c, c8d⟩, fun j hj => c8e j (by omega)⟩
abbrev rJ5_append_cf1ce : Room := { frames := 4, cells := 1, slots := 700, locals := 100 }
set_option maxRecDepth 100000 in
set_option maxHeartbeats 2000000 in
theorem kJ5_append_cf1ce {l : Launch} (hl : l.stackTraces = false) {h : mH} {n : Nat} {lo a c : Nat} (A : sbA h lo n a c c) (q2 : c ≤ 280) : mC l mJ5_append_cf1ce rJ5_append_cf1ce [.ref a, .retAddr 1] h n (fun r h' n' => r = some (.ref a) ∧ n ≤ n' ∧ (∃ c', c ≤ c' ∧ c' ≤ c + 1 ∧ sbA h' lo n' a c' c') ∧ ∀ j, j < lo → h' j = h j) (mNX) := by
  obtain ⟨v, cap, f, ml, E, B, hf, ck, c7, la, lv, ne, an, vn⟩ := id A
  refine mm_enter hl (by decide +kernel) rfl rfl rfl (Nat.le_of_ble_eq_true rfl) ?_
  show mT _ _ _ _ 0 [.ref a, .retAddr 1, .double 0] [] _ _ 0 0
  refine mt_aload_n dJ5_append_cf1ce_0 rfl rfl ?_
  refine mt_ifnonnullX dJ5_append_cf1ce_1 (tgt := 9) rfl ?_
  refine mt_aload_n dJ5_append_cf1ce_9 rfl rfl ?_
  refine mt_callX (N := mJ0_length_8abf5) (Rc := rJ0_length_8abf5) (As := []) (st := []) dJ5_append_cf1ce_10 (kJ0_length_8abf5 hl) sJ0_length_8abf5 mw_849 rfl rfl (Nat.le_of_ble_eq_true rfl) ⟨⟨Nat.le_of_ble_eq_true rfl, Nat.le_of_ble_eq_true rfl⟩, Nat.le_of_ble_eq_true rfl, Nat.le_of_ble_eq_true rfl⟩ (fun v1 h2 n3 c4 => ?_) (fun _ _ _ hx => hx.elim)
  obtain ⟨c4a, c4b, c4c⟩ := c4
  rw [c4a, c4b, c4c]
  show mT _ _ _ _ 13 [.ref a, .retAddr 1, .double 0] [.int (nI 1)] _ _ _ _
  refine mp_istore_n dJ5_append_cf1ce_13 (ls' := [.ref a, .retAddr 1, .int (nI 1)]) rfl (by decide) rfl ?_
  refine mt_aload_n dJ5_append_cf1ce_14 rfl rfl ?_
  refine mt_aload_n dJ5_append_cf1ce_15 rfl rfl ?_
  refine mt_getfield mKJ4 (i := 3) (by decide) mw_661 dJ5_append_cf1ce_16 E rfl ?_
  refine mt_iload_n dJ5_append_cf1ce_19 rfl ?_
  refine mp_iadd dJ5_append_cf1ce_20 (v := nI (c + 1)) (nI_add _ _) ?_
  refine mt_callU (N := mJ5_ensureCapacityInternal_d00df) (Rc := rJ5_ensureCapacityInternal_d00df) (As := [.int (nI (c + 1))]) (st := []) dJ5_append_cf1ce_21 (kJ5_ensureCapacityInternal_d00df hl A (by omega)) uJ5_ensureCapacityInternal_d00df mw_1381 mw_678 mKJ4 E rfl (Nat.le_of_ble_eq_true rfl) ⟨⟨Nat.le_of_ble_eq_true rfl, Nat.le_of_ble_eq_true rfl⟩, Nat.le_of_ble_eq_true rfl, Nat.le_of_ble_eq_true rfl⟩ (fun v5 h6 n7 c8 => ?_) (fun _ _ _ hx => hx.elim)
  obtain ⟨c8a, c8b, ⟨v2, cap2, f2, ml2, E2, B2, hf2, ck2, c72, la2, lv2, ne2, an2, vn2⟩, c8d⟩ := c8
  rw [c8a]
  show mT _ _ _ _ 24 [.ref a, .retAddr 1, .int (nI 1)] [] _ _ _ _
  refine mt_aload_n dJ5_append_cf1ce_24 rfl rfl ?_
  refine mt_aload_n dJ5_append_cf1ce_25 rfl rfl ?_
  refine mt_getfield mKJ4 (i := 3) (by decide) mw_661 dJ5_append_cf1ce_26 E2 rfl ?_
  refine mt_aload_n dJ5_append_cf1ce_29 rfl rfl ?_
  refine mt_callU (N := mJ5_putStringAt_47b60) (Rc := rJ5_putStringAt_47b60) (As := [.int (nI c), .retAddr 1]) (st := []) dJ5_append_cf1ce_30 (kJ5_putStringAt_47b60 hl E2 B2 hf2 (by omega) (by omega) (by omega)) uJ5_putStringAt_47b60 mw_1383 mw_858 mKJ4 E2 rfl (Nat.le_of_ble_eq_true rfl) ⟨⟨Nat.le_of_ble_eq_true rfl, Nat.le_of_ble_eq_true rfl⟩, Nat.le_of_ble_eq_true rfl, Nat.le_of_ble_eq_true rfl⟩ (fun v9 h10 n11 c12 => ?_) (fun _ _ _ hx => hx.elim)
  obtain ⟨c12a, c12b, ⟨gc12, c12c, c12d⟩, c12e⟩ := c12
  rw [c12a, c12b]
  show mT _ _ _ _ 33 [.ref a, .retAddr 1, .int (nI 1)] [] _ _ _ _
  refine mt_aload_n dJ5_append_cf1ce_33 rfl rfl ?_
  refine mt_dup dJ5_append_cf1ce_34 rfl ?_
  refine mt_getfield mKJ4 (i := 3) (by decide) mw_661 dJ5_append_cf1ce_35 ((c12e (a) (by omega)).trans E2) rfl ?_
  refine mt_iload_n dJ5_append_cf1ce_38 rfl ?_
  refine mp_iadd dJ5_append_cf1ce_39 (v := nI (c + 1)) (nI_add _ _) ?_
  refine mp_putfield mKJ4 (i := 3) (fs' := [.ref v2, .int (nI 0), .int ml2, .int (nI (c + 1))]) (by decide) mw_661 rfl dJ5_append_cf1ce_40 ((c12e (a) (by omega)).trans E2) (Nat.le_of_ble_eq_true rfl) rfl rfl (fun h13 e14 f15 => ?_)
  refine mt_aload_n dJ5_append_cf1ce_43 rfl rfl ?_
  refine mt_areturn dJ5_append_cf1ce_44 rfl (by first | exact Or.inl ⟨_, rfl⟩ | exact Or.inr ⟨_, rfl⟩) rfl (Nat.le_of_ble_eq_true rfl) (Nat.le_of_ble_eq_true rfl) ?_
  exact ⟨rfl, by omega, ⟨c + 1, by omega, by omega, v2, cap2, _, ml2, e14, (f15 (v2) (by omega)).trans c12c, c12d, by omega, c72, la2, lv2, ne2, an2, vn2⟩, fun j hj => (f15 j (by omega)).trans ((c12e j (by omega)).trans (c8d j (by omega)))⟩
abbrev rJ4_append_bf812 : Room := { frames := 5, cells := 1, slots := 700, locals := 123 }
set_option maxRecDepth 100000 in
set_option maxHeartbeats 2000000 in
theorem kJ4_append_bf812 {l : Launch} (hl : l.stackTraces = false) {h : mH} {n : Nat} {lo a c : Nat} {x : Int32} (A : sbA h lo n a c c) (q2 : c ≤ 280) : mC l mJ4_append_bf812 rJ4_append_bf812 [.ref a, .int x] h n (fun r h' n' => r = some (.ref a) ∧ n ≤ n' ∧ (∃ c', c ≤ c' ∧ c' ≤ c + 11 ∧ sbA h' lo n' a c' c') ∧ ∀ j, j < lo → h' j = h j) (mNX) := by
  obtain ⟨v, cap, f, ml, E, B, hf, ck, c7, la, lv, ne, an, vn⟩ := id A
  refine mm_enter hl (by decide +kernel) rfl rfl rfl (Nat.le_of_ble_eq_true rfl) ?_
  show mT _ _ _ _ 0 [.ref a, .int x] [] _ _ 0 0
  refine mt_aload_n dJ4_append_bf812_0 rfl rfl ?_
  refine mt_iload_n dJ4_append_bf812_1 rfl ?_
  refine mt_callSU (N := mJ5_append_c97b9) (Rc := rJ5_append_c97b9) (As := [.int x]) (st := []) dJ4_append_bf812_2 (kJ5_append_c97b9 hl A (by omega)) uJ5_append_c97b9 (by decide) mw_764 mw_1376 mw_670 mKJ4 E rfl (Nat.le_of_ble_eq_true rfl) ⟨⟨Nat.le_of_ble_eq_true rfl, Nat.le_of_ble_eq_true rfl⟩, Nat.le_of_ble_eq_true rfl, Nat.le_of_ble_eq_true rfl⟩ (fun v1 h2 n3 c4 => ?_) (fun _ _ _ hx => hx.elim)
  obtain ⟨c4a, c4b, ⟨cc4, c4c, c4d, Ac4⟩, c4e⟩ := c4
  rw [c4a]
  obtain ⟨vz5, cz5, fz5, mz5, ez5, -⟩ := id Ac4
  show mT _ _ _ _ 5 [.ref a, .int x] [.ref a] _ _ _ _
  refine mt_pop dJ4_append_bf812_5 rfl ?_
  refine mt_aload_n dJ4_append_bf812_6 rfl rfl ?_
  refine mt_areturn dJ4_append_bf812_7 rfl (by first | exact Or.inl ⟨_, rfl⟩ | exact Or.inr ⟨_, rfl⟩) rfl (Nat.le_of_ble_eq_true rfl) (Nat.le_of_ble_eq_true rfl) ?_
  exact ⟨rfl, c4b, ⟨cc4, c4c, c4d, Ac4⟩, c4e⟩
abbrev rJ4_append_cf468 : Room := { frames := 5, cells := 1, slots := 700, locals := 121 }
set_option maxRecDepth 100000 in
set_option maxHeartbeats 2000000 in
theorem kJ4_append_cf468 {l : Launch} (hl : l.stackTraces = false) {h : mH} {n : Nat} {lo a c : Nat} (A : sbA h lo n a c c) (q2 : c ≤ 280) : mC l mJ4_append_cf468 rJ4_append_cf468 [.ref a, .int (nI 32)] h n (fun r h' n' => r = some (.ref a) ∧ n ≤ n' ∧ (∃ c', c ≤ c' ∧ c' ≤ c + 1 ∧ sbA h' lo n' a c' c') ∧ ∀ j, j < lo → h' j = h j) (mNX) := by
  obtain ⟨v, cap, f, ml, E, B, hf, ck, c7, la, lv, ne, an, vn⟩ := id A
  refine mm_enter hl (by decide +kernel) rfl rfl rfl (Nat.le_of_ble_eq_true rfl) ?_
  show mT _ _ _ _ 0 [.ref a, .int (nI 32)] [] _ _ 0 0
  refine mt_aload_n dJ4_append_cf468_0 rfl rfl ?_
  refine mt_iload_n dJ4_append_cf468_1 rfl ?_
  refine mt_callSU (N := mJ5_append_3fe6f) (Rc := rJ5_append_3fe6f) (As := [.int (nI 32)]) (st := []) dJ4_append_cf468_2 (kJ5_append_3fe6f hl A (by omega)) uJ5_append_3fe6f (by decide) mw_675 mw_1372 mw_670 mKJ4 E rfl (Nat.le_of_ble_eq_true rfl) ⟨⟨Nat.le_of_ble_eq_true rfl, Nat.le_of_ble_eq_true rfl⟩, Nat.le_of_ble_eq_true rfl, Nat.le_of_ble_eq_true rfl⟩ (fun v1 h2 n3 c4 => ?_) (fun _ _ _ hx => hx.elim)
  obtain ⟨c4a, c4b, ⟨cc4, c4c, c4d, Ac4⟩, c4e⟩ := c4
  rw [c4a]
  obtain ⟨vz5, cz5, fz5, mz5, ez5, -⟩ := id Ac4
  show mT _ _ _ _ 5 [.ref a, .int (nI 32)] [.ref a] _ _ _ _
  refine mt_pop dJ4_append_cf468_5 rfl ?_
  refine mt_aload_n dJ4_append_cf468_6 rfl rfl ?_
  refine mt_areturn dJ4_append_cf468_7 rfl (by first | exact Or.inl ⟨_, rfl⟩ | exact Or.inr ⟨_, rfl⟩) rfl (Nat.le_of_ble_eq_true rfl) (Nat.le_of_ble_eq_true rfl) ?_
  exact ⟨rfl, c4b, ⟨cc4, c4c, c4d, Ac4⟩, c4e⟩
abbrev rJ4_append_15ec4 : Room := { frames := 5, cells := 1, slots := 700, locals := 122 }
set_option maxRecDepth 100000 in
set_option maxHeartbeats 2000000 in
theorem kJ4_append_15ec4 {l : Launch} (hl : l.stackTraces = false) {h : mH} {n : Nat} {lo a c : Nat} (A : sbA h lo n a c c) (q2 : c ≤ 280) : mC l mJ4_append_15ec4 rJ4_append_15ec4 [.ref a, .retAddr 1] h n (fun r h' n' => r = some (.ref a) ∧ n ≤ n' ∧ (∃ c', c ≤ c' ∧ c' ≤ c + 1 ∧ sbA h' lo n' a c' c') ∧ ∀ j, j < lo → h' j = h j) (mNX) := by
  obtain ⟨v, cap, f, ml, E, B, hf, ck, c7, la, lv, ne, an, vn⟩ := id A
  refine mm_enter hl (by decide +kernel) rfl rfl rfl (Nat.le_of_ble_eq_true rfl) ?_
  show mT _ _ _ _ 0 [.ref a, .retAddr 1] [] _ _ 0 0
  refine mt_aload_n dJ4_append_15ec4_0 rfl rfl ?_
  refine mt_aload_n dJ4_append_15ec4_1 rfl rfl ?_
  refine mt_callSU (N := mJ5_append_cf1ce) (Rc := rJ5_append_cf1ce) (As := [.retAddr 1]) (st := []) dJ4_append_15ec4_2 (kJ5_append_cf1ce hl A (by omega)) uJ5_append_cf1ce (by decide) mw_839 mw_1377 mw_670 mKJ4 E rfl (Nat.le_of_ble_eq_true rfl) ⟨⟨Nat.le_of_ble_eq_true rfl, Nat.le_of_ble_eq_true rfl⟩, Nat.le_of_ble_eq_true rfl, Nat.le_of_ble_eq_true rfl⟩ (fun v1 h2 n3 c4 => ?_) (fun _ _ _ hx => hx.elim)
  obtain ⟨c4a, c4b, ⟨cc4, c4c, c4d, Ac4⟩, c4e⟩ := c4
  rw [c4a]
  obtain ⟨vz5, cz5, fz5, mz5, ez5, -⟩ := id Ac4
  show mT _ _ _ _ 5 [.ref a, .retAddr 1] [.ref a] _ _ _ _
  refine mt_pop dJ4_append_15ec4_5 rfl ?_
  refine mt_aload_n dJ4_append_15ec4_6 rfl rfl ?_
  refine mt_areturn dJ4_append_15ec4_7 rfl (by first | exact Or.inl ⟨_, rfl⟩ | exact Or.inr ⟨_, rfl⟩) rfl (Nat.le_of_ble_eq_true rfl) (Nat.le_of_ble_eq_true rfl) ?_
  exact ⟨rfl, c4b, ⟨cc4, c4c, c4d, Ac4⟩, c4e⟩
abbrev rJ5_init_d00df : Room := { frames := 1, cells := 1, slots := 16, locals := 30 }
set_option maxRecDepth 100000 in
set_option maxHeartbeats 2000000 in
theorem kJ5_init_d00df {l : Launch} (hl : l.stackTraces = false) {h : mH} {n : Nat} {a : Nat} (E : h a = .inr (.inr (1, [.null, .int (nI 0), .int (nI 0), .int (nI 0)]))) (an : a < n) : mC l mJ5_init_d00df rJ5_init_d00df [.ref a, .int (nI 16)] h n (fun r h' n' => r = none ∧ n ≤ n' ∧ sbA h' a n' a 0 0 ∧ ∀ j, j < a → h' j = h j) (mNX) := by
  refine mm_enter hl (by decide +kernel) rfl rfl rfl (Nat.le_of_ble_eq_true rfl) ?_
  show mT _ _ _ _ 0 [.ref a, .int (nI 16)] [] _ _ 0 0
  refine mt_aload_n dJ5_init_d00df_0 rfl rfl ?_
  refine mt_objInit dJ5_init_d00df_1 mw_648 mw_58 mw_59 (Nat.le_of_ble_eq_true rfl) ⟨Nat.le_of_ble_eq_true rfl, Nat.le_of_ble_eq_true rfl⟩ ?_
  refine mt_getsC dJ5_init_d00df_4 mw_649 ?_
  refine mt_if_eq dJ5_init_d00df_7 (tgt := 25) rfl (fun q1 => ?_) (fun q1 => ?_)
  · have q1 := (mI_eq0 (by omega)).mp q1
    exact absurd q1 (by decide)
  · have q1 := (not_congr (mI_eq0 (by omega))).mp q1
    refine mt_aload_n dJ5_init_d00df_10 rfl rfl ?_
    refine mt_iload_n dJ5_init_d00df_11 rfl ?_
    refine mp_newarrayB dJ5_init_d00df_12 mw_300 (by omega) (Nat.le_of_ble_eq_true rfl) (Nat.le_of_ble_eq_true rfl) (fun h2 e3 f4 => ?_)
    refine mp_putfield mKJ4 (i := 0) (fs' := [.ref n, .int (nI 0), .int (nI 0), .int (nI 0)]) (by decide) mw_658 rfl dJ5_init_d00df_14 ((f4 (a) (by omega)).trans E) (Nat.le_of_ble_eq_true rfl) rfl rfl (fun h5 e6 f7 => ?_)
    refine mt_aload_n dJ5_init_d00df_17 rfl rfl ?_
    refine mt_iconst dJ5_init_d00df_18 (v := nI 0) rfl ?_
    refine mp_putI mKJ4 (i := 1) (fs' := [.ref n, .int (nI 0), .int (nI 0), .int (nI 0)]) (by decide) mw_659 rfl dJ5_init_d00df_19 e6 (Nat.le_of_ble_eq_true rfl) rfl rfl rfl (fun h8 e9 f10 => ?_)
    refine mt_goto dJ5_init_d00df_22 (tgt := 38) rfl ?_
    refine mt_return dJ5_init_d00df_38 rfl (Nat.le_of_ble_eq_true rfl) (Nat.le_of_ble_eq_true rfl) ?_
    exact ⟨rfl, by omega, ⟨n, 16, _, nI 0, e9, (f10 (n) (by omega)).trans ((f7 (n) (by omega)).trans e3), bFit0, by omega, by omega, Nat.le_refl _, by omega, by omega, by omega, by omega⟩, fun j hj => (f10 j (by omega)).trans ((f7 j (by omega)).trans (f4 j (by omega)))⟩
abbrev rJ4_init_da8c8 : Room := { frames := 2, cells := 1, slots := 16, locals := 51 }
set_option maxRecDepth 100000 in
set_option maxHeartbeats 2000000 in
theorem kJ4_init_da8c8 {l : Launch} (hl : l.stackTraces = false) {h : mH} {n : Nat} {a : Nat} (E : h a = .inr (.inr (1, [.null, .int (nI 0), .int (nI 0), .int (nI 0)]))) (an : a < n) : mC l mJ4_init_da8c8 rJ4_init_da8c8 [.ref a] h n (fun r h' n' => r = none ∧ n ≤ n' ∧ sbA h' a n' a 0 0 ∧ ∀ j, j < a → h' j = h j) (mNX) := by
  refine mm_enter hl (by decide +kernel) rfl rfl rfl (Nat.le_of_ble_eq_true rfl) ?_
  show mT _ _ _ _ 0 [.ref a] [] _ _ 0 0
  refine mt_aload_n dJ4_init_da8c8_0 rfl rfl ?_
  refine mt_bipush dJ4_init_da8c8_1 (v := nI 16) (by decide) ?_
  refine mt_callI (N := mJ5_init_d00df) (Rc := rJ5_init_d00df) (As := [.int (nI 16)]) (st := []) dJ4_init_da8c8_3 (kJ5_init_d00df hl E (by omega)) sJ5_init_d00df mw_645 rfl (Nat.le_of_ble_eq_true rfl) ⟨⟨Nat.le_of_ble_eq_true rfl, Nat.le_of_ble_eq_true rfl⟩, Nat.le_of_ble_eq_true rfl, Nat.le_of_ble_eq_true rfl⟩ (fun v1 h2 n3 c4 => ?_)
  obtain ⟨c4a, c4b, c4c, c4d⟩ := c4
  rw [c4a]
  obtain ⟨vz5, cz5, fz5, mz5, ez5, -⟩ := id c4c
  show mT _ _ _ _ 6 [.ref a] [] _ _ _ _
  refine mt_return dJ4_init_da8c8_6 rfl (Nat.le_of_ble_eq_true rfl) (Nat.le_of_ble_eq_true rfl) ?_
  exact ⟨rfl, c4b, c4c, c4d⟩
abbrev rJ7_checkLength_df160 : Room := { frames := 0, cells := 0, slots := 0, locals := 0 }
set_option maxRecDepth 100000 in
set_option maxHeartbeats 2000000 in
theorem kJ7_checkLength_df160 {l : Launch} (hl : l.stackTraces = false) {h : mH} {n : Nat} {c : Nat} (c7 : c ≤ 700) : mC l mJ7_checkLength_df160 rJ7_checkLength_df160 [.int (nI 0), .int (nI c)] h n (fun r h' n' => r = none ∧ h' = h ∧ n' = n) (mNX) := by
  refine mm_enter hl (by decide +kernel) rfl rfl rfl (Nat.le_of_ble_eq_true rfl) ?_
  show mT _ _ _ _ 0 [.int (nI 0), .int (nI c)] [] _ _ 0 0
  refine mt_iload_n dJ7_checkLength_df160_0 rfl ?_
  refine mt_iload_n dJ7_checkLength_df160_1 rfl ?_
  refine mt_icmp_ge dJ7_checkLength_df160_2 (tgt := 37) rfl (fun q1 => ?_) (fun q1 => ?_)
  · have q1 := Int32.not_lt.mpr q1
    have q1 := (not_congr (nI_ltI (by omega) (by omega))).mp q1
    refine mt_return dJ7_checkLength_df160_37 rfl (Nat.le_of_ble_eq_true rfl) (Nat.le_of_ble_eq_true rfl) ?_
    exact ⟨rfl, rfl, rfl⟩
  · have q1 := Int32.not_le.mp q1
    have q1 := (nI_ltI (by omega) (by omega)).mp q1
    exfalso
    omega
abbrev rJ7_copyOfRangeByte_39247 : Room := { frames := 1, cells := 1, slots := 700, locals := 30 }
set_option maxRecDepth 100000 in
set_option maxHeartbeats 2000000 in
theorem kJ7_copyOfRangeByte_39247 {l : Launch} (hl : l.stackTraces = false) {h : mH} {n : Nat} {v c cap : Nat} {f : Nat → Int32} (B : h v = .inl (1, cap, f)) (hf : bFit f) (hv : v < n) (ck : c ≤ cap) (c7 : cap ≤ 700) : mC l mJ7_copyOfRangeByte_39247 rJ7_copyOfRangeByte_39247 [.ref v, .int (nI 0), .int (nI c)] h n (fun r h' n' => r = some (.ref n) ∧ n' = n + 1 ∧ ∀ j, j ≠ n → h' j = h j) (mNX) := by
  refine mm_enter hl (by decide +kernel) rfl rfl rfl (Nat.le_of_ble_eq_true rfl) ?_
  show mT _ _ _ _ 0 [.ref v, .int (nI 0), .int (nI c), .double 0, .double 0] [] _ _ 0 0
  refine mt_iload_n dJ7_copyOfRangeByte_39247_0 rfl ?_
  refine mt_iload_n dJ7_copyOfRangeByte_39247_1 rfl ?_
  refine mt_callS (N := mJ7_checkLength_df160) (Rc := rJ7_checkLength_df160) (As := [.int (nI 0), .int (nI c)]) (st := []) dJ7_copyOfRangeByte_39247_2 (kJ7_checkLength_df160 hl (by omega)) sJ7_checkLength_df160 mw_827 rfl (Nat.le_of_ble_eq_true rfl) ⟨⟨Nat.le_of_ble_eq_true rfl, Nat.le_of_ble_eq_true rfl⟩, Nat.le_of_ble_eq_true rfl, Nat.le_of_ble_eq_true rfl⟩ (fun v1 h2 n3 c4 => ?_) (fun _ _ _ hx => hx.elim)
  obtain ⟨c4a, c4b, c4c⟩ := c4
  rw [c4a, c4b, c4c]
  show mT _ _ _ _ 5 [.ref v, .int (nI 0), .int (nI c), .double 0, .double 0] [] _ _ _ _
  refine mt_iload_n dJ7_copyOfRangeByte_39247_5 rfl ?_
  refine mt_iload_n dJ7_copyOfRangeByte_39247_6 rfl ?_
  refine mp_isub dJ7_copyOfRangeByte_39247_7 (v := nI (c - 0)) (pk_sub (by omega)) ?_
  refine mp_istore_n dJ7_copyOfRangeByte_39247_8 (ls' := [.ref v, .int (nI 0), .int (nI c), .int (nI (c - 0)), .double 0]) rfl (by decide) rfl ?_
  refine mt_iload_n dJ7_copyOfRangeByte_39247_9 rfl ?_
  refine mp_newarrayB dJ7_copyOfRangeByte_39247_10 mw_300 (by omega) (by simp only [rJ7_copyOfRangeByte_39247]; omega) (by simp only [rJ7_copyOfRangeByte_39247]; omega) (fun h5 e6 f7 => ?_)
  refine mp_astore dJ7_copyOfRangeByte_39247_12 (ls' := [.ref v, .int (nI 0), .int (nI c), .int (nI (c - 0)), .ref n]) rfl rfl (by decide) rfl ?_
  refine mt_aload_n dJ7_copyOfRangeByte_39247_14 rfl rfl ?_
  refine mt_iload_n dJ7_copyOfRangeByte_39247_15 rfl ?_
  refine mt_aload dJ7_copyOfRangeByte_39247_16 rfl rfl ?_
  refine mt_iconst dJ7_copyOfRangeByte_39247_18 (v := nI 0) rfl ?_
  refine mt_aload_n dJ7_copyOfRangeByte_39247_19 rfl rfl ?_
  refine mt_alen dJ7_copyOfRangeByte_39247_20 ((f7 (v) (by omega)).trans B) (by decide) ?_
  refine mt_iload_n dJ7_copyOfRangeByte_39247_21 rfl ?_
  refine mp_isub dJ7_copyOfRangeByte_39247_22 (v := nI (cap - 0)) (pk_sub (by omega)) ?_
  refine mt_iload_n dJ7_copyOfRangeByte_39247_23 rfl ?_
  refine mt_mmin dJ7_copyOfRangeByte_39247_24 mw_705 mw_152 mw_41 (mw_min) (Nat.le_of_ble_eq_true rfl) ⟨Nat.le_of_ble_eq_true rfl, Nat.le_of_ble_eq_true rfl⟩ (by simp only [rJ7_copyOfRangeByte_39247]; omega) (by simp only [rJ7_copyOfRangeByte_39247]; omega) (v := nI (min (cap - 0) (c - 0))) (mI_min (by omega) (by omega)) ?_
  refine mp_acopyB dJ7_copyOfRangeByte_39247_27 mw_706 mw_156 mw_155 mw_42 ((f7 (v) (by omega)).trans B) e6 hf (by omega) (by omega) (by omega) (by omega) (Nat.le_of_ble_eq_true rfl) ⟨Nat.le_of_ble_eq_true rfl, Nat.le_of_ble_eq_true rfl⟩ (fun h8 e9 f10 => ?_)
  refine mt_aload dJ7_copyOfRangeByte_39247_30 rfl rfl ?_
  refine mt_areturn dJ7_copyOfRangeByte_39247_32 rfl (by first | exact Or.inl ⟨_, rfl⟩ | exact Or.inr ⟨_, rfl⟩) rfl (by simp only [rJ7_copyOfRangeByte_39247]; omega) (by simp only [rJ7_copyOfRangeByte_39247]; omega) ?_
  exact ⟨rfl, rfl, fun j hj => (f10 j (by omega)).trans (f7 j (by omega))⟩
abbrev rJ7_copyOfRange_39247 : Room := { frames := 2, cells := 1, slots := 700, locals := 54 }
set_option maxRecDepth 100000 in
set_option maxHeartbeats 2000000 in
theorem kJ7_copyOfRange_39247 {l : Launch} (hl : l.stackTraces = false) {h : mH} {n : Nat} {v c cap : Nat} {f : Nat → Int32} (B : h v = .inl (1, cap, f)) (hf : bFit f) (hv : v < n) (ck : c ≤ cap) (c7 : cap ≤ 700) : mC l mJ7_copyOfRange_39247 rJ7_copyOfRange_39247 [.ref v, .int (nI 0), .int (nI c)] h n (fun r h' n' => r = some (.ref n) ∧ n' = n + 1 ∧ ∀ j, j ≠ n → h' j = h j) (mNX) := by
  refine mm_enter hl (by decide +kernel) rfl rfl rfl (Nat.le_of_ble_eq_true rfl) ?_
  show mT _ _ _ _ 0 [.ref v, .int (nI 0), .int (nI c)] [] _ _ 0 0
  refine mt_iload_n dJ7_copyOfRange_39247_0 rfl ?_
  refine mt_if_ne dJ7_copyOfRange_39247_1 (tgt := 10) rfl (fun q1 => ?_) (fun q1 => ?_)
  · have q1 := (not_congr (mI_eq0 (by omega))).mp q1
    exact absurd q1 (by decide)
  · have q1 := (mI_eq0 (by omega)).mp q1
    refine mt_iload_n dJ7_copyOfRange_39247_4 rfl ?_
    refine mt_aload_n dJ7_copyOfRange_39247_5 rfl rfl ?_
    refine mt_alen dJ7_copyOfRange_39247_6 B (by decide) ?_
    refine mt_icmp_eq dJ7_copyOfRange_39247_7 (tgt := 17) rfl (fun q2 => ?_) (fun q2 => ?_)
    · have q2 := (nI_eq (by omega) (by omega)).mp q2
      refine mt_aload_n dJ7_copyOfRange_39247_17 rfl rfl ?_
      refine mp_cloneB dJ7_copyOfRange_39247_18 mw_698 B hf (Nat.le_of_ble_eq_true rfl) ⟨Nat.le_of_ble_eq_true rfl, Nat.le_of_ble_eq_true rfl⟩ (by simp only [rJ7_copyOfRange_39247]; omega) (by simp only [rJ7_copyOfRange_39247]; omega) (fun h3 e4 f5 => ?_)
      refine mt_castB dJ7_copyOfRange_39247_21 mw_704 e4 ?_
      refine mt_areturn dJ7_copyOfRange_39247_24 rfl (by first | exact Or.inl ⟨_, rfl⟩ | exact Or.inr ⟨_, rfl⟩) rfl (by simp only [rJ7_copyOfRange_39247]; omega) (by simp only [rJ7_copyOfRange_39247]; omega) ?_
      exact ⟨rfl, rfl, fun j hj => f5 j (by omega)⟩
    · have q2 := (not_congr (nI_eq (by omega) (by omega))).mp q2
      refine mt_aload_n dJ7_copyOfRange_39247_10 rfl rfl ?_
      refine mt_iload_n dJ7_copyOfRange_39247_11 rfl ?_
      refine mt_iload_n dJ7_copyOfRange_39247_12 rfl ?_
      refine mt_callS (N := mJ7_copyOfRangeByte_39247) (Rc := rJ7_copyOfRangeByte_39247) (As := [.ref v, .int (nI 0), .int (nI c)]) (st := []) dJ7_copyOfRange_39247_13 (kJ7_copyOfRangeByte_39247 hl B hf hv ck c7) sJ7_copyOfRangeByte_39247 mw_824 rfl (Nat.le_of_ble_eq_true rfl) ⟨⟨Nat.le_of_ble_eq_true rfl, Nat.le_of_ble_eq_true rfl⟩, Nat.le_of_ble_eq_true rfl, Nat.le_of_ble_eq_true rfl⟩ (fun v6 h7 n8 c9 => ?_) (fun _ _ _ hx => hx.elim)
      obtain ⟨c9a, c9b, c9e⟩ := c9
      rw [c9a, c9b]
      show mT _ _ _ _ 16 [.ref v, .int (nI 0), .int (nI c)] [.ref n] _ _ _ _
      refine mt_areturn dJ7_copyOfRange_39247_16 rfl (by first | exact Or.inl ⟨_, rfl⟩ | exact Or.inr ⟨_, rfl⟩) rfl (Nat.le_of_ble_eq_true rfl) (Nat.le_of_ble_eq_true rfl) ?_
      exact ⟨rfl, rfl, fun j hj => c9e j (by omega)⟩
abbrev rJ0_init_db425 : Room := { frames := 3, cells := 1, slots := 700, locals := 76 }
set_option maxRecDepth 100000 in
set_option maxHeartbeats 2000000 in
theorem kJ0_init_db425 {l : Launch} (hl : l.stackTraces = false) {h : mH} {n : Nat} {b a v c cap : Nat} {ml : Int32} {f : Nat → Int32} (Es : h b = .inr (.inr (0, [.null, .int (nI 0), .int (nI 0), .int (nI 0)]))) (E : h a = .inr (.inr (1, [.ref v, .int (nI 0), .int ml, .int (nI c)]))) (B : h v = .inl (1, cap, f)) (hf : bFit f) (ab : a < b) (vb : v < b) (bn : b < n) (ck : c ≤ cap) (c7 : cap ≤ 700) : mC l mJ0_init_db425 rJ0_init_db425 [.ref b, .ref a, .null] h n (fun r h' n' => r = none ∧ n ≤ n' ∧ ∀ j, j < b → h' j = h j) (mNX) := by
  refine mm_enter hl (by decide +kernel) rfl rfl rfl (Nat.le_of_ble_eq_true rfl) ?_
  show mT _ _ _ _ 0 [.ref b, .ref a, .null, .double 0, .double 0] [] _ _ 0 0
  refine mt_aload_n dJ0_init_db425_0 rfl rfl ?_
  refine mt_objInit dJ0_init_db425_1 mw_806 mw_58 mw_59 (Nat.le_of_ble_eq_true rfl) ⟨Nat.le_of_ble_eq_true rfl, Nat.le_of_ble_eq_true rfl⟩ ?_
  refine mt_aload_n dJ0_init_db425_4 rfl rfl ?_
  refine mt_callU (N := mJ5_getValue_6d5f1) (Rc := rJ5_getValue_6d5f1) (As := []) (st := []) dJ0_init_db425_5 (kJ5_getValue_6d5f1 hl E) uJ5_getValue_6d5f1 mw_810 mw_807 mKJ4 E rfl (Nat.le_of_ble_eq_true rfl) ⟨⟨Nat.le_of_ble_eq_true rfl, Nat.le_of_ble_eq_true rfl⟩, Nat.le_of_ble_eq_true rfl, Nat.le_of_ble_eq_true rfl⟩ (fun v1 h2 n3 c4 => ?_) (fun _ _ _ hx => hx.elim)
  obtain ⟨c4a, c4b, c4c⟩ := c4
  rw [c4a, c4b, c4c]
  show mT _ _ _ _ 8 [.ref b, .ref a, .null, .double 0, .double 0] [.ref v] _ _ _ _
  refine mp_astore_n dJ0_init_db425_8 (ls' := [.ref b, .ref a, .null, .ref v, .double 0]) rfl rfl (by decide) rfl ?_
  refine mt_aload_n dJ0_init_db425_9 rfl rfl ?_
  refine mt_callO (N := mJ4_length_8abf5) (Rc := rJ4_length_8abf5) (As := []) (st := []) dJ0_init_db425_10 (kJ4_length_8abf5 hl E) uJ4_length_8abf5 mw_815 mw_812 mw_814 mw_813 mw_819 rfl ⟨by decide, by decide⟩ mKJ4 E rfl (Nat.le_of_ble_eq_true rfl) ⟨⟨Nat.le_of_ble_eq_true rfl, Nat.le_of_ble_eq_true rfl⟩, Nat.le_of_ble_eq_true rfl, Nat.le_of_ble_eq_true rfl⟩ (fun v5 h6 n7 c8 => ?_) (fun _ _ _ hx => hx.elim)
  obtain ⟨c8a, c8b, c8c⟩ := c8
  rw [c8a, c8b, c8c]
  show mT _ _ _ _ 13 [.ref b, .ref a, .null, .ref v, .double 0] [.int (nI c)] _ _ _ _
  refine mp_istore dJ0_init_db425_13 (ls' := [.ref b, .ref a, .null, .ref v, .int (nI c)]) rfl (by decide) rfl ?_
  refine mt_aload_n dJ0_init_db425_15 rfl rfl ?_
  refine mt_callU (N := mJ5_isLatin1_aae02) (Rc := rJ5_isLatin1_aae02) (As := []) (st := []) dJ0_init_db425_16 (kJ5_isLatin1_aae02 hl E) uJ5_isLatin1_aae02 mw_710 mw_820 mKJ4 E rfl (Nat.le_of_ble_eq_true rfl) ⟨⟨Nat.le_of_ble_eq_true rfl, Nat.le_of_ble_eq_true rfl⟩, Nat.le_of_ble_eq_true rfl, Nat.le_of_ble_eq_true rfl⟩ (fun v9 h10 n11 c12 => ?_) (fun _ _ _ hx => hx.elim)
  obtain ⟨c12a, c12b, c12c⟩ := c12
  rw [c12a, c12b, c12c]
  show mT _ _ _ _ 19 [.ref b, .ref a, .null, .ref v, .int (nI c)] [.int (nI 1)] _ _ _ _
  refine mt_if_eq dJ0_init_db425_19 (tgt := 41) rfl (fun q13 => ?_) (fun q13 => ?_)
  · have q13 := (mI_eq0 (by omega)).mp q13
    exact absurd q13 (by decide)
  · have q13 := (not_congr (mI_eq0 (by omega))).mp q13
    refine mt_aload_n dJ0_init_db425_22 rfl rfl ?_
    refine mt_iconst dJ0_init_db425_23 (v := nI 0) rfl ?_
    refine mp_putFI mKJ0 (i := 1) (fs' := [.null, .int (nI 0), .int (nI 0), .int (nI 0)]) (by decide) mw_889 rfl rfl rfl dJ0_init_db425_24 Es (Nat.le_of_ble_eq_true rfl) rfl rfl rfl (fun h14 e15 f16 => ?_)
    refine mt_aload_n dJ0_init_db425_27 rfl rfl ?_
    refine mt_aload_n dJ0_init_db425_28 rfl rfl ?_
    refine mt_iconst dJ0_init_db425_29 (v := nI 0) rfl ?_
    refine mt_iload dJ0_init_db425_30 rfl ?_
    refine mt_callS (N := mJ7_copyOfRange_39247) (Rc := rJ7_copyOfRange_39247) (As := [.ref v, .int (nI 0), .int (nI c)]) (st := [.ref b]) dJ0_init_db425_32 (kJ7_copyOfRange_39247 hl ((f16 (v) (by omega)).trans B) hf (by omega) (by omega) (by omega)) sJ7_copyOfRange_39247 mw_821 rfl (Nat.le_of_ble_eq_true rfl) ⟨⟨Nat.le_of_ble_eq_true rfl, Nat.le_of_ble_eq_true rfl⟩, Nat.le_of_ble_eq_true rfl, Nat.le_of_ble_eq_true rfl⟩ (fun v17 h18 n19 c20 => ?_) (fun _ _ _ hx => hx.elim)
    obtain ⟨c20a, c20b, c20e⟩ := c20
    rw [c20a, c20b]
    show mT _ _ _ _ 35 [.ref b, .ref a, .null, .ref v, .int (nI c)] [.ref n, .ref b] _ _ _ _
    refine mp_putfinal mKJ0 (i := 0) (fs' := [.ref n, .int (nI 0), .int (nI 0), .int (nI 0)]) (by decide) mw_888 rfl rfl rfl dJ0_init_db425_35 ((c20e (b) (by omega)).trans e15) (Nat.le_of_ble_eq_true rfl) rfl rfl (fun h21 e22 f23 => ?_)
    refine mt_goto dJ0_init_db425_38 (tgt := 97) rfl ?_
    refine mt_return dJ0_init_db425_97 rfl (Nat.le_of_ble_eq_true rfl) (Nat.le_of_ble_eq_true rfl) ?_
    exact ⟨rfl, by omega, fun j hj => (f23 j (by omega)).trans ((c20e j (by omega)).trans (f16 j (by omega)))⟩
abbrev rJ0_init_81219 : Room := { frames := 4, cells := 1, slots := 700, locals := 100 }
set_option maxRecDepth 100000 in
set_option maxHeartbeats 2000000 in
theorem kJ0_init_81219 {l : Launch} (hl : l.stackTraces = false) {h : mH} {n : Nat} {b a v c cap : Nat} {ml : Int32} {f : Nat → Int32} (Es : h b = .inr (.inr (0, [.null, .int (nI 0), .int (nI 0), .int (nI 0)]))) (E : h a = .inr (.inr (1, [.ref v, .int (nI 0), .int ml, .int (nI c)]))) (B : h v = .inl (1, cap, f)) (hf : bFit f) (ab : a < b) (vb : v < b) (bn : b < n) (ck : c ≤ cap) (c7 : cap ≤ 700) : mC l mJ0_init_81219 rJ0_init_81219 [.ref b, .ref a] h n (fun r h' n' => r = none ∧ n ≤ n' ∧ ∀ j, j < b → h' j = h j) (mNX) := by
  refine mm_enter hl (by decide +kernel) rfl rfl rfl (Nat.le_of_ble_eq_true rfl) ?_
  show mT _ _ _ _ 0 [.ref b, .ref a] [] _ _ 0 0
  refine mt_aload_n dJ0_init_81219_0 rfl rfl ?_
  refine mt_aload_n dJ0_init_81219_1 rfl rfl ?_
  refine mt_aconst_null dJ0_init_81219_2 ?_
  refine mt_callI (N := mJ0_init_db425) (Rc := rJ0_init_db425) (As := [.ref a, .null]) (st := []) dJ0_init_81219_3 (kJ0_init_db425 hl Es E B hf (by omega) (by omega) (by omega) (by omega) (by omega)) sJ0_init_db425 mw_803 rfl (Nat.le_of_ble_eq_true rfl) ⟨⟨Nat.le_of_ble_eq_true rfl, Nat.le_of_ble_eq_true rfl⟩, Nat.le_of_ble_eq_true rfl, Nat.le_of_ble_eq_true rfl⟩ (fun v1 h2 n3 c4 => ?_)
  obtain ⟨c4a, c4b, c4d⟩ := c4
  rw [c4a]
  show mT _ _ _ _ 6 [.ref b, .ref a] [] _ _ _ _
  refine mt_return dJ0_init_81219_6 rfl (Nat.le_of_ble_eq_true rfl) (Nat.le_of_ble_eq_true rfl) ?_
  exact ⟨rfl, by omega, fun j hj => c4d j (by omega)⟩
abbrev rJ4_toString_0e30d : Room := { frames := 5, cells := 2, slots := 704, locals := 121 }
set_option maxRecDepth 100000 in
set_option maxHeartbeats 2000000 in
theorem kJ4_toString_0e30d {l : Launch} (hl : l.stackTraces = false) {h : mH} {n : Nat} {lo a c : Nat} (A : sbA h lo n a c c) : mC l mJ4_toString_0e30d rJ4_toString_0e30d [.ref a] h n (fun r h' n' => r = some (.ref n) ∧ n ≤ n' ∧ ∀ j, j < n → h' j = h j) (mNX) := by
  obtain ⟨v, cap, f, ml, E, B, hf, ck, c7, la, lv, ne, an, vn⟩ := id A
  refine mm_enter hl (by decide +kernel) rfl rfl rfl (Nat.le_of_ble_eq_true rfl) ?_
  show mT _ _ _ _ 0 [.ref a] [] _ _ 0 0
  refine mp_new mKJ0 dJ4_toString_0e30d_0 mw_798 mw_799 mw_45 (fs := [.null, .int (nI 0), .int (nI 0), .int (nI 0)]) mDJ0 (mdf_ok rfl) (Nat.le_of_ble_eq_true rfl) (Nat.le_of_ble_eq_true rfl) (fun h1 e2 f3 => ?_)
  refine mt_dup dJ4_toString_0e30d_3 rfl ?_
  refine mt_aload_n dJ4_toString_0e30d_4 rfl rfl ?_
  refine mt_callI (N := mJ0_init_81219) (Rc := rJ0_init_81219) (As := [.ref a]) (st := [.ref n]) dJ4_toString_0e30d_5 (kJ0_init_81219 hl e2 ((f3 (a) (by omega)).trans E) ((f3 (v) (by omega)).trans B) hf (by omega) (by omega) (by omega) (by omega) (by omega)) sJ0_init_81219 mw_800 rfl (Nat.le_of_ble_eq_true rfl) ⟨⟨Nat.le_of_ble_eq_true rfl, Nat.le_of_ble_eq_true rfl⟩, Nat.le_of_ble_eq_true rfl, Nat.le_of_ble_eq_true rfl⟩ (fun v4 h5 n6 c7 => ?_)
  obtain ⟨c7a, c7b, c7d⟩ := c7
  rw [c7a]
  show mT _ _ _ _ 8 [.ref a] [.ref n] _ _ _ _
  refine mt_areturn dJ4_toString_0e30d_8 rfl (by first | exact Or.inl ⟨_, rfl⟩ | exact Or.inr ⟨_, rfl⟩) rfl (Nat.le_of_ble_eq_true rfl) (Nat.le_of_ble_eq_true rfl) ?_
  exact ⟨rfl, by omega, fun j hj => (c7d j (by omega)).trans (f3 j (by omega))⟩
