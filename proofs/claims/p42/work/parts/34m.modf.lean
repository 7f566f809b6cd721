/-! ===== the reference as it begins ===== -/
abbrev rX4_init : Room := { frames := 1, cells := 10, slots := 8, locals := 20 }
/-- the reference as it begins, but for the cell of Out -/
def mBeg (h : mH) : Prop := h 27 = mObj cS0 (nI 0) ∧ (∃ g : Nat → Option Nat, h 28 = .inr (.inl (3, 4, g)) ∧ ∀ r, r < 4 → g r = some (29 + r)) ∧ (∃ g : Nat → Option Nat, h 33 = .inr (.inl (3, 4, g)) ∧ ∀ r, r < 4 → g r = some (34 + r)) ∧ (∀ i, i < 4 → h (29 + i) = .inl (0, 0, fun _ => 0)) ∧ (∀ i, i < 4 → h (34 + i) = .inl (0, 0, fun _ => 0))
theorem mBeg.at {h : mH} (H : mBeg h) : mAt h 39 cS0 (nI 0) := by
  obtain ⟨c0, ⟨g1, c1, c2⟩, ⟨g2, c3, c4⟩, c5, c6⟩ := H
  refine ⟨c0, by omega, fun r => 29 + r, fun r => 34 + r, ⟨g1, c1, c2⟩, ⟨g2, c3, c4⟩, fun r hr => ?_, fun r hr => ?_, fun r q hr hq => ?_, fun r q hr hq hne => ?_, fun r hr => Nat.zero_le _⟩
  · exact ⟨(by omega : 28 < 29 + r ∧ 29 + r ≠ 33 ∧ 29 + r ≠ 38 ∧ 29 + r < 39), _, c5 r hr, fun i hi => absurd hi (Nat.not_lt_zero _)⟩
  · exact ⟨(by omega : 28 < 34 + r ∧ 34 + r ≠ 33 ∧ 34 + r ≠ 38 ∧ 34 + r < 39), _, c6 r hr, fun i hi => absurd hi (Nat.not_lt_zero _)⟩
  · show 29 + r ≠ 34 + q; omega
  · exact ⟨by show 29 + r ≠ 29 + q; omega, by show 34 + r ≠ 34 + q; omega⟩
set_option maxRecDepth 100000 in
set_option maxHeartbeats 2000000 in
theorem kX4_init {l : Launch} (hl : l.stackTraces = false) {h : mH} (H : h 27 = .inr (.inr (6, [.null, .null, .int (nI 0), .int (nI 0), .int (nI 0), .int (nI 0), .int (nI 0)]))) : mC l mX4_init rX4_init [.ref 27] h 28 (fun v h' n' => v = none ∧ n' = 38 ∧ h' 27 = mObj cS0 (nI 0) ∧ (∃ g : Nat → Option Nat, h' 28 = .inr (.inl (3, 4, g)) ∧ ∀ r, r < 4 → g r = some (29 + r)) ∧ (∃ g : Nat → Option Nat, h' 33 = .inr (.inl (3, 4, g)) ∧ ∀ r, r < 4 → g r = some (34 + r)) ∧ (∀ i, i < 4 → h' (29 + i) = .inl (0, 0, fun _ => 0)) ∧ (∀ i, i < 4 → h' (34 + i) = .inl (0, 0, fun _ => 0)) ∧ ∀ j, j < 27 → h' j = h j) (mNX) := by
  refine mm_enter hl (by decide +kernel) rfl rfl rfl (Nat.le_of_ble_eq_true rfl) ?_
  show mT _ _ _ _ 0 [.ref 27] [] _ _ 0 0
  refine mt_aload_n dX4_init_0 rfl rfl ?_
  refine mt_objInit dX4_init_1 mw_1050 mw_58 mw_59 (Nat.le_of_ble_eq_true rfl) ⟨Nat.le_of_ble_eq_true rfl, Nat.le_of_ble_eq_true rfl⟩ ?_
  refine mt_aload_n dX4_init_4 rfl rfl ?_
  refine mt_iconst dX4_init_5 (v := nI 4) rfl ?_
  refine mt_iconst dX4_init_6 (v := nI 0) rfl ?_
  refine mp_mna dX4_init_7 mw_1051 mw_87 (Nat.le_of_ble_eq_true rfl) (Nat.le_of_ble_eq_true rfl) (fun h1 e2 e3 f4 => ?_)
  refine mp_putfinal mKX4 (i := 0) (fs' := [.ref 28, .null, .int (nI 0), .int (nI 0), .int (nI 0), .int (nI 0), .int (nI 0)]) (by decide) mw_1053 rfl rfl rfl dX4_init_11 ((f4 (27) (by omega)).trans H) (Nat.le_of_ble_eq_true rfl) rfl rfl (fun h5 e6 f7 => ?_)
  refine mt_aload_n dX4_init_14 rfl rfl ?_
  refine mt_iconst dX4_init_15 (v := nI 4) rfl ?_
  refine mt_iconst dX4_init_16 (v := nI 0) rfl ?_
  refine mp_mna dX4_init_17 mw_1051 mw_87 (Nat.le_of_ble_eq_true rfl) (Nat.le_of_ble_eq_true rfl) (fun h8 e9 e10 f11 => ?_)
  refine mp_putfinal mKX4 (i := 1) (fs' := [.ref 28, .ref 33, .int (nI 0), .int (nI 0), .int (nI 0), .int (nI 0), .int (nI 0)]) (by decide) mw_1054 rfl rfl rfl dX4_init_21 ((f11 (27) (by omega)).trans e6) (Nat.le_of_ble_eq_true rfl) rfl rfl (fun h12 e13 f14 => ?_)
  refine mt_return dX4_init_24 rfl (Nat.le_of_ble_eq_true rfl) (Nat.le_of_ble_eq_true rfl) ?_
  have g4 : ∀ i, i < 4 → h12 (29 + i) = .inl (0, 0, fun _ => 0) := fun i hi => by
      obtain rfl | rfl | rfl | rfl : i = 0 ∨ i = 1 ∨ i = 2 ∨ i = 3 := by omega
      · exact (f14 (29) (by omega)).trans ((f11 (29) (by omega)).trans ((f7 (29) (by omega)).trans (e3 0 (by omega))))
      · exact (f14 (30) (by omega)).trans ((f11 (30) (by omega)).trans ((f7 (30) (by omega)).trans (e3 1 (by omega))))
      · exact (f14 (31) (by omega)).trans ((f11 (31) (by omega)).trans ((f7 (31) (by omega)).trans (e3 2 (by omega))))
      · exact (f14 (32) (by omega)).trans ((f11 (32) (by omega)).trans ((f7 (32) (by omega)).trans (e3 3 (by omega))))
  have g5 : ∀ i, i < 4 → h12 (34 + i) = .inl (0, 0, fun _ => 0) := fun i hi => by
      obtain rfl | rfl | rfl | rfl : i = 0 ∨ i = 1 ∨ i = 2 ∨ i = 3 := by omega
      · exact (f14 (34) (by omega)).trans (e10 0 (by omega))
      · exact (f14 (35) (by omega)).trans (e10 1 (by omega))
      · exact (f14 (36) (by omega)).trans (e10 2 (by omega))
      · exact (f14 (37) (by omega)).trans (e10 3 (by omega))
  exact ⟨rfl, rfl, e13, ⟨_, (f14 (28) (by omega)).trans ((f11 (28) (by omega)).trans ((f7 (28) (by omega)).trans e2)), fun r hr => if_pos hr⟩, ⟨_, (f14 (33) (by omega)).trans e9, fun r hr => if_pos hr⟩, g4, g5, fun j hj => (f14 j (by omega)).trans ((f11 j (by omega)).trans ((f7 j (by omega)).trans (f4 j (by omega))))⟩

/-! ===== decode rows of the law's helpers ===== -/
set_option maxRecDepth 100000 in
theorem bL_fill_0 : (decode cL_fill 0 = .ok (.aload 6, 2)) ∧ (decode cL_fill 2 = .ok (.aload_n 0, 1)) ∧ (decode cL_fill 3 = .ok (.iload_n 1, 1)) ∧ (decode cL_fill 4 = .ok (.iload_n 2, 1)) ∧ (decode cL_fill 5 = .ok (.iload_n 3, 1)) ∧ (decode cL_fill 6 = .ok (.iload 4, 2)) ∧ (decode cL_fill 8 = .ok (.iload 5, 2)) ∧ (decode cL_fill 10 = .ok (.invokevirtual 7, 3)) ∧ (decode cL_fill 13 = .ok (.i2l, 1)) ∧ (decode cL_fill 14 = .ok (.putfield 13, 3)) ∧ (decode cL_fill 17 = .ok (.goto 11, 3)) ∧ (decode cL_fill 20 = .ok (.astore 7, 2)) ∧ (decode cL_fill 22 = .ok (.iconst 1, 1)) ∧ (decode cL_fill 23 = .ok (.ireturn, 1)) ∧ (decode cL_fill 24 = .ok (.astore 7, 2)) ∧ (decode cL_fill 26 = .ok (.iconst 2, 1)) := by decide +kernel
theorem dL_fill_0 : decode cL_fill 0 = .ok (.aload 6, 2) := bL_fill_0.1
theorem dL_fill_2 : decode cL_fill 2 = .ok (.aload_n 0, 1) := bL_fill_0.2.1
theorem dL_fill_3 : decode cL_fill 3 = .ok (.iload_n 1, 1) := bL_fill_0.2.2.1
theorem dL_fill_4 : decode cL_fill 4 = .ok (.iload_n 2, 1) := bL_fill_0.2.2.2.1
theorem dL_fill_5 : decode cL_fill 5 = .ok (.iload_n 3, 1) := bL_fill_0.2.2.2.2.1
theorem dL_fill_6 : decode cL_fill 6 = .ok (.iload 4, 2) := bL_fill_0.2.2.2.2.2.1
theorem dL_fill_8 : decode cL_fill 8 = .ok (.iload 5, 2) := bL_fill_0.2.2.2.2.2.2.1
theorem dL_fill_10 : decode cL_fill 10 = .ok (.invokevirtual 7, 3) := bL_fill_0.2.2.2.2.2.2.2.1
theorem dL_fill_13 : decode cL_fill 13 = .ok (.i2l, 1) := bL_fill_0.2.2.2.2.2.2.2.2.1
theorem dL_fill_14 : decode cL_fill 14 = .ok (.putfield 13, 3) := bL_fill_0.2.2.2.2.2.2.2.2.2.1
theorem dL_fill_17 : decode cL_fill 17 = .ok (.goto 11, 3) := bL_fill_0.2.2.2.2.2.2.2.2.2.2.1
theorem dL_fill_20 : decode cL_fill 20 = .ok (.astore 7, 2) := bL_fill_0.2.2.2.2.2.2.2.2.2.2.2.1
theorem dL_fill_22 : decode cL_fill 22 = .ok (.iconst 1, 1) := bL_fill_0.2.2.2.2.2.2.2.2.2.2.2.2.1
theorem dL_fill_23 : decode cL_fill 23 = .ok (.ireturn, 1) := bL_fill_0.2.2.2.2.2.2.2.2.2.2.2.2.2.1
theorem dL_fill_24 : decode cL_fill 24 = .ok (.astore 7, 2) := bL_fill_0.2.2.2.2.2.2.2.2.2.2.2.2.2.2.1
theorem dL_fill_26 : decode cL_fill 26 = .ok (.iconst 2, 1) := bL_fill_0.2.2.2.2.2.2.2.2.2.2.2.2.2.2.2
set_option maxRecDepth 100000 in
theorem bL_fill_27 : (decode cL_fill 27 = .ok (.ireturn, 1)) ∧ (decode cL_fill 28 = .ok (.iconst 0, 1)) ∧ (decode cL_fill 29 = .ok (.ireturn, 1)) := by decide +kernel
theorem dL_fill_27 : decode cL_fill 27 = .ok (.ireturn, 1) := bL_fill_27.1
theorem dL_fill_28 : decode cL_fill 28 = .ok (.iconst 0, 1) := bL_fill_27.2.1
theorem dL_fill_29 : decode cL_fill 29 = .ok (.ireturn, 1) := bL_fill_27.2.2
set_option maxRecDepth 100000 in
theorem bL_add_0 : (decode cL_add 0 = .ok (.aload_n 3, 1)) ∧ (decode cL_add 1 = .ok (.aload_n 0, 1)) ∧ (decode cL_add 2 = .ok (.iload_n 1, 1)) ∧ (decode cL_add 3 = .ok (.iload_n 2, 1)) ∧ (decode cL_add 4 = .ok (.invokevirtual 23, 3)) ∧ (decode cL_add 7 = .ok (.i2l, 1)) ∧ (decode cL_add 8 = .ok (.putfield 13, 3)) ∧ (decode cL_add 11 = .ok (.goto 11, 3)) ∧ (decode cL_add 14 = .ok (.astore 4, 2)) ∧ (decode cL_add 16 = .ok (.iconst 1, 1)) ∧ (decode cL_add 17 = .ok (.ireturn, 1)) ∧ (decode cL_add 18 = .ok (.astore 4, 2)) ∧ (decode cL_add 20 = .ok (.iconst 2, 1)) ∧ (decode cL_add 21 = .ok (.ireturn, 1)) ∧ (decode cL_add 22 = .ok (.iconst 0, 1)) ∧ (decode cL_add 23 = .ok (.ireturn, 1)) := by decide +kernel
theorem dL_add_0 : decode cL_add 0 = .ok (.aload_n 3, 1) := bL_add_0.1
theorem dL_add_1 : decode cL_add 1 = .ok (.aload_n 0, 1) := bL_add_0.2.1
theorem dL_add_2 : decode cL_add 2 = .ok (.iload_n 1, 1) := bL_add_0.2.2.1
theorem dL_add_3 : decode cL_add 3 = .ok (.iload_n 2, 1) := bL_add_0.2.2.2.1
theorem dL_add_4 : decode cL_add 4 = .ok (.invokevirtual 23, 3) := bL_add_0.2.2.2.2.1
theorem dL_add_7 : decode cL_add 7 = .ok (.i2l, 1) := bL_add_0.2.2.2.2.2.1
theorem dL_add_8 : decode cL_add 8 = .ok (.putfield 13, 3) := bL_add_0.2.2.2.2.2.2.1
theorem dL_add_11 : decode cL_add 11 = .ok (.goto 11, 3) := bL_add_0.2.2.2.2.2.2.2.1
theorem dL_add_14 : decode cL_add 14 = .ok (.astore 4, 2) := bL_add_0.2.2.2.2.2.2.2.2.1
theorem dL_add_16 : decode cL_add 16 = .ok (.iconst 1, 1) := bL_add_0.2.2.2.2.2.2.2.2.2.1
theorem dL_add_17 : decode cL_add 17 = .ok (.ireturn, 1) := bL_add_0.2.2.2.2.2.2.2.2.2.2.1
theorem dL_add_18 : decode cL_add 18 = .ok (.astore 4, 2) := bL_add_0.2.2.2.2.2.2.2.2.2.2.2.1
theorem dL_add_20 : decode cL_add 20 = .ok (.iconst 2, 1) := bL_add_0.2.2.2.2.2.2.2.2.2.2.2.2.1
theorem dL_add_21 : decode cL_add 21 = .ok (.ireturn, 1) := bL_add_0.2.2.2.2.2.2.2.2.2.2.2.2.2.1
theorem dL_add_22 : decode cL_add 22 = .ok (.iconst 0, 1) := bL_add_0.2.2.2.2.2.2.2.2.2.2.2.2.2.2.1
theorem dL_add_23 : decode cL_add 23 = .ok (.ireturn, 1) := bL_add_0.2.2.2.2.2.2.2.2.2.2.2.2.2.2.2
set_option maxRecDepth 100000 in
theorem bL_put_0 : (decode cL_put 0 = .ok (.aload 4, 2)) ∧ (decode cL_put 2 = .ok (.aload_n 0, 1)) ∧ (decode cL_put 3 = .ok (.iload_n 1, 1)) ∧ (decode cL_put 4 = .ok (.iload_n 2, 1)) ∧ (decode cL_put 5 = .ok (.iload_n 3, 1)) ∧ (decode cL_put 6 = .ok (.invokevirtual 27, 3)) ∧ (decode cL_put 9 = .ok (.i2l, 1)) ∧ (decode cL_put 10 = .ok (.putfield 13, 3)) ∧ (decode cL_put 13 = .ok (.goto 11, 3)) ∧ (decode cL_put 16 = .ok (.astore 5, 2)) ∧ (decode cL_put 18 = .ok (.iconst 1, 1)) ∧ (decode cL_put 19 = .ok (.ireturn, 1)) ∧ (decode cL_put 20 = .ok (.astore 5, 2)) ∧ (decode cL_put 22 = .ok (.iconst 2, 1)) ∧ (decode cL_put 23 = .ok (.ireturn, 1)) ∧ (decode cL_put 24 = .ok (.iconst 0, 1)) := by decide +kernel
theorem dL_put_0 : decode cL_put 0 = .ok (.aload 4, 2) := bL_put_0.1
theorem dL_put_2 : decode cL_put 2 = .ok (.aload_n 0, 1) := bL_put_0.2.1
theorem dL_put_3 : decode cL_put 3 = .ok (.iload_n 1, 1) := bL_put_0.2.2.1
theorem dL_put_4 : decode cL_put 4 = .ok (.iload_n 2, 1) := bL_put_0.2.2.2.1
theorem dL_put_5 : decode cL_put 5 = .ok (.iload_n 3, 1) := bL_put_0.2.2.2.2.1
theorem dL_put_6 : decode cL_put 6 = .ok (.invokevirtual 27, 3) := bL_put_0.2.2.2.2.2.1
theorem dL_put_9 : decode cL_put 9 = .ok (.i2l, 1) := bL_put_0.2.2.2.2.2.2.1
theorem dL_put_10 : decode cL_put 10 = .ok (.putfield 13, 3) := bL_put_0.2.2.2.2.2.2.2.1
theorem dL_put_13 : decode cL_put 13 = .ok (.goto 11, 3) := bL_put_0.2.2.2.2.2.2.2.2.1
theorem dL_put_16 : decode cL_put 16 = .ok (.astore 5, 2) := bL_put_0.2.2.2.2.2.2.2.2.2.1
theorem dL_put_18 : decode cL_put 18 = .ok (.iconst 1, 1) := bL_put_0.2.2.2.2.2.2.2.2.2.2.1
theorem dL_put_19 : decode cL_put 19 = .ok (.ireturn, 1) := bL_put_0.2.2.2.2.2.2.2.2.2.2.2.1
theorem dL_put_20 : decode cL_put 20 = .ok (.astore 5, 2) := bL_put_0.2.2.2.2.2.2.2.2.2.2.2.2.1
theorem dL_put_22 : decode cL_put 22 = .ok (.iconst 2, 1) := bL_put_0.2.2.2.2.2.2.2.2.2.2.2.2.2.1
theorem dL_put_23 : decode cL_put 23 = .ok (.ireturn, 1) := bL_put_0.2.2.2.2.2.2.2.2.2.2.2.2.2.2.1
theorem dL_put_24 : decode cL_put 24 = .ok (.iconst 0, 1) := bL_put_0.2.2.2.2.2.2.2.2.2.2.2.2.2.2.2
theorem dL_put_25 : decode cL_put 25 = .ok (.ireturn, 1) := by decide +kernel
set_option maxRecDepth 100000 in
theorem bL_drop_0 : (decode cL_drop 0 = .ok (.aload_n 3, 1)) ∧ (decode cL_drop 1 = .ok (.aload_n 0, 1)) ∧ (decode cL_drop 2 = .ok (.iload_n 1, 1)) ∧ (decode cL_drop 3 = .ok (.iload_n 2, 1)) ∧ (decode cL_drop 4 = .ok (.invokevirtual 31, 3)) ∧ (decode cL_drop 7 = .ok (.i2l, 1)) ∧ (decode cL_drop 8 = .ok (.putfield 13, 3)) ∧ (decode cL_drop 11 = .ok (.goto 7, 3)) ∧ (decode cL_drop 14 = .ok (.astore 4, 2)) ∧ (decode cL_drop 16 = .ok (.iconst 1, 1)) ∧ (decode cL_drop 17 = .ok (.ireturn, 1)) ∧ (decode cL_drop 18 = .ok (.iconst 0, 1)) ∧ (decode cL_drop 19 = .ok (.ireturn, 1)) := by decide +kernel
theorem dL_drop_0 : decode cL_drop 0 = .ok (.aload_n 3, 1) := bL_drop_0.1
theorem dL_drop_1 : decode cL_drop 1 = .ok (.aload_n 0, 1) := bL_drop_0.2.1
theorem dL_drop_2 : decode cL_drop 2 = .ok (.iload_n 1, 1) := bL_drop_0.2.2.1
theorem dL_drop_3 : decode cL_drop 3 = .ok (.iload_n 2, 1) := bL_drop_0.2.2.2.1
theorem dL_drop_4 : decode cL_drop 4 = .ok (.invokevirtual 31, 3) := bL_drop_0.2.2.2.2.1
theorem dL_drop_7 : decode cL_drop 7 = .ok (.i2l, 1) := bL_drop_0.2.2.2.2.2.1
theorem dL_drop_8 : decode cL_drop 8 = .ok (.putfield 13, 3) := bL_drop_0.2.2.2.2.2.2.1
theorem dL_drop_11 : decode cL_drop 11 = .ok (.goto 7, 3) := bL_drop_0.2.2.2.2.2.2.2.1
theorem dL_drop_14 : decode cL_drop 14 = .ok (.astore 4, 2) := bL_drop_0.2.2.2.2.2.2.2.2.1
theorem dL_drop_16 : decode cL_drop 16 = .ok (.iconst 1, 1) := bL_drop_0.2.2.2.2.2.2.2.2.2.1
theorem dL_drop_17 : decode cL_drop 17 = .ok (.ireturn, 1) := bL_drop_0.2.2.2.2.2.2.2.2.2.2.1
theorem dL_drop_18 : decode cL_drop 18 = .ok (.iconst 0, 1) := bL_drop_0.2.2.2.2.2.2.2.2.2.2.2.1
theorem dL_drop_19 : decode cL_drop 19 = .ok (.ireturn, 1) := bL_drop_0.2.2.2.2.2.2.2.2.2.2.2.2
set_option maxRecDepth 100000 in
theorem bL_clear_0 : (decode cL_clear 0 = .ok (.aload_n 2, 1)) ∧ (decode cL_clear 1 = .ok (.aload_n 0, 1)) ∧ (decode cL_clear 2 = .ok (.iload_n 1, 1)) ∧ (decode cL_clear 3 = .ok (.invokevirtual 34, 3)) ∧ (decode cL_clear 6 = .ok (.i2l, 1)) ∧ (decode cL_clear 7 = .ok (.putfield 13, 3)) ∧ (decode cL_clear 10 = .ok (.goto 6, 3)) ∧ (decode cL_clear 13 = .ok (.astore_n 3, 1)) ∧ (decode cL_clear 14 = .ok (.iconst 1, 1)) ∧ (decode cL_clear 15 = .ok (.ireturn, 1)) ∧ (decode cL_clear 16 = .ok (.iconst 0, 1)) ∧ (decode cL_clear 17 = .ok (.ireturn, 1)) := by decide +kernel
theorem dL_clear_0 : decode cL_clear 0 = .ok (.aload_n 2, 1) := bL_clear_0.1
theorem dL_clear_1 : decode cL_clear 1 = .ok (.aload_n 0, 1) := bL_clear_0.2.1
theorem dL_clear_2 : decode cL_clear 2 = .ok (.iload_n 1, 1) := bL_clear_0.2.2.1
theorem dL_clear_3 : decode cL_clear 3 = .ok (.invokevirtual 34, 3) := bL_clear_0.2.2.2.1
theorem dL_clear_6 : decode cL_clear 6 = .ok (.i2l, 1) := bL_clear_0.2.2.2.2.1
theorem dL_clear_7 : decode cL_clear 7 = .ok (.putfield 13, 3) := bL_clear_0.2.2.2.2.2.1
theorem dL_clear_10 : decode cL_clear 10 = .ok (.goto 6, 3) := bL_clear_0.2.2.2.2.2.2.1
theorem dL_clear_13 : decode cL_clear 13 = .ok (.astore_n 3, 1) := bL_clear_0.2.2.2.2.2.2.2.1
theorem dL_clear_14 : decode cL_clear 14 = .ok (.iconst 1, 1) := bL_clear_0.2.2.2.2.2.2.2.2.1
theorem dL_clear_15 : decode cL_clear 15 = .ok (.ireturn, 1) := bL_clear_0.2.2.2.2.2.2.2.2.2.1
theorem dL_clear_16 : decode cL_clear 16 = .ok (.iconst 0, 1) := bL_clear_0.2.2.2.2.2.2.2.2.2.2.1
theorem dL_clear_17 : decode cL_clear 17 = .ok (.ireturn, 1) := bL_clear_0.2.2.2.2.2.2.2.2.2.2.2
set_option maxRecDepth 100000 in
theorem bL_exchange_0 : (decode cL_exchange 0 = .ok (.aload_n 3, 1)) ∧ (decode cL_exchange 1 = .ok (.aload_n 0, 1)) ∧ (decode cL_exchange 2 = .ok (.iload_n 1, 1)) ∧ (decode cL_exchange 3 = .ok (.iload_n 2, 1)) ∧ (decode cL_exchange 4 = .ok (.invokevirtual 38, 3)) ∧ (decode cL_exchange 7 = .ok (.i2l, 1)) ∧ (decode cL_exchange 8 = .ok (.putfield 13, 3)) ∧ (decode cL_exchange 11 = .ok (.goto 7, 3)) ∧ (decode cL_exchange 14 = .ok (.astore 4, 2)) ∧ (decode cL_exchange 16 = .ok (.iconst 1, 1)) ∧ (decode cL_exchange 17 = .ok (.ireturn, 1)) ∧ (decode cL_exchange 18 = .ok (.iconst 0, 1)) ∧ (decode cL_exchange 19 = .ok (.ireturn, 1)) := by decide +kernel
theorem dL_exchange_0 : decode cL_exchange 0 = .ok (.aload_n 3, 1) := bL_exchange_0.1
theorem dL_exchange_1 : decode cL_exchange 1 = .ok (.aload_n 0, 1) := bL_exchange_0.2.1
theorem dL_exchange_2 : decode cL_exchange 2 = .ok (.iload_n 1, 1) := bL_exchange_0.2.2.1
theorem dL_exchange_3 : decode cL_exchange 3 = .ok (.iload_n 2, 1) := bL_exchange_0.2.2.2.1
theorem dL_exchange_4 : decode cL_exchange 4 = .ok (.invokevirtual 38, 3) := bL_exchange_0.2.2.2.2.1
theorem dL_exchange_7 : decode cL_exchange 7 = .ok (.i2l, 1) := bL_exchange_0.2.2.2.2.2.1
theorem dL_exchange_8 : decode cL_exchange 8 = .ok (.putfield 13, 3) := bL_exchange_0.2.2.2.2.2.2.1
theorem dL_exchange_11 : decode cL_exchange 11 = .ok (.goto 7, 3) := bL_exchange_0.2.2.2.2.2.2.2.1
theorem dL_exchange_14 : decode cL_exchange 14 = .ok (.astore 4, 2) := bL_exchange_0.2.2.2.2.2.2.2.2.1
theorem dL_exchange_16 : decode cL_exchange 16 = .ok (.iconst 1, 1) := bL_exchange_0.2.2.2.2.2.2.2.2.2.1
theorem dL_exchange_17 : decode cL_exchange 17 = .ok (.ireturn, 1) := bL_exchange_0.2.2.2.2.2.2.2.2.2.2.1
theorem dL_exchange_18 : decode cL_exchange 18 = .ok (.iconst 0, 1) := bL_exchange_0.2.2.2.2.2.2.2.2.2.2.2.1
theorem dL_exchange_19 : decode cL_exchange 19 = .ok (.ireturn, 1) := bL_exchange_0.2.2.2.2.2.2.2.2.2.2.2.2
set_option maxRecDepth 100000 in
theorem bL_swap_0 : (decode cL_swap 0 = .ok (.aload 4, 2)) ∧ (decode cL_swap 2 = .ok (.aload_n 0, 1)) ∧ (decode cL_swap 3 = .ok (.iload_n 1, 1)) ∧ (decode cL_swap 4 = .ok (.iload_n 2, 1)) ∧ (decode cL_swap 5 = .ok (.iload_n 3, 1)) ∧ (decode cL_swap 6 = .ok (.invokevirtual 41, 3)) ∧ (decode cL_swap 9 = .ok (.i2l, 1)) ∧ (decode cL_swap 10 = .ok (.putfield 13, 3)) ∧ (decode cL_swap 13 = .ok (.goto 7, 3)) ∧ (decode cL_swap 16 = .ok (.astore 5, 2)) ∧ (decode cL_swap 18 = .ok (.iconst 1, 1)) ∧ (decode cL_swap 19 = .ok (.ireturn, 1)) ∧ (decode cL_swap 20 = .ok (.iconst 0, 1)) ∧ (decode cL_swap 21 = .ok (.ireturn, 1)) := by decide +kernel
theorem dL_swap_0 : decode cL_swap 0 = .ok (.aload 4, 2) := bL_swap_0.1
theorem dL_swap_2 : decode cL_swap 2 = .ok (.aload_n 0, 1) := bL_swap_0.2.1
theorem dL_swap_3 : decode cL_swap 3 = .ok (.iload_n 1, 1) := bL_swap_0.2.2.1
theorem dL_swap_4 : decode cL_swap 4 = .ok (.iload_n 2, 1) := bL_swap_0.2.2.2.1
theorem dL_swap_5 : decode cL_swap 5 = .ok (.iload_n 3, 1) := bL_swap_0.2.2.2.2.1
theorem dL_swap_6 : decode cL_swap 6 = .ok (.invokevirtual 41, 3) := bL_swap_0.2.2.2.2.2.1
theorem dL_swap_9 : decode cL_swap 9 = .ok (.i2l, 1) := bL_swap_0.2.2.2.2.2.2.1
theorem dL_swap_10 : decode cL_swap 10 = .ok (.putfield 13, 3) := bL_swap_0.2.2.2.2.2.2.2.1
theorem dL_swap_13 : decode cL_swap 13 = .ok (.goto 7, 3) := bL_swap_0.2.2.2.2.2.2.2.2.1
theorem dL_swap_16 : decode cL_swap 16 = .ok (.astore 5, 2) := bL_swap_0.2.2.2.2.2.2.2.2.2.1
theorem dL_swap_18 : decode cL_swap 18 = .ok (.iconst 1, 1) := bL_swap_0.2.2.2.2.2.2.2.2.2.2.1
theorem dL_swap_19 : decode cL_swap 19 = .ok (.ireturn, 1) := bL_swap_0.2.2.2.2.2.2.2.2.2.2.2.1
theorem dL_swap_20 : decode cL_swap 20 = .ok (.iconst 0, 1) := bL_swap_0.2.2.2.2.2.2.2.2.2.2.2.2.1
theorem dL_swap_21 : decode cL_swap 21 = .ok (.ireturn, 1) := bL_swap_0.2.2.2.2.2.2.2.2.2.2.2.2.2
set_option maxRecDepth 100000 in
theorem bL_turn_0 : (decode cL_turn 0 = .ok (.aload_n 2, 1)) ∧ (decode cL_turn 1 = .ok (.aload_n 0, 1)) ∧ (decode cL_turn 2 = .ok (.iload_n 1, 1)) ∧ (decode cL_turn 3 = .ok (.invokevirtual 44, 3)) ∧ (decode cL_turn 6 = .ok (.i2l, 1)) ∧ (decode cL_turn 7 = .ok (.putfield 13, 3)) ∧ (decode cL_turn 10 = .ok (.goto 6, 3)) ∧ (decode cL_turn 13 = .ok (.astore_n 3, 1)) ∧ (decode cL_turn 14 = .ok (.iconst 1, 1)) ∧ (decode cL_turn 15 = .ok (.ireturn, 1)) ∧ (decode cL_turn 16 = .ok (.iconst 0, 1)) ∧ (decode cL_turn 17 = .ok (.ireturn, 1)) := by decide +kernel
theorem dL_turn_0 : decode cL_turn 0 = .ok (.aload_n 2, 1) := bL_turn_0.1
theorem dL_turn_1 : decode cL_turn 1 = .ok (.aload_n 0, 1) := bL_turn_0.2.1
theorem dL_turn_2 : decode cL_turn 2 = .ok (.iload_n 1, 1) := bL_turn_0.2.2.1
theorem dL_turn_3 : decode cL_turn 3 = .ok (.invokevirtual 44, 3) := bL_turn_0.2.2.2.1
theorem dL_turn_6 : decode cL_turn 6 = .ok (.i2l, 1) := bL_turn_0.2.2.2.2.1
theorem dL_turn_7 : decode cL_turn 7 = .ok (.putfield 13, 3) := bL_turn_0.2.2.2.2.2.1
theorem dL_turn_10 : decode cL_turn 10 = .ok (.goto 6, 3) := bL_turn_0.2.2.2.2.2.2.1
theorem dL_turn_13 : decode cL_turn 13 = .ok (.astore_n 3, 1) := bL_turn_0.2.2.2.2.2.2.2.1
theorem dL_turn_14 : decode cL_turn 14 = .ok (.iconst 1, 1) := bL_turn_0.2.2.2.2.2.2.2.2.1
theorem dL_turn_15 : decode cL_turn 15 = .ok (.ireturn, 1) := bL_turn_0.2.2.2.2.2.2.2.2.2.1
theorem dL_turn_16 : decode cL_turn 16 = .ok (.iconst 0, 1) := bL_turn_0.2.2.2.2.2.2.2.2.2.2.1
theorem dL_turn_17 : decode cL_turn 17 = .ok (.ireturn, 1) := bL_turn_0.2.2.2.2.2.2.2.2.2.2.2
set_option maxRecDepth 100000 in
theorem bL_roll_0 : (decode cL_roll 0 = .ok (.aload_n 3, 1)) ∧ (decode cL_roll 1 = .ok (.aload_n 0, 1)) ∧ (decode cL_roll 2 = .ok (.iload_n 1, 1)) ∧ (decode cL_roll 3 = .ok (.iload_n 2, 1)) ∧ (decode cL_roll 4 = .ok (.invokevirtual 47, 3)) ∧ (decode cL_roll 7 = .ok (.i2l, 1)) ∧ (decode cL_roll 8 = .ok (.putfield 13, 3)) ∧ (decode cL_roll 11 = .ok (.goto 11, 3)) ∧ (decode cL_roll 14 = .ok (.astore 4, 2)) ∧ (decode cL_roll 16 = .ok (.iconst 1, 1)) ∧ (decode cL_roll 17 = .ok (.ireturn, 1)) ∧ (decode cL_roll 18 = .ok (.astore 4, 2)) ∧ (decode cL_roll 20 = .ok (.iconst 2, 1)) ∧ (decode cL_roll 21 = .ok (.ireturn, 1)) ∧ (decode cL_roll 22 = .ok (.iconst 0, 1)) ∧ (decode cL_roll 23 = .ok (.ireturn, 1)) := by decide +kernel
theorem dL_roll_0 : decode cL_roll 0 = .ok (.aload_n 3, 1) := bL_roll_0.1
theorem dL_roll_1 : decode cL_roll 1 = .ok (.aload_n 0, 1) := bL_roll_0.2.1
theorem dL_roll_2 : decode cL_roll 2 = .ok (.iload_n 1, 1) := bL_roll_0.2.2.1
theorem dL_roll_3 : decode cL_roll 3 = .ok (.iload_n 2, 1) := bL_roll_0.2.2.2.1
theorem dL_roll_4 : decode cL_roll 4 = .ok (.invokevirtual 47, 3) := bL_roll_0.2.2.2.2.1
theorem dL_roll_7 : decode cL_roll 7 = .ok (.i2l, 1) := bL_roll_0.2.2.2.2.2.1
theorem dL_roll_8 : decode cL_roll 8 = .ok (.putfield 13, 3) := bL_roll_0.2.2.2.2.2.2.1
theorem dL_roll_11 : decode cL_roll 11 = .ok (.goto 11, 3) := bL_roll_0.2.2.2.2.2.2.2.1
theorem dL_roll_14 : decode cL_roll 14 = .ok (.astore 4, 2) := bL_roll_0.2.2.2.2.2.2.2.2.1
theorem dL_roll_16 : decode cL_roll 16 = .ok (.iconst 1, 1) := bL_roll_0.2.2.2.2.2.2.2.2.2.1
theorem dL_roll_17 : decode cL_roll 17 = .ok (.ireturn, 1) := bL_roll_0.2.2.2.2.2.2.2.2.2.2.1
theorem dL_roll_18 : decode cL_roll 18 = .ok (.astore 4, 2) := bL_roll_0.2.2.2.2.2.2.2.2.2.2.2.1
theorem dL_roll_20 : decode cL_roll 20 = .ok (.iconst 2, 1) := bL_roll_0.2.2.2.2.2.2.2.2.2.2.2.2.1
theorem dL_roll_21 : decode cL_roll 21 = .ok (.ireturn, 1) := bL_roll_0.2.2.2.2.2.2.2.2.2.2.2.2.2.1
theorem dL_roll_22 : decode cL_roll 22 = .ok (.iconst 0, 1) := bL_roll_0.2.2.2.2.2.2.2.2.2.2.2.2.2.2.1
theorem dL_roll_23 : decode cL_roll 23 = .ok (.ireturn, 1) := bL_roll_0.2.2.2.2.2.2.2.2.2.2.2.2.2.2.2
set_option maxRecDepth 100000 in
theorem bL_keep_0 : (decode cL_keep 0 = .ok (.aload 4, 2)) ∧ (decode cL_keep 2 = .ok (.aload_n 0, 1)) ∧ (decode cL_keep 3 = .ok (.iload_n 1, 1)) ∧ (decode cL_keep 4 = .ok (.iload_n 2, 1)) ∧ (decode cL_keep 5 = .ok (.iload_n 3, 1)) ∧ (decode cL_keep 6 = .ok (.invokevirtual 50, 3)) ∧ (decode cL_keep 9 = .ok (.i2l, 1)) ∧ (decode cL_keep 10 = .ok (.putfield 13, 3)) ∧ (decode cL_keep 13 = .ok (.goto 7, 3)) ∧ (decode cL_keep 16 = .ok (.astore 5, 2)) ∧ (decode cL_keep 18 = .ok (.iconst 1, 1)) ∧ (decode cL_keep 19 = .ok (.ireturn, 1)) ∧ (decode cL_keep 20 = .ok (.iconst 0, 1)) ∧ (decode cL_keep 21 = .ok (.ireturn, 1)) := by decide +kernel
theorem dL_keep_0 : decode cL_keep 0 = .ok (.aload 4, 2) := bL_keep_0.1
theorem dL_keep_2 : decode cL_keep 2 = .ok (.aload_n 0, 1) := bL_keep_0.2.1
theorem dL_keep_3 : decode cL_keep 3 = .ok (.iload_n 1, 1) := bL_keep_0.2.2.1
theorem dL_keep_4 : decode cL_keep 4 = .ok (.iload_n 2, 1) := bL_keep_0.2.2.2.1
theorem dL_keep_5 : decode cL_keep 5 = .ok (.iload_n 3, 1) := bL_keep_0.2.2.2.2.1
theorem dL_keep_6 : decode cL_keep 6 = .ok (.invokevirtual 50, 3) := bL_keep_0.2.2.2.2.2.1
theorem dL_keep_9 : decode cL_keep 9 = .ok (.i2l, 1) := bL_keep_0.2.2.2.2.2.2.1
theorem dL_keep_10 : decode cL_keep 10 = .ok (.putfield 13, 3) := bL_keep_0.2.2.2.2.2.2.2.1
theorem dL_keep_13 : decode cL_keep 13 = .ok (.goto 7, 3) := bL_keep_0.2.2.2.2.2.2.2.2.1
theorem dL_keep_16 : decode cL_keep 16 = .ok (.astore 5, 2) := bL_keep_0.2.2.2.2.2.2.2.2.2.1
theorem dL_keep_18 : decode cL_keep 18 = .ok (.iconst 1, 1) := bL_keep_0.2.2.2.2.2.2.2.2.2.2.1
theorem dL_keep_19 : decode cL_keep 19 = .ok (.ireturn, 1) := bL_keep_0.2.2.2.2.2.2.2.2.2.2.2.1
theorem dL_keep_20 : decode cL_keep 20 = .ok (.iconst 0, 1) := bL_keep_0.2.2.2.2.2.2.2.2.2.2.2.2.1
theorem dL_keep_21 : decode cL_keep 21 = .ok (.ireturn, 1) := bL_keep_0.2.2.2.2.2.2.2.2.2.2.2.2.2
set_option maxRecDepth 100000 in
theorem bL_sort_0 : (decode cL_sort 0 = .ok (.aload_n 2, 1)) ∧ (decode cL_sort 1 = .ok (.aload_n 0, 1)) ∧ (decode cL_sort 2 = .ok (.iload_n 1, 1)) ∧ (decode cL_sort 3 = .ok (.invokevirtual 53, 3)) ∧ (decode cL_sort 6 = .ok (.i2l, 1)) ∧ (decode cL_sort 7 = .ok (.putfield 13, 3)) ∧ (decode cL_sort 10 = .ok (.goto 6, 3)) ∧ (decode cL_sort 13 = .ok (.astore_n 3, 1)) ∧ (decode cL_sort 14 = .ok (.iconst 1, 1)) ∧ (decode cL_sort 15 = .ok (.ireturn, 1)) ∧ (decode cL_sort 16 = .ok (.iconst 0, 1)) ∧ (decode cL_sort 17 = .ok (.ireturn, 1)) := by decide +kernel
theorem dL_sort_0 : decode cL_sort 0 = .ok (.aload_n 2, 1) := bL_sort_0.1
theorem dL_sort_1 : decode cL_sort 1 = .ok (.aload_n 0, 1) := bL_sort_0.2.1
theorem dL_sort_2 : decode cL_sort 2 = .ok (.iload_n 1, 1) := bL_sort_0.2.2.1
theorem dL_sort_3 : decode cL_sort 3 = .ok (.invokevirtual 53, 3) := bL_sort_0.2.2.2.1
theorem dL_sort_6 : decode cL_sort 6 = .ok (.i2l, 1) := bL_sort_0.2.2.2.2.1
theorem dL_sort_7 : decode cL_sort 7 = .ok (.putfield 13, 3) := bL_sort_0.2.2.2.2.2.1
theorem dL_sort_10 : decode cL_sort 10 = .ok (.goto 6, 3) := bL_sort_0.2.2.2.2.2.2.1
theorem dL_sort_13 : decode cL_sort 13 = .ok (.astore_n 3, 1) := bL_sort_0.2.2.2.2.2.2.2.1
theorem dL_sort_14 : decode cL_sort 14 = .ok (.iconst 1, 1) := bL_sort_0.2.2.2.2.2.2.2.2.1
theorem dL_sort_15 : decode cL_sort 15 = .ok (.ireturn, 1) := bL_sort_0.2.2.2.2.2.2.2.2.2.1
theorem dL_sort_16 : decode cL_sort 16 = .ok (.iconst 0, 1) := bL_sort_0.2.2.2.2.2.2.2.2.2.2.1
theorem dL_sort_17 : decode cL_sort 17 = .ok (.ireturn, 1) := bL_sort_0.2.2.2.2.2.2.2.2.2.2.2
set_option maxRecDepth 100000 in
theorem bL_copy_0 : (decode cL_copy 0 = .ok (.aload_n 3, 1)) ∧ (decode cL_copy 1 = .ok (.aload_n 0, 1)) ∧ (decode cL_copy 2 = .ok (.iload_n 1, 1)) ∧ (decode cL_copy 3 = .ok (.iload_n 2, 1)) ∧ (decode cL_copy 4 = .ok (.invokevirtual 56, 3)) ∧ (decode cL_copy 7 = .ok (.i2l, 1)) ∧ (decode cL_copy 8 = .ok (.putfield 13, 3)) ∧ (decode cL_copy 11 = .ok (.goto 7, 3)) ∧ (decode cL_copy 14 = .ok (.astore 4, 2)) ∧ (decode cL_copy 16 = .ok (.iconst 1, 1)) ∧ (decode cL_copy 17 = .ok (.ireturn, 1)) ∧ (decode cL_copy 18 = .ok (.iconst 0, 1)) ∧ (decode cL_copy 19 = .ok (.ireturn, 1)) := by decide +kernel
theorem dL_copy_0 : decode cL_copy 0 = .ok (.aload_n 3, 1) := bL_copy_0.1
theorem dL_copy_1 : decode cL_copy 1 = .ok (.aload_n 0, 1) := bL_copy_0.2.1
theorem dL_copy_2 : decode cL_copy 2 = .ok (.iload_n 1, 1) := bL_copy_0.2.2.1
theorem dL_copy_3 : decode cL_copy 3 = .ok (.iload_n 2, 1) := bL_copy_0.2.2.2.1
theorem dL_copy_4 : decode cL_copy 4 = .ok (.invokevirtual 56, 3) := bL_copy_0.2.2.2.2.1
theorem dL_copy_7 : decode cL_copy 7 = .ok (.i2l, 1) := bL_copy_0.2.2.2.2.2.1
theorem dL_copy_8 : decode cL_copy 8 = .ok (.putfield 13, 3) := bL_copy_0.2.2.2.2.2.2.1
theorem dL_copy_11 : decode cL_copy 11 = .ok (.goto 7, 3) := bL_copy_0.2.2.2.2.2.2.2.1
theorem dL_copy_14 : decode cL_copy 14 = .ok (.astore 4, 2) := bL_copy_0.2.2.2.2.2.2.2.2.1
theorem dL_copy_16 : decode cL_copy 16 = .ok (.iconst 1, 1) := bL_copy_0.2.2.2.2.2.2.2.2.2.1
theorem dL_copy_17 : decode cL_copy 17 = .ok (.ireturn, 1) := bL_copy_0.2.2.2.2.2.2.2.2.2.2.1
theorem dL_copy_18 : decode cL_copy 18 = .ok (.iconst 0, 1) := bL_copy_0.2.2.2.2.2.2.2.2.2.2.2.1
theorem dL_copy_19 : decode cL_copy 19 = .ok (.ireturn, 1) := bL_copy_0.2.2.2.2.2.2.2.2.2.2.2.2
set_option maxRecDepth 100000 in
theorem bL_join_0 : (decode cL_join 0 = .ok (.aload_n 3, 1)) ∧ (decode cL_join 1 = .ok (.aload_n 0, 1)) ∧ (decode cL_join 2 = .ok (.iload_n 1, 1)) ∧ (decode cL_join 3 = .ok (.iload_n 2, 1)) ∧ (decode cL_join 4 = .ok (.invokevirtual 59, 3)) ∧ (decode cL_join 7 = .ok (.i2l, 1)) ∧ (decode cL_join 8 = .ok (.putfield 13, 3)) ∧ (decode cL_join 11 = .ok (.goto 7, 3)) ∧ (decode cL_join 14 = .ok (.astore 4, 2)) ∧ (decode cL_join 16 = .ok (.iconst 1, 1)) ∧ (decode cL_join 17 = .ok (.ireturn, 1)) ∧ (decode cL_join 18 = .ok (.iconst 0, 1)) ∧ (decode cL_join 19 = .ok (.ireturn, 1)) := by decide +kernel
theorem dL_join_0 : decode cL_join 0 = .ok (.aload_n 3, 1) := bL_join_0.1
theorem dL_join_1 : decode cL_join 1 = .ok (.aload_n 0, 1) := bL_join_0.2.1
theorem dL_join_2 : decode cL_join 2 = .ok (.iload_n 1, 1) := bL_join_0.2.2.1
theorem dL_join_3 : decode cL_join 3 = .ok (.iload_n 2, 1) := bL_join_0.2.2.2.1
theorem dL_join_4 : decode cL_join 4 = .ok (.invokevirtual 59, 3) := bL_join_0.2.2.2.2.1
theorem dL_join_7 : decode cL_join 7 = .ok (.i2l, 1) := bL_join_0.2.2.2.2.2.1
theorem dL_join_8 : decode cL_join 8 = .ok (.putfield 13, 3) := bL_join_0.2.2.2.2.2.2.1
theorem dL_join_11 : decode cL_join 11 = .ok (.goto 7, 3) := bL_join_0.2.2.2.2.2.2.2.1
theorem dL_join_14 : decode cL_join 14 = .ok (.astore 4, 2) := bL_join_0.2.2.2.2.2.2.2.2.1
theorem dL_join_16 : decode cL_join 16 = .ok (.iconst 1, 1) := bL_join_0.2.2.2.2.2.2.2.2.2.1
theorem dL_join_17 : decode cL_join 17 = .ok (.ireturn, 1) := bL_join_0.2.2.2.2.2.2.2.2.2.2.1
theorem dL_join_18 : decode cL_join 18 = .ok (.iconst 0, 1) := bL_join_0.2.2.2.2.2.2.2.2.2.2.2.1
theorem dL_join_19 : decode cL_join 19 = .ok (.ireturn, 1) := bL_join_0.2.2.2.2.2.2.2.2.2.2.2.2
set_option maxRecDepth 100000 in
theorem bL_merge_0 : (decode cL_merge 0 = .ok (.aload_n 3, 1)) ∧ (decode cL_merge 1 = .ok (.aload_n 0, 1)) ∧ (decode cL_merge 2 = .ok (.iload_n 1, 1)) ∧ (decode cL_merge 3 = .ok (.iload_n 2, 1)) ∧ (decode cL_merge 4 = .ok (.invokevirtual 62, 3)) ∧ (decode cL_merge 7 = .ok (.i2l, 1)) ∧ (decode cL_merge 8 = .ok (.putfield 13, 3)) ∧ (decode cL_merge 11 = .ok (.goto 7, 3)) ∧ (decode cL_merge 14 = .ok (.astore 4, 2)) ∧ (decode cL_merge 16 = .ok (.iconst 1, 1)) ∧ (decode cL_merge 17 = .ok (.ireturn, 1)) ∧ (decode cL_merge 18 = .ok (.iconst 0, 1)) ∧ (decode cL_merge 19 = .ok (.ireturn, 1)) := by decide +kernel
theorem dL_merge_0 : decode cL_merge 0 = .ok (.aload_n 3, 1) := bL_merge_0.1
theorem dL_merge_1 : decode cL_merge 1 = .ok (.aload_n 0, 1) := bL_merge_0.2.1
theorem dL_merge_2 : decode cL_merge 2 = .ok (.iload_n 1, 1) := bL_merge_0.2.2.1
theorem dL_merge_3 : decode cL_merge 3 = .ok (.iload_n 2, 1) := bL_merge_0.2.2.2.1
theorem dL_merge_4 : decode cL_merge 4 = .ok (.invokevirtual 62, 3) := bL_merge_0.2.2.2.2.1
theorem dL_merge_7 : decode cL_merge 7 = .ok (.i2l, 1) := bL_merge_0.2.2.2.2.2.1
theorem dL_merge_8 : decode cL_merge 8 = .ok (.putfield 13, 3) := bL_merge_0.2.2.2.2.2.2.1
theorem dL_merge_11 : decode cL_merge 11 = .ok (.goto 7, 3) := bL_merge_0.2.2.2.2.2.2.2.1
theorem dL_merge_14 : decode cL_merge 14 = .ok (.astore 4, 2) := bL_merge_0.2.2.2.2.2.2.2.2.1
theorem dL_merge_16 : decode cL_merge 16 = .ok (.iconst 1, 1) := bL_merge_0.2.2.2.2.2.2.2.2.2.1
theorem dL_merge_17 : decode cL_merge 17 = .ok (.ireturn, 1) := bL_merge_0.2.2.2.2.2.2.2.2.2.2.1
theorem dL_merge_18 : decode cL_merge 18 = .ok (.iconst 0, 1) := bL_merge_0.2.2.2.2.2.2.2.2.2.2.2.1
theorem dL_merge_19 : decode cL_merge 19 = .ok (.ireturn, 1) := bL_merge_0.2.2.2.2.2.2.2.2.2.2.2.2
set_option maxRecDepth 100000 in
theorem bL_many_0 : (decode cL_many 0 = .ok (.aload_n 2, 1)) ∧ (decode cL_many 1 = .ok (.aload_n 0, 1)) ∧ (decode cL_many 2 = .ok (.iload_n 1, 1)) ∧ (decode cL_many 3 = .ok (.invokevirtual 65, 3)) ∧ (decode cL_many 6 = .ok (.i2l, 1)) ∧ (decode cL_many 7 = .ok (.putfield 13, 3)) ∧ (decode cL_many 10 = .ok (.goto 6, 3)) ∧ (decode cL_many 13 = .ok (.astore_n 3, 1)) ∧ (decode cL_many 14 = .ok (.iconst 1, 1)) ∧ (decode cL_many 15 = .ok (.ireturn, 1)) ∧ (decode cL_many 16 = .ok (.iconst 0, 1)) ∧ (decode cL_many 17 = .ok (.ireturn, 1)) := by decide +kernel
theorem dL_many_0 : decode cL_many 0 = .ok (.aload_n 2, 1) := bL_many_0.1
theorem dL_many_1 : decode cL_many 1 = .ok (.aload_n 0, 1) := bL_many_0.2.1
theorem dL_many_2 : decode cL_many 2 = .ok (.iload_n 1, 1) := bL_many_0.2.2.1
theorem dL_many_3 : decode cL_many 3 = .ok (.invokevirtual 65, 3) := bL_many_0.2.2.2.1
theorem dL_many_6 : decode cL_many 6 = .ok (.i2l, 1) := bL_many_0.2.2.2.2.1
theorem dL_many_7 : decode cL_many 7 = .ok (.putfield 13, 3) := bL_many_0.2.2.2.2.2.1
theorem dL_many_10 : decode cL_many 10 = .ok (.goto 6, 3) := bL_many_0.2.2.2.2.2.2.1
theorem dL_many_13 : decode cL_many 13 = .ok (.astore_n 3, 1) := bL_many_0.2.2.2.2.2.2.2.1
theorem dL_many_14 : decode cL_many 14 = .ok (.iconst 1, 1) := bL_many_0.2.2.2.2.2.2.2.2.1
theorem dL_many_15 : decode cL_many 15 = .ok (.ireturn, 1) := bL_many_0.2.2.2.2.2.2.2.2.2.1
theorem dL_many_16 : decode cL_many 16 = .ok (.iconst 0, 1) := bL_many_0.2.2.2.2.2.2.2.2.2.2.1
theorem dL_many_17 : decode cL_many 17 = .ok (.ireturn, 1) := bL_many_0.2.2.2.2.2.2.2.2.2.2.2
set_option maxRecDepth 100000 in
theorem bL_key_0 : (decode cL_key 0 = .ok (.aload_n 3, 1)) ∧ (decode cL_key 1 = .ok (.aload_n 0, 1)) ∧ (decode cL_key 2 = .ok (.iload_n 1, 1)) ∧ (decode cL_key 3 = .ok (.iload_n 2, 1)) ∧ (decode cL_key 4 = .ok (.invokevirtual 68, 3)) ∧ (decode cL_key 7 = .ok (.i2l, 1)) ∧ (decode cL_key 8 = .ok (.putfield 13, 3)) ∧ (decode cL_key 11 = .ok (.goto 7, 3)) ∧ (decode cL_key 14 = .ok (.astore 4, 2)) ∧ (decode cL_key 16 = .ok (.iconst 1, 1)) ∧ (decode cL_key 17 = .ok (.ireturn, 1)) ∧ (decode cL_key 18 = .ok (.iconst 0, 1)) ∧ (decode cL_key 19 = .ok (.ireturn, 1)) := by decide +kernel
theorem dL_key_0 : decode cL_key 0 = .ok (.aload_n 3, 1) := bL_key_0.1
theorem dL_key_1 : decode cL_key 1 = .ok (.aload_n 0, 1) := bL_key_0.2.1
theorem dL_key_2 : decode cL_key 2 = .ok (.iload_n 1, 1) := bL_key_0.2.2.1
theorem dL_key_3 : decode cL_key 3 = .ok (.iload_n 2, 1) := bL_key_0.2.2.2.1
theorem dL_key_4 : decode cL_key 4 = .ok (.invokevirtual 68, 3) := bL_key_0.2.2.2.2.1
theorem dL_key_7 : decode cL_key 7 = .ok (.i2l, 1) := bL_key_0.2.2.2.2.2.1
theorem dL_key_8 : decode cL_key 8 = .ok (.putfield 13, 3) := bL_key_0.2.2.2.2.2.2.1
theorem dL_key_11 : decode cL_key 11 = .ok (.goto 7, 3) := bL_key_0.2.2.2.2.2.2.2.1
theorem dL_key_14 : decode cL_key 14 = .ok (.astore 4, 2) := bL_key_0.2.2.2.2.2.2.2.2.1
theorem dL_key_16 : decode cL_key 16 = .ok (.iconst 1, 1) := bL_key_0.2.2.2.2.2.2.2.2.2.1
theorem dL_key_17 : decode cL_key 17 = .ok (.ireturn, 1) := bL_key_0.2.2.2.2.2.2.2.2.2.2.1
theorem dL_key_18 : decode cL_key 18 = .ok (.iconst 0, 1) := bL_key_0.2.2.2.2.2.2.2.2.2.2.2.1
theorem dL_key_19 : decode cL_key 19 = .ok (.ireturn, 1) := bL_key_0.2.2.2.2.2.2.2.2.2.2.2.2
set_option maxRecDepth 100000 in
theorem bL_stamp_0 : (decode cL_stamp 0 = .ok (.aload_n 3, 1)) ∧ (decode cL_stamp 1 = .ok (.aload_n 0, 1)) ∧ (decode cL_stamp 2 = .ok (.iload_n 1, 1)) ∧ (decode cL_stamp 3 = .ok (.iload_n 2, 1)) ∧ (decode cL_stamp 4 = .ok (.invokevirtual 71, 3)) ∧ (decode cL_stamp 7 = .ok (.i2l, 1)) ∧ (decode cL_stamp 8 = .ok (.putfield 13, 3)) ∧ (decode cL_stamp 11 = .ok (.goto 7, 3)) ∧ (decode cL_stamp 14 = .ok (.astore 4, 2)) ∧ (decode cL_stamp 16 = .ok (.iconst 1, 1)) ∧ (decode cL_stamp 17 = .ok (.ireturn, 1)) ∧ (decode cL_stamp 18 = .ok (.iconst 0, 1)) ∧ (decode cL_stamp 19 = .ok (.ireturn, 1)) := by decide +kernel
theorem dL_stamp_0 : decode cL_stamp 0 = .ok (.aload_n 3, 1) := bL_stamp_0.1
theorem dL_stamp_1 : decode cL_stamp 1 = .ok (.aload_n 0, 1) := bL_stamp_0.2.1
theorem dL_stamp_2 : decode cL_stamp 2 = .ok (.iload_n 1, 1) := bL_stamp_0.2.2.1
theorem dL_stamp_3 : decode cL_stamp 3 = .ok (.iload_n 2, 1) := bL_stamp_0.2.2.2.1
theorem dL_stamp_4 : decode cL_stamp 4 = .ok (.invokevirtual 71, 3) := bL_stamp_0.2.2.2.2.1
theorem dL_stamp_7 : decode cL_stamp 7 = .ok (.i2l, 1) := bL_stamp_0.2.2.2.2.2.1
theorem dL_stamp_8 : decode cL_stamp 8 = .ok (.putfield 13, 3) := bL_stamp_0.2.2.2.2.2.2.1
theorem dL_stamp_11 : decode cL_stamp 11 = .ok (.goto 7, 3) := bL_stamp_0.2.2.2.2.2.2.2.1
theorem dL_stamp_14 : decode cL_stamp 14 = .ok (.astore 4, 2) := bL_stamp_0.2.2.2.2.2.2.2.2.1
theorem dL_stamp_16 : decode cL_stamp 16 = .ok (.iconst 1, 1) := bL_stamp_0.2.2.2.2.2.2.2.2.2.1
theorem dL_stamp_17 : decode cL_stamp 17 = .ok (.ireturn, 1) := bL_stamp_0.2.2.2.2.2.2.2.2.2.2.1
theorem dL_stamp_18 : decode cL_stamp 18 = .ok (.iconst 0, 1) := bL_stamp_0.2.2.2.2.2.2.2.2.2.2.2.1
theorem dL_stamp_19 : decode cL_stamp 19 = .ok (.ireturn, 1) := bL_stamp_0.2.2.2.2.2.2.2.2.2.2.2.2
set_option maxRecDepth 100000 in
theorem bL_rank_0 : (decode cL_rank 0 = .ok (.aload_n 3, 1)) ∧ (decode cL_rank 1 = .ok (.aload_n 0, 1)) ∧ (decode cL_rank 2 = .ok (.iload_n 1, 1)) ∧ (decode cL_rank 3 = .ok (.iload_n 2, 1)) ∧ (decode cL_rank 4 = .ok (.invokevirtual 74, 3)) ∧ (decode cL_rank 7 = .ok (.i2l, 1)) ∧ (decode cL_rank 8 = .ok (.putfield 13, 3)) ∧ (decode cL_rank 11 = .ok (.goto 7, 3)) ∧ (decode cL_rank 14 = .ok (.astore 4, 2)) ∧ (decode cL_rank 16 = .ok (.iconst 1, 1)) ∧ (decode cL_rank 17 = .ok (.ireturn, 1)) ∧ (decode cL_rank 18 = .ok (.iconst 0, 1)) ∧ (decode cL_rank 19 = .ok (.ireturn, 1)) := by decide +kernel
theorem dL_rank_0 : decode cL_rank 0 = .ok (.aload_n 3, 1) := bL_rank_0.1
theorem dL_rank_1 : decode cL_rank 1 = .ok (.aload_n 0, 1) := bL_rank_0.2.1
theorem dL_rank_2 : decode cL_rank 2 = .ok (.iload_n 1, 1) := bL_rank_0.2.2.1
theorem dL_rank_3 : decode cL_rank 3 = .ok (.iload_n 2, 1) := bL_rank_0.2.2.2.1
theorem dL_rank_4 : decode cL_rank 4 = .ok (.invokevirtual 74, 3) := bL_rank_0.2.2.2.2.1
theorem dL_rank_7 : decode cL_rank 7 = .ok (.i2l, 1) := bL_rank_0.2.2.2.2.2.1
theorem dL_rank_8 : decode cL_rank 8 = .ok (.putfield 13, 3) := bL_rank_0.2.2.2.2.2.2.1
theorem dL_rank_11 : decode cL_rank 11 = .ok (.goto 7, 3) := bL_rank_0.2.2.2.2.2.2.2.1
theorem dL_rank_14 : decode cL_rank 14 = .ok (.astore 4, 2) := bL_rank_0.2.2.2.2.2.2.2.2.1
theorem dL_rank_16 : decode cL_rank 16 = .ok (.iconst 1, 1) := bL_rank_0.2.2.2.2.2.2.2.2.2.1
theorem dL_rank_17 : decode cL_rank 17 = .ok (.ireturn, 1) := bL_rank_0.2.2.2.2.2.2.2.2.2.2.1
theorem dL_rank_18 : decode cL_rank 18 = .ok (.iconst 0, 1) := bL_rank_0.2.2.2.2.2.2.2.2.2.2.2.1
theorem dL_rank_19 : decode cL_rank 19 = .ok (.ireturn, 1) := bL_rank_0.2.2.2.2.2.2.2.2.2.2.2.2
set_option maxRecDepth 100000 in
theorem bL_would_0 : (decode cL_would 0 = .ok (.aload_n 3, 1)) ∧ (decode cL_would 1 = .ok (.aload_n 0, 1)) ∧ (decode cL_would 2 = .ok (.iload_n 1, 1)) ∧ (decode cL_would 3 = .ok (.iload_n 2, 1)) ∧ (decode cL_would 4 = .ok (.invokevirtual 77, 3)) ∧ (decode cL_would 7 = .ok (.i2l, 1)) ∧ (decode cL_would 8 = .ok (.putfield 13, 3)) ∧ (decode cL_would 11 = .ok (.goto 7, 3)) ∧ (decode cL_would 14 = .ok (.astore 4, 2)) ∧ (decode cL_would 16 = .ok (.iconst 1, 1)) ∧ (decode cL_would 17 = .ok (.ireturn, 1)) ∧ (decode cL_would 18 = .ok (.iconst 0, 1)) ∧ (decode cL_would 19 = .ok (.ireturn, 1)) := by decide +kernel
theorem dL_would_0 : decode cL_would 0 = .ok (.aload_n 3, 1) := bL_would_0.1
theorem dL_would_1 : decode cL_would 1 = .ok (.aload_n 0, 1) := bL_would_0.2.1
theorem dL_would_2 : decode cL_would 2 = .ok (.iload_n 1, 1) := bL_would_0.2.2.1
theorem dL_would_3 : decode cL_would 3 = .ok (.iload_n 2, 1) := bL_would_0.2.2.2.1
theorem dL_would_4 : decode cL_would 4 = .ok (.invokevirtual 77, 3) := bL_would_0.2.2.2.2.1
theorem dL_would_7 : decode cL_would 7 = .ok (.i2l, 1) := bL_would_0.2.2.2.2.2.1
theorem dL_would_8 : decode cL_would 8 = .ok (.putfield 13, 3) := bL_would_0.2.2.2.2.2.2.1
theorem dL_would_11 : decode cL_would 11 = .ok (.goto 7, 3) := bL_would_0.2.2.2.2.2.2.2.1
theorem dL_would_14 : decode cL_would 14 = .ok (.astore 4, 2) := bL_would_0.2.2.2.2.2.2.2.2.1
theorem dL_would_16 : decode cL_would 16 = .ok (.iconst 1, 1) := bL_would_0.2.2.2.2.2.2.2.2.2.1
theorem dL_would_17 : decode cL_would 17 = .ok (.ireturn, 1) := bL_would_0.2.2.2.2.2.2.2.2.2.2.1
theorem dL_would_18 : decode cL_would 18 = .ok (.iconst 0, 1) := bL_would_0.2.2.2.2.2.2.2.2.2.2.2.1
theorem dL_would_19 : decode cL_would 19 = .ok (.ireturn, 1) := bL_would_0.2.2.2.2.2.2.2.2.2.2.2.2
set_option maxRecDepth 100000 in
theorem bL_wouldStamp_0 : (decode cL_wouldStamp 0 = .ok (.aload_n 3, 1)) ∧ (decode cL_wouldStamp 1 = .ok (.aload_n 0, 1)) ∧ (decode cL_wouldStamp 2 = .ok (.iload_n 1, 1)) ∧ (decode cL_wouldStamp 3 = .ok (.iload_n 2, 1)) ∧ (decode cL_wouldStamp 4 = .ok (.invokevirtual 80, 3)) ∧ (decode cL_wouldStamp 7 = .ok (.i2l, 1)) ∧ (decode cL_wouldStamp 8 = .ok (.putfield 13, 3)) ∧ (decode cL_wouldStamp 11 = .ok (.goto 7, 3)) ∧ (decode cL_wouldStamp 14 = .ok (.astore 4, 2)) ∧ (decode cL_wouldStamp 16 = .ok (.iconst 1, 1)) ∧ (decode cL_wouldStamp 17 = .ok (.ireturn, 1)) ∧ (decode cL_wouldStamp 18 = .ok (.iconst 0, 1)) ∧ (decode cL_wouldStamp 19 = .ok (.ireturn, 1)) := by decide +kernel
theorem dL_wouldStamp_0 : decode cL_wouldStamp 0 = .ok (.aload_n 3, 1) := bL_wouldStamp_0.1
theorem dL_wouldStamp_1 : decode cL_wouldStamp 1 = .ok (.aload_n 0, 1) := bL_wouldStamp_0.2.1
theorem dL_wouldStamp_2 : decode cL_wouldStamp 2 = .ok (.iload_n 1, 1) := bL_wouldStamp_0.2.2.1
theorem dL_wouldStamp_3 : decode cL_wouldStamp 3 = .ok (.iload_n 2, 1) := bL_wouldStamp_0.2.2.2.1
theorem dL_wouldStamp_4 : decode cL_wouldStamp 4 = .ok (.invokevirtual 80, 3) := bL_wouldStamp_0.2.2.2.2.1
theorem dL_wouldStamp_7 : decode cL_wouldStamp 7 = .ok (.i2l, 1) := bL_wouldStamp_0.2.2.2.2.2.1
theorem dL_wouldStamp_8 : decode cL_wouldStamp 8 = .ok (.putfield 13, 3) := bL_wouldStamp_0.2.2.2.2.2.2.1
theorem dL_wouldStamp_11 : decode cL_wouldStamp 11 = .ok (.goto 7, 3) := bL_wouldStamp_0.2.2.2.2.2.2.2.1
theorem dL_wouldStamp_14 : decode cL_wouldStamp 14 = .ok (.astore 4, 2) := bL_wouldStamp_0.2.2.2.2.2.2.2.2.1
theorem dL_wouldStamp_16 : decode cL_wouldStamp 16 = .ok (.iconst 1, 1) := bL_wouldStamp_0.2.2.2.2.2.2.2.2.2.1
theorem dL_wouldStamp_17 : decode cL_wouldStamp 17 = .ok (.ireturn, 1) := bL_wouldStamp_0.2.2.2.2.2.2.2.2.2.2.1
theorem dL_wouldStamp_18 : decode cL_wouldStamp 18 = .ok (.iconst 0, 1) := bL_wouldStamp_0.2.2.2.2.2.2.2.2.2.2.2.1
theorem dL_wouldStamp_19 : decode cL_wouldStamp 19 = .ok (.ireturn, 1) := bL_wouldStamp_0.2.2.2.2.2.2.2.2.2.2.2.2
set_option maxRecDepth 100000 in
theorem bL_wrongAt_0 : (decode cL_wrongAt 0 = .ok (.aload_n 3, 1)) ∧ (decode cL_wrongAt 1 = .ok (.aload_n 0, 1)) ∧ (decode cL_wrongAt 2 = .ok (.iload_n 1, 1)) ∧ (decode cL_wrongAt 3 = .ok (.iload_n 2, 1)) ∧ (decode cL_wrongAt 4 = .ok (.invokevirtual 83, 3)) ∧ (decode cL_wrongAt 7 = .ok (.i2l, 1)) ∧ (decode cL_wrongAt 8 = .ok (.putfield 13, 3)) ∧ (decode cL_wrongAt 11 = .ok (.goto 7, 3)) ∧ (decode cL_wrongAt 14 = .ok (.astore 4, 2)) ∧ (decode cL_wrongAt 16 = .ok (.iconst 1, 1)) ∧ (decode cL_wrongAt 17 = .ok (.ireturn, 1)) ∧ (decode cL_wrongAt 18 = .ok (.iconst 0, 1)) ∧ (decode cL_wrongAt 19 = .ok (.ireturn, 1)) := by decide +kernel
theorem dL_wrongAt_0 : decode cL_wrongAt 0 = .ok (.aload_n 3, 1) := bL_wrongAt_0.1
theorem dL_wrongAt_1 : decode cL_wrongAt 1 = .ok (.aload_n 0, 1) := bL_wrongAt_0.2.1
theorem dL_wrongAt_2 : decode cL_wrongAt 2 = .ok (.iload_n 1, 1) := bL_wrongAt_0.2.2.1
theorem dL_wrongAt_3 : decode cL_wrongAt 3 = .ok (.iload_n 2, 1) := bL_wrongAt_0.2.2.2.1
theorem dL_wrongAt_4 : decode cL_wrongAt 4 = .ok (.invokevirtual 83, 3) := bL_wrongAt_0.2.2.2.2.1
theorem dL_wrongAt_7 : decode cL_wrongAt 7 = .ok (.i2l, 1) := bL_wrongAt_0.2.2.2.2.2.1
theorem dL_wrongAt_8 : decode cL_wrongAt 8 = .ok (.putfield 13, 3) := bL_wrongAt_0.2.2.2.2.2.2.1
theorem dL_wrongAt_11 : decode cL_wrongAt 11 = .ok (.goto 7, 3) := bL_wrongAt_0.2.2.2.2.2.2.2.1
theorem dL_wrongAt_14 : decode cL_wrongAt 14 = .ok (.astore 4, 2) := bL_wrongAt_0.2.2.2.2.2.2.2.2.1
theorem dL_wrongAt_16 : decode cL_wrongAt 16 = .ok (.iconst 1, 1) := bL_wrongAt_0.2.2.2.2.2.2.2.2.2.1
theorem dL_wrongAt_17 : decode cL_wrongAt 17 = .ok (.ireturn, 1) := bL_wrongAt_0.2.2.2.2.2.2.2.2.2.2.1
theorem dL_wrongAt_18 : decode cL_wrongAt 18 = .ok (.iconst 0, 1) := bL_wrongAt_0.2.2.2.2.2.2.2.2.2.2.2.1
theorem dL_wrongAt_19 : decode cL_wrongAt 19 = .ok (.ireturn, 1) := bL_wrongAt_0.2.2.2.2.2.2.2.2.2.2.2.2
set_option maxRecDepth 100000 in
theorem bL_after_0 : (decode cL_after 0 = .ok (.aload_n 3, 1)) ∧ (decode cL_after 1 = .ok (.aload_n 0, 1)) ∧ (decode cL_after 2 = .ok (.iload_n 1, 1)) ∧ (decode cL_after 3 = .ok (.iload_n 2, 1)) ∧ (decode cL_after 4 = .ok (.invokevirtual 86, 3)) ∧ (decode cL_after 7 = .ok (.i2l, 1)) ∧ (decode cL_after 8 = .ok (.putfield 13, 3)) ∧ (decode cL_after 11 = .ok (.goto 7, 3)) ∧ (decode cL_after 14 = .ok (.astore 4, 2)) ∧ (decode cL_after 16 = .ok (.iconst 1, 1)) ∧ (decode cL_after 17 = .ok (.ireturn, 1)) ∧ (decode cL_after 18 = .ok (.iconst 0, 1)) ∧ (decode cL_after 19 = .ok (.ireturn, 1)) := by decide +kernel
theorem dL_after_0 : decode cL_after 0 = .ok (.aload_n 3, 1) := bL_after_0.1
theorem dL_after_1 : decode cL_after 1 = .ok (.aload_n 0, 1) := bL_after_0.2.1
theorem dL_after_2 : decode cL_after 2 = .ok (.iload_n 1, 1) := bL_after_0.2.2.1
theorem dL_after_3 : decode cL_after 3 = .ok (.iload_n 2, 1) := bL_after_0.2.2.2.1
theorem dL_after_4 : decode cL_after 4 = .ok (.invokevirtual 86, 3) := bL_after_0.2.2.2.2.1
theorem dL_after_7 : decode cL_after 7 = .ok (.i2l, 1) := bL_after_0.2.2.2.2.2.1
theorem dL_after_8 : decode cL_after 8 = .ok (.putfield 13, 3) := bL_after_0.2.2.2.2.2.2.1
theorem dL_after_11 : decode cL_after 11 = .ok (.goto 7, 3) := bL_after_0.2.2.2.2.2.2.2.1
theorem dL_after_14 : decode cL_after 14 = .ok (.astore 4, 2) := bL_after_0.2.2.2.2.2.2.2.2.1
theorem dL_after_16 : decode cL_after 16 = .ok (.iconst 1, 1) := bL_after_0.2.2.2.2.2.2.2.2.2.1
theorem dL_after_17 : decode cL_after 17 = .ok (.ireturn, 1) := bL_after_0.2.2.2.2.2.2.2.2.2.2.1
theorem dL_after_18 : decode cL_after 18 = .ok (.iconst 0, 1) := bL_after_0.2.2.2.2.2.2.2.2.2.2.2.1
theorem dL_after_19 : decode cL_after 19 = .ok (.ireturn, 1) := bL_after_0.2.2.2.2.2.2.2.2.2.2.2.2
set_option maxRecDepth 100000 in
theorem bL_runAt_0 : (decode cL_runAt 0 = .ok (.aload_n 3, 1)) ∧ (decode cL_runAt 1 = .ok (.aload_n 0, 1)) ∧ (decode cL_runAt 2 = .ok (.iload_n 1, 1)) ∧ (decode cL_runAt 3 = .ok (.iload_n 2, 1)) ∧ (decode cL_runAt 4 = .ok (.invokevirtual 89, 3)) ∧ (decode cL_runAt 7 = .ok (.i2l, 1)) ∧ (decode cL_runAt 8 = .ok (.putfield 13, 3)) ∧ (decode cL_runAt 11 = .ok (.goto 7, 3)) ∧ (decode cL_runAt 14 = .ok (.astore 4, 2)) ∧ (decode cL_runAt 16 = .ok (.iconst 1, 1)) ∧ (decode cL_runAt 17 = .ok (.ireturn, 1)) ∧ (decode cL_runAt 18 = .ok (.iconst 0, 1)) ∧ (decode cL_runAt 19 = .ok (.ireturn, 1)) := by decide +kernel
theorem dL_runAt_0 : decode cL_runAt 0 = .ok (.aload_n 3, 1) := bL_runAt_0.1
theorem dL_runAt_1 : decode cL_runAt 1 = .ok (.aload_n 0, 1) := bL_runAt_0.2.1
theorem dL_runAt_2 : decode cL_runAt 2 = .ok (.iload_n 1, 1) := bL_runAt_0.2.2.1
theorem dL_runAt_3 : decode cL_runAt 3 = .ok (.iload_n 2, 1) := bL_runAt_0.2.2.2.1
theorem dL_runAt_4 : decode cL_runAt 4 = .ok (.invokevirtual 89, 3) := bL_runAt_0.2.2.2.2.1
theorem dL_runAt_7 : decode cL_runAt 7 = .ok (.i2l, 1) := bL_runAt_0.2.2.2.2.2.1
theorem dL_runAt_8 : decode cL_runAt 8 = .ok (.putfield 13, 3) := bL_runAt_0.2.2.2.2.2.2.1
theorem dL_runAt_11 : decode cL_runAt 11 = .ok (.goto 7, 3) := bL_runAt_0.2.2.2.2.2.2.2.1
theorem dL_runAt_14 : decode cL_runAt 14 = .ok (.astore 4, 2) := bL_runAt_0.2.2.2.2.2.2.2.2.1
theorem dL_runAt_16 : decode cL_runAt 16 = .ok (.iconst 1, 1) := bL_runAt_0.2.2.2.2.2.2.2.2.2.1
theorem dL_runAt_17 : decode cL_runAt 17 = .ok (.ireturn, 1) := bL_runAt_0.2.2.2.2.2.2.2.2.2.2.1
theorem dL_runAt_18 : decode cL_runAt 18 = .ok (.iconst 0, 1) := bL_runAt_0.2.2.2.2.2.2.2.2.2.2.2.1
theorem dL_runAt_19 : decode cL_runAt 19 = .ok (.ireturn, 1) := bL_runAt_0.2.2.2.2.2.2.2.2.2.2.2.2
set_option maxRecDepth 100000 in
theorem bL_text_0 : (decode cL_text 0 = .ok (.aload 4, 2)) ∧ (decode cL_text 2 = .ok (.aload_n 0, 1)) ∧ (decode cL_text 3 = .ok (.iload_n 1, 1)) ∧ (decode cL_text 4 = .ok (.iload_n 2, 1)) ∧ (decode cL_text 5 = .ok (.iload_n 3, 1)) ∧ (decode cL_text 6 = .ok (.invokevirtual 92, 3)) ∧ (decode cL_text 9 = .ok (.putfield 96, 3)) ∧ (decode cL_text 12 = .ok (.goto 11, 3)) ∧ (decode cL_text 15 = .ok (.astore 5, 2)) ∧ (decode cL_text 17 = .ok (.iconst 1, 1)) ∧ (decode cL_text 18 = .ok (.ireturn, 1)) ∧ (decode cL_text 19 = .ok (.astore 5, 2)) ∧ (decode cL_text 21 = .ok (.iconst 2, 1)) ∧ (decode cL_text 22 = .ok (.ireturn, 1)) ∧ (decode cL_text 23 = .ok (.iconst 0, 1)) ∧ (decode cL_text 24 = .ok (.ireturn, 1)) := by decide +kernel
theorem dL_text_0 : decode cL_text 0 = .ok (.aload 4, 2) := bL_text_0.1
theorem dL_text_2 : decode cL_text 2 = .ok (.aload_n 0, 1) := bL_text_0.2.1
theorem dL_text_3 : decode cL_text 3 = .ok (.iload_n 1, 1) := bL_text_0.2.2.1
theorem dL_text_4 : decode cL_text 4 = .ok (.iload_n 2, 1) := bL_text_0.2.2.2.1
theorem dL_text_5 : decode cL_text 5 = .ok (.iload_n 3, 1) := bL_text_0.2.2.2.2.1
theorem dL_text_6 : decode cL_text 6 = .ok (.invokevirtual 92, 3) := bL_text_0.2.2.2.2.2.1
theorem dL_text_9 : decode cL_text 9 = .ok (.putfield 96, 3) := bL_text_0.2.2.2.2.2.2.1
theorem dL_text_12 : decode cL_text 12 = .ok (.goto 11, 3) := bL_text_0.2.2.2.2.2.2.2.1
theorem dL_text_15 : decode cL_text 15 = .ok (.astore 5, 2) := bL_text_0.2.2.2.2.2.2.2.2.1
theorem dL_text_17 : decode cL_text 17 = .ok (.iconst 1, 1) := bL_text_0.2.2.2.2.2.2.2.2.2.1
theorem dL_text_18 : decode cL_text 18 = .ok (.ireturn, 1) := bL_text_0.2.2.2.2.2.2.2.2.2.2.1
theorem dL_text_19 : decode cL_text 19 = .ok (.astore 5, 2) := bL_text_0.2.2.2.2.2.2.2.2.2.2.2.1
theorem dL_text_21 : decode cL_text 21 = .ok (.iconst 2, 1) := bL_text_0.2.2.2.2.2.2.2.2.2.2.2.2.1
theorem dL_text_22 : decode cL_text 22 = .ok (.ireturn, 1) := bL_text_0.2.2.2.2.2.2.2.2.2.2.2.2.2.1
theorem dL_text_23 : decode cL_text 23 = .ok (.iconst 0, 1) := bL_text_0.2.2.2.2.2.2.2.2.2.2.2.2.2.2.1
theorem dL_text_24 : decode cL_text 24 = .ok (.ireturn, 1) := bL_text_0.2.2.2.2.2.2.2.2.2.2.2.2.2.2.2
set_option maxRecDepth 100000 in
theorem bL_isSorted_0 : (decode cL_isSorted 0 = .ok (.aload_n 2, 1)) ∧ (decode cL_isSorted 1 = .ok (.aload_n 0, 1)) ∧ (decode cL_isSorted 2 = .ok (.iload_n 1, 1)) ∧ (decode cL_isSorted 3 = .ok (.invokevirtual 100, 3)) ∧ (decode cL_isSorted 6 = .ok (.ifCond .eq 7, 3)) ∧ (decode cL_isSorted 9 = .ok (.lconst 1, 1)) ∧ (decode cL_isSorted 10 = .ok (.goto 4, 3)) ∧ (decode cL_isSorted 13 = .ok (.lconst 0, 1)) ∧ (decode cL_isSorted 14 = .ok (.putfield 13, 3)) ∧ (decode cL_isSorted 17 = .ok (.goto 6, 3)) ∧ (decode cL_isSorted 20 = .ok (.astore_n 3, 1)) ∧ (decode cL_isSorted 21 = .ok (.iconst 1, 1)) ∧ (decode cL_isSorted 22 = .ok (.ireturn, 1)) ∧ (decode cL_isSorted 23 = .ok (.iconst 0, 1)) ∧ (decode cL_isSorted 24 = .ok (.ireturn, 1)) := by decide +kernel
theorem dL_isSorted_0 : decode cL_isSorted 0 = .ok (.aload_n 2, 1) := bL_isSorted_0.1
theorem dL_isSorted_1 : decode cL_isSorted 1 = .ok (.aload_n 0, 1) := bL_isSorted_0.2.1
theorem dL_isSorted_2 : decode cL_isSorted 2 = .ok (.iload_n 1, 1) := bL_isSorted_0.2.2.1
theorem dL_isSorted_3 : decode cL_isSorted 3 = .ok (.invokevirtual 100, 3) := bL_isSorted_0.2.2.2.1
theorem dL_isSorted_6 : decode cL_isSorted 6 = .ok (.ifCond .eq 7, 3) := bL_isSorted_0.2.2.2.2.1
theorem dL_isSorted_9 : decode cL_isSorted 9 = .ok (.lconst 1, 1) := bL_isSorted_0.2.2.2.2.2.1
theorem dL_isSorted_10 : decode cL_isSorted 10 = .ok (.goto 4, 3) := bL_isSorted_0.2.2.2.2.2.2.1
theorem dL_isSorted_13 : decode cL_isSorted 13 = .ok (.lconst 0, 1) := bL_isSorted_0.2.2.2.2.2.2.2.1
theorem dL_isSorted_14 : decode cL_isSorted 14 = .ok (.putfield 13, 3) := bL_isSorted_0.2.2.2.2.2.2.2.2.1
theorem dL_isSorted_17 : decode cL_isSorted 17 = .ok (.goto 6, 3) := bL_isSorted_0.2.2.2.2.2.2.2.2.2.1
theorem dL_isSorted_20 : decode cL_isSorted 20 = .ok (.astore_n 3, 1) := bL_isSorted_0.2.2.2.2.2.2.2.2.2.2.1
theorem dL_isSorted_21 : decode cL_isSorted 21 = .ok (.iconst 1, 1) := bL_isSorted_0.2.2.2.2.2.2.2.2.2.2.2.1
theorem dL_isSorted_22 : decode cL_isSorted 22 = .ok (.ireturn, 1) := bL_isSorted_0.2.2.2.2.2.2.2.2.2.2.2.2.1
theorem dL_isSorted_23 : decode cL_isSorted 23 = .ok (.iconst 0, 1) := bL_isSorted_0.2.2.2.2.2.2.2.2.2.2.2.2.2.1
theorem dL_isSorted_24 : decode cL_isSorted 24 = .ok (.ireturn, 1) := bL_isSorted_0.2.2.2.2.2.2.2.2.2.2.2.2.2.2
set_option maxRecDepth 100000 in
theorem bL_isFalling_0 : (decode cL_isFalling 0 = .ok (.aload_n 2, 1)) ∧ (decode cL_isFalling 1 = .ok (.aload_n 0, 1)) ∧ (decode cL_isFalling 2 = .ok (.iload_n 1, 1)) ∧ (decode cL_isFalling 3 = .ok (.invokevirtual 104, 3)) ∧ (decode cL_isFalling 6 = .ok (.ifCond .eq 7, 3)) ∧ (decode cL_isFalling 9 = .ok (.lconst 1, 1)) ∧ (decode cL_isFalling 10 = .ok (.goto 4, 3)) ∧ (decode cL_isFalling 13 = .ok (.lconst 0, 1)) ∧ (decode cL_isFalling 14 = .ok (.putfield 13, 3)) ∧ (decode cL_isFalling 17 = .ok (.goto 6, 3)) ∧ (decode cL_isFalling 20 = .ok (.astore_n 3, 1)) ∧ (decode cL_isFalling 21 = .ok (.iconst 1, 1)) ∧ (decode cL_isFalling 22 = .ok (.ireturn, 1)) ∧ (decode cL_isFalling 23 = .ok (.iconst 0, 1)) ∧ (decode cL_isFalling 24 = .ok (.ireturn, 1)) := by decide +kernel
theorem dL_isFalling_0 : decode cL_isFalling 0 = .ok (.aload_n 2, 1) := bL_isFalling_0.1
theorem dL_isFalling_1 : decode cL_isFalling 1 = .ok (.aload_n 0, 1) := bL_isFalling_0.2.1
theorem dL_isFalling_2 : decode cL_isFalling 2 = .ok (.iload_n 1, 1) := bL_isFalling_0.2.2.1
theorem dL_isFalling_3 : decode cL_isFalling 3 = .ok (.invokevirtual 104, 3) := bL_isFalling_0.2.2.2.1
theorem dL_isFalling_6 : decode cL_isFalling 6 = .ok (.ifCond .eq 7, 3) := bL_isFalling_0.2.2.2.2.1
theorem dL_isFalling_9 : decode cL_isFalling 9 = .ok (.lconst 1, 1) := bL_isFalling_0.2.2.2.2.2.1
theorem dL_isFalling_10 : decode cL_isFalling 10 = .ok (.goto 4, 3) := bL_isFalling_0.2.2.2.2.2.2.1
theorem dL_isFalling_13 : decode cL_isFalling 13 = .ok (.lconst 0, 1) := bL_isFalling_0.2.2.2.2.2.2.2.1
theorem dL_isFalling_14 : decode cL_isFalling 14 = .ok (.putfield 13, 3) := bL_isFalling_0.2.2.2.2.2.2.2.2.1
theorem dL_isFalling_17 : decode cL_isFalling 17 = .ok (.goto 6, 3) := bL_isFalling_0.2.2.2.2.2.2.2.2.2.1
theorem dL_isFalling_20 : decode cL_isFalling 20 = .ok (.astore_n 3, 1) := bL_isFalling_0.2.2.2.2.2.2.2.2.2.2.1
theorem dL_isFalling_21 : decode cL_isFalling 21 = .ok (.iconst 1, 1) := bL_isFalling_0.2.2.2.2.2.2.2.2.2.2.2.1
theorem dL_isFalling_22 : decode cL_isFalling 22 = .ok (.ireturn, 1) := bL_isFalling_0.2.2.2.2.2.2.2.2.2.2.2.2.1
theorem dL_isFalling_23 : decode cL_isFalling 23 = .ok (.iconst 0, 1) := bL_isFalling_0.2.2.2.2.2.2.2.2.2.2.2.2.2.1
theorem dL_isFalling_24 : decode cL_isFalling 24 = .ok (.ireturn, 1) := bL_isFalling_0.2.2.2.2.2.2.2.2.2.2.2.2.2.2
set_option maxRecDepth 100000 in
theorem bL_isKept_0 : (decode cL_isKept 0 = .ok (.aload_n 2, 1)) ∧ (decode cL_isKept 1 = .ok (.aload_n 0, 1)) ∧ (decode cL_isKept 2 = .ok (.iload_n 1, 1)) ∧ (decode cL_isKept 3 = .ok (.invokevirtual 107, 3)) ∧ (decode cL_isKept 6 = .ok (.ifCond .eq 7, 3)) ∧ (decode cL_isKept 9 = .ok (.lconst 1, 1)) ∧ (decode cL_isKept 10 = .ok (.goto 4, 3)) ∧ (decode cL_isKept 13 = .ok (.lconst 0, 1)) ∧ (decode cL_isKept 14 = .ok (.putfield 13, 3)) ∧ (decode cL_isKept 17 = .ok (.goto 6, 3)) ∧ (decode cL_isKept 20 = .ok (.astore_n 3, 1)) ∧ (decode cL_isKept 21 = .ok (.iconst 1, 1)) ∧ (decode cL_isKept 22 = .ok (.ireturn, 1)) ∧ (decode cL_isKept 23 = .ok (.iconst 0, 1)) ∧ (decode cL_isKept 24 = .ok (.ireturn, 1)) := by decide +kernel
theorem dL_isKept_0 : decode cL_isKept 0 = .ok (.aload_n 2, 1) := bL_isKept_0.1
theorem dL_isKept_1 : decode cL_isKept 1 = .ok (.aload_n 0, 1) := bL_isKept_0.2.1
theorem dL_isKept_2 : decode cL_isKept 2 = .ok (.iload_n 1, 1) := bL_isKept_0.2.2.1
theorem dL_isKept_3 : decode cL_isKept 3 = .ok (.invokevirtual 107, 3) := bL_isKept_0.2.2.2.1
theorem dL_isKept_6 : decode cL_isKept 6 = .ok (.ifCond .eq 7, 3) := bL_isKept_0.2.2.2.2.1
theorem dL_isKept_9 : decode cL_isKept 9 = .ok (.lconst 1, 1) := bL_isKept_0.2.2.2.2.2.1
theorem dL_isKept_10 : decode cL_isKept 10 = .ok (.goto 4, 3) := bL_isKept_0.2.2.2.2.2.2.1
theorem dL_isKept_13 : decode cL_isKept 13 = .ok (.lconst 0, 1) := bL_isKept_0.2.2.2.2.2.2.2.1
theorem dL_isKept_14 : decode cL_isKept 14 = .ok (.putfield 13, 3) := bL_isKept_0.2.2.2.2.2.2.2.2.1
theorem dL_isKept_17 : decode cL_isKept 17 = .ok (.goto 6, 3) := bL_isKept_0.2.2.2.2.2.2.2.2.2.1
theorem dL_isKept_20 : decode cL_isKept 20 = .ok (.astore_n 3, 1) := bL_isKept_0.2.2.2.2.2.2.2.2.2.2.1
theorem dL_isKept_21 : decode cL_isKept 21 = .ok (.iconst 1, 1) := bL_isKept_0.2.2.2.2.2.2.2.2.2.2.2.1
theorem dL_isKept_22 : decode cL_isKept 22 = .ok (.ireturn, 1) := bL_isKept_0.2.2.2.2.2.2.2.2.2.2.2.2.1
theorem dL_isKept_23 : decode cL_isKept 23 = .ok (.iconst 0, 1) := bL_isKept_0.2.2.2.2.2.2.2.2.2.2.2.2.2.1
theorem dL_isKept_24 : decode cL_isKept 24 = .ok (.ireturn, 1) := bL_isKept_0.2.2.2.2.2.2.2.2.2.2.2.2.2.2
set_option maxRecDepth 100000 in
theorem bL_wrong_0 : (decode cL_wrong 0 = .ok (.aload_n 3, 1)) ∧ (decode cL_wrong 1 = .ok (.aload_n 0, 1)) ∧ (decode cL_wrong 2 = .ok (.iload_n 1, 1)) ∧ (decode cL_wrong 3 = .ok (.iload_n 2, 1)) ∧ (decode cL_wrong 4 = .ok (.invokevirtual 110, 3)) ∧ (decode cL_wrong 7 = .ok (.i2l, 1)) ∧ (decode cL_wrong 8 = .ok (.putfield 13, 3)) ∧ (decode cL_wrong 11 = .ok (.goto 11, 3)) ∧ (decode cL_wrong 14 = .ok (.astore 4, 2)) ∧ (decode cL_wrong 16 = .ok (.iconst 1, 1)) ∧ (decode cL_wrong 17 = .ok (.ireturn, 1)) ∧ (decode cL_wrong 18 = .ok (.astore 4, 2)) ∧ (decode cL_wrong 20 = .ok (.iconst 2, 1)) ∧ (decode cL_wrong 21 = .ok (.ireturn, 1)) ∧ (decode cL_wrong 22 = .ok (.iconst 0, 1)) ∧ (decode cL_wrong 23 = .ok (.ireturn, 1)) := by decide +kernel
theorem dL_wrong_0 : decode cL_wrong 0 = .ok (.aload_n 3, 1) := bL_wrong_0.1
theorem dL_wrong_1 : decode cL_wrong 1 = .ok (.aload_n 0, 1) := bL_wrong_0.2.1
theorem dL_wrong_2 : decode cL_wrong 2 = .ok (.iload_n 1, 1) := bL_wrong_0.2.2.1
theorem dL_wrong_3 : decode cL_wrong 3 = .ok (.iload_n 2, 1) := bL_wrong_0.2.2.2.1
theorem dL_wrong_4 : decode cL_wrong 4 = .ok (.invokevirtual 110, 3) := bL_wrong_0.2.2.2.2.1
theorem dL_wrong_7 : decode cL_wrong 7 = .ok (.i2l, 1) := bL_wrong_0.2.2.2.2.2.1
theorem dL_wrong_8 : decode cL_wrong 8 = .ok (.putfield 13, 3) := bL_wrong_0.2.2.2.2.2.2.1
theorem dL_wrong_11 : decode cL_wrong 11 = .ok (.goto 11, 3) := bL_wrong_0.2.2.2.2.2.2.2.1
theorem dL_wrong_14 : decode cL_wrong 14 = .ok (.astore 4, 2) := bL_wrong_0.2.2.2.2.2.2.2.2.1
theorem dL_wrong_16 : decode cL_wrong 16 = .ok (.iconst 1, 1) := bL_wrong_0.2.2.2.2.2.2.2.2.2.1
theorem dL_wrong_17 : decode cL_wrong 17 = .ok (.ireturn, 1) := bL_wrong_0.2.2.2.2.2.2.2.2.2.2.1
theorem dL_wrong_18 : decode cL_wrong 18 = .ok (.astore 4, 2) := bL_wrong_0.2.2.2.2.2.2.2.2.2.2.2.1
theorem dL_wrong_20 : decode cL_wrong 20 = .ok (.iconst 2, 1) := bL_wrong_0.2.2.2.2.2.2.2.2.2.2.2.2.1
theorem dL_wrong_21 : decode cL_wrong 21 = .ok (.ireturn, 1) := bL_wrong_0.2.2.2.2.2.2.2.2.2.2.2.2.2.1
theorem dL_wrong_22 : decode cL_wrong 22 = .ok (.iconst 0, 1) := bL_wrong_0.2.2.2.2.2.2.2.2.2.2.2.2.2.2.1
theorem dL_wrong_23 : decode cL_wrong 23 = .ok (.ireturn, 1) := bL_wrong_0.2.2.2.2.2.2.2.2.2.2.2.2.2.2.2
set_option maxRecDepth 100000 in
theorem bL_right_0 : (decode cL_right 0 = .ok (.aload_n 2, 1)) ∧ (decode cL_right 1 = .ok (.aload_n 0, 1)) ∧ (decode cL_right 2 = .ok (.iload_n 1, 1)) ∧ (decode cL_right 3 = .ok (.invokevirtual 113, 3)) ∧ (decode cL_right 6 = .ok (.i2l, 1)) ∧ (decode cL_right 7 = .ok (.putfield 13, 3)) ∧ (decode cL_right 10 = .ok (.goto 6, 3)) ∧ (decode cL_right 13 = .ok (.astore_n 3, 1)) ∧ (decode cL_right 14 = .ok (.iconst 1, 1)) ∧ (decode cL_right 15 = .ok (.ireturn, 1)) ∧ (decode cL_right 16 = .ok (.iconst 0, 1)) ∧ (decode cL_right 17 = .ok (.ireturn, 1)) := by decide +kernel
theorem dL_right_0 : decode cL_right 0 = .ok (.aload_n 2, 1) := bL_right_0.1
theorem dL_right_1 : decode cL_right 1 = .ok (.aload_n 0, 1) := bL_right_0.2.1
theorem dL_right_2 : decode cL_right 2 = .ok (.iload_n 1, 1) := bL_right_0.2.2.1
theorem dL_right_3 : decode cL_right 3 = .ok (.invokevirtual 113, 3) := bL_right_0.2.2.2.1
theorem dL_right_6 : decode cL_right 6 = .ok (.i2l, 1) := bL_right_0.2.2.2.2.1
theorem dL_right_7 : decode cL_right 7 = .ok (.putfield 13, 3) := bL_right_0.2.2.2.2.2.1
theorem dL_right_10 : decode cL_right 10 = .ok (.goto 6, 3) := bL_right_0.2.2.2.2.2.2.1
theorem dL_right_13 : decode cL_right 13 = .ok (.astore_n 3, 1) := bL_right_0.2.2.2.2.2.2.2.1
theorem dL_right_14 : decode cL_right 14 = .ok (.iconst 1, 1) := bL_right_0.2.2.2.2.2.2.2.2.1
theorem dL_right_15 : decode cL_right 15 = .ok (.ireturn, 1) := bL_right_0.2.2.2.2.2.2.2.2.2.1
theorem dL_right_16 : decode cL_right 16 = .ok (.iconst 0, 1) := bL_right_0.2.2.2.2.2.2.2.2.2.2.1
theorem dL_right_17 : decode cL_right 17 = .ok (.ireturn, 1) := bL_right_0.2.2.2.2.2.2.2.2.2.2.2
set_option maxRecDepth 100000 in
theorem bL_ties_0 : (decode cL_ties 0 = .ok (.aload_n 2, 1)) ∧ (decode cL_ties 1 = .ok (.aload_n 0, 1)) ∧ (decode cL_ties 2 = .ok (.iload_n 1, 1)) ∧ (decode cL_ties 3 = .ok (.invokevirtual 116, 3)) ∧ (decode cL_ties 6 = .ok (.i2l, 1)) ∧ (decode cL_ties 7 = .ok (.putfield 13, 3)) ∧ (decode cL_ties 10 = .ok (.goto 6, 3)) ∧ (decode cL_ties 13 = .ok (.astore_n 3, 1)) ∧ (decode cL_ties 14 = .ok (.iconst 1, 1)) ∧ (decode cL_ties 15 = .ok (.ireturn, 1)) ∧ (decode cL_ties 16 = .ok (.iconst 0, 1)) ∧ (decode cL_ties 17 = .ok (.ireturn, 1)) := by decide +kernel
theorem dL_ties_0 : decode cL_ties 0 = .ok (.aload_n 2, 1) := bL_ties_0.1
theorem dL_ties_1 : decode cL_ties 1 = .ok (.aload_n 0, 1) := bL_ties_0.2.1
theorem dL_ties_2 : decode cL_ties 2 = .ok (.iload_n 1, 1) := bL_ties_0.2.2.1
theorem dL_ties_3 : decode cL_ties 3 = .ok (.invokevirtual 116, 3) := bL_ties_0.2.2.2.1
theorem dL_ties_6 : decode cL_ties 6 = .ok (.i2l, 1) := bL_ties_0.2.2.2.2.1
theorem dL_ties_7 : decode cL_ties 7 = .ok (.putfield 13, 3) := bL_ties_0.2.2.2.2.2.1
theorem dL_ties_10 : decode cL_ties 10 = .ok (.goto 6, 3) := bL_ties_0.2.2.2.2.2.2.1
theorem dL_ties_13 : decode cL_ties 13 = .ok (.astore_n 3, 1) := bL_ties_0.2.2.2.2.2.2.2.1
theorem dL_ties_14 : decode cL_ties 14 = .ok (.iconst 1, 1) := bL_ties_0.2.2.2.2.2.2.2.2.1
theorem dL_ties_15 : decode cL_ties 15 = .ok (.ireturn, 1) := bL_ties_0.2.2.2.2.2.2.2.2.2.1
theorem dL_ties_16 : decode cL_ties 16 = .ok (.iconst 0, 1) := bL_ties_0.2.2.2.2.2.2.2.2.2.2.1
theorem dL_ties_17 : decode cL_ties 17 = .ok (.ireturn, 1) := bL_ties_0.2.2.2.2.2.2.2.2.2.2.2
set_option maxRecDepth 100000 in
theorem bL_runs_0 : (decode cL_runs 0 = .ok (.aload_n 2, 1)) ∧ (decode cL_runs 1 = .ok (.aload_n 0, 1)) ∧ (decode cL_runs 2 = .ok (.iload_n 1, 1)) ∧ (decode cL_runs 3 = .ok (.invokevirtual 119, 3)) ∧ (decode cL_runs 6 = .ok (.i2l, 1)) ∧ (decode cL_runs 7 = .ok (.putfield 13, 3)) ∧ (decode cL_runs 10 = .ok (.goto 6, 3)) ∧ (decode cL_runs 13 = .ok (.astore_n 3, 1)) ∧ (decode cL_runs 14 = .ok (.iconst 1, 1)) ∧ (decode cL_runs 15 = .ok (.ireturn, 1)) ∧ (decode cL_runs 16 = .ok (.iconst 0, 1)) ∧ (decode cL_runs 17 = .ok (.ireturn, 1)) := by decide +kernel
theorem dL_runs_0 : decode cL_runs 0 = .ok (.aload_n 2, 1) := bL_runs_0.1
theorem dL_runs_1 : decode cL_runs 1 = .ok (.aload_n 0, 1) := bL_runs_0.2.1
theorem dL_runs_2 : decode cL_runs 2 = .ok (.iload_n 1, 1) := bL_runs_0.2.2.1
theorem dL_runs_3 : decode cL_runs 3 = .ok (.invokevirtual 119, 3) := bL_runs_0.2.2.2.1
theorem dL_runs_6 : decode cL_runs 6 = .ok (.i2l, 1) := bL_runs_0.2.2.2.2.1
theorem dL_runs_7 : decode cL_runs 7 = .ok (.putfield 13, 3) := bL_runs_0.2.2.2.2.2.1
theorem dL_runs_10 : decode cL_runs 10 = .ok (.goto 6, 3) := bL_runs_0.2.2.2.2.2.2.1
theorem dL_runs_13 : decode cL_runs 13 = .ok (.astore_n 3, 1) := bL_runs_0.2.2.2.2.2.2.2.1
theorem dL_runs_14 : decode cL_runs 14 = .ok (.iconst 1, 1) := bL_runs_0.2.2.2.2.2.2.2.2.1
theorem dL_runs_15 : decode cL_runs 15 = .ok (.ireturn, 1) := bL_runs_0.2.2.2.2.2.2.2.2.2.1
theorem dL_runs_16 : decode cL_runs 16 = .ok (.iconst 0, 1) := bL_runs_0.2.2.2.2.2.2.2.2.2.2.1
theorem dL_runs_17 : decode cL_runs 17 = .ok (.ireturn, 1) := bL_runs_0.2.2.2.2.2.2.2.2.2.2.2
set_option maxRecDepth 100000 in
theorem bL_longest_0 : (decode cL_longest 0 = .ok (.aload_n 2, 1)) ∧ (decode cL_longest 1 = .ok (.aload_n 0, 1)) ∧ (decode cL_longest 2 = .ok (.iload_n 1, 1)) ∧ (decode cL_longest 3 = .ok (.invokevirtual 122, 3)) ∧ (decode cL_longest 6 = .ok (.i2l, 1)) ∧ (decode cL_longest 7 = .ok (.putfield 13, 3)) ∧ (decode cL_longest 10 = .ok (.goto 6, 3)) ∧ (decode cL_longest 13 = .ok (.astore_n 3, 1)) ∧ (decode cL_longest 14 = .ok (.iconst 1, 1)) ∧ (decode cL_longest 15 = .ok (.ireturn, 1)) ∧ (decode cL_longest 16 = .ok (.iconst 0, 1)) ∧ (decode cL_longest 17 = .ok (.ireturn, 1)) := by decide +kernel
theorem dL_longest_0 : decode cL_longest 0 = .ok (.aload_n 2, 1) := bL_longest_0.1
theorem dL_longest_1 : decode cL_longest 1 = .ok (.aload_n 0, 1) := bL_longest_0.2.1
theorem dL_longest_2 : decode cL_longest 2 = .ok (.iload_n 1, 1) := bL_longest_0.2.2.1
theorem dL_longest_3 : decode cL_longest 3 = .ok (.invokevirtual 122, 3) := bL_longest_0.2.2.2.1
theorem dL_longest_6 : decode cL_longest 6 = .ok (.i2l, 1) := bL_longest_0.2.2.2.2.1
theorem dL_longest_7 : decode cL_longest 7 = .ok (.putfield 13, 3) := bL_longest_0.2.2.2.2.2.1
theorem dL_longest_10 : decode cL_longest 10 = .ok (.goto 6, 3) := bL_longest_0.2.2.2.2.2.2.1
theorem dL_longest_13 : decode cL_longest 13 = .ok (.astore_n 3, 1) := bL_longest_0.2.2.2.2.2.2.2.1
theorem dL_longest_14 : decode cL_longest 14 = .ok (.iconst 1, 1) := bL_longest_0.2.2.2.2.2.2.2.2.1
theorem dL_longest_15 : decode cL_longest 15 = .ok (.ireturn, 1) := bL_longest_0.2.2.2.2.2.2.2.2.2.1
theorem dL_longest_16 : decode cL_longest 16 = .ok (.iconst 0, 1) := bL_longest_0.2.2.2.2.2.2.2.2.2.2.1
theorem dL_longest_17 : decode cL_longest 17 = .ok (.ireturn, 1) := bL_longest_0.2.2.2.2.2.2.2.2.2.2.2
set_option maxRecDepth 100000 in
theorem bL_count_0 : (decode cL_count 0 = .ok (.aload_n 3, 1)) ∧ (decode cL_count 1 = .ok (.aload_n 0, 1)) ∧ (decode cL_count 2 = .ok (.iload_n 1, 1)) ∧ (decode cL_count 3 = .ok (.iload_n 2, 1)) ∧ (decode cL_count 4 = .ok (.invokevirtual 125, 3)) ∧ (decode cL_count 7 = .ok (.i2l, 1)) ∧ (decode cL_count 8 = .ok (.putfield 13, 3)) ∧ (decode cL_count 11 = .ok (.goto 11, 3)) ∧ (decode cL_count 14 = .ok (.astore 4, 2)) ∧ (decode cL_count 16 = .ok (.iconst 1, 1)) ∧ (decode cL_count 17 = .ok (.ireturn, 1)) ∧ (decode cL_count 18 = .ok (.astore 4, 2)) ∧ (decode cL_count 20 = .ok (.iconst 2, 1)) ∧ (decode cL_count 21 = .ok (.ireturn, 1)) ∧ (decode cL_count 22 = .ok (.iconst 0, 1)) ∧ (decode cL_count 23 = .ok (.ireturn, 1)) := by decide +kernel
theorem dL_count_0 : decode cL_count 0 = .ok (.aload_n 3, 1) := bL_count_0.1
theorem dL_count_1 : decode cL_count 1 = .ok (.aload_n 0, 1) := bL_count_0.2.1
theorem dL_count_2 : decode cL_count 2 = .ok (.iload_n 1, 1) := bL_count_0.2.2.1
theorem dL_count_3 : decode cL_count 3 = .ok (.iload_n 2, 1) := bL_count_0.2.2.2.1
theorem dL_count_4 : decode cL_count 4 = .ok (.invokevirtual 125, 3) := bL_count_0.2.2.2.2.1
theorem dL_count_7 : decode cL_count 7 = .ok (.i2l, 1) := bL_count_0.2.2.2.2.2.1
theorem dL_count_8 : decode cL_count 8 = .ok (.putfield 13, 3) := bL_count_0.2.2.2.2.2.2.1
theorem dL_count_11 : decode cL_count 11 = .ok (.goto 11, 3) := bL_count_0.2.2.2.2.2.2.2.1
theorem dL_count_14 : decode cL_count 14 = .ok (.astore 4, 2) := bL_count_0.2.2.2.2.2.2.2.2.1
theorem dL_count_16 : decode cL_count 16 = .ok (.iconst 1, 1) := bL_count_0.2.2.2.2.2.2.2.2.2.1
theorem dL_count_17 : decode cL_count 17 = .ok (.ireturn, 1) := bL_count_0.2.2.2.2.2.2.2.2.2.2.1
theorem dL_count_18 : decode cL_count 18 = .ok (.astore 4, 2) := bL_count_0.2.2.2.2.2.2.2.2.2.2.2.1
theorem dL_count_20 : decode cL_count 20 = .ok (.iconst 2, 1) := bL_count_0.2.2.2.2.2.2.2.2.2.2.2.2.1
theorem dL_count_21 : decode cL_count 21 = .ok (.ireturn, 1) := bL_count_0.2.2.2.2.2.2.2.2.2.2.2.2.2.1
theorem dL_count_22 : decode cL_count 22 = .ok (.iconst 0, 1) := bL_count_0.2.2.2.2.2.2.2.2.2.2.2.2.2.2.1
theorem dL_count_23 : decode cL_count 23 = .ok (.ireturn, 1) := bL_count_0.2.2.2.2.2.2.2.2.2.2.2.2.2.2.2
set_option maxRecDepth 100000 in
theorem bL_below_0 : (decode cL_below 0 = .ok (.aload_n 3, 1)) ∧ (decode cL_below 1 = .ok (.aload_n 0, 1)) ∧ (decode cL_below 2 = .ok (.iload_n 1, 1)) ∧ (decode cL_below 3 = .ok (.iload_n 2, 1)) ∧ (decode cL_below 4 = .ok (.invokevirtual 128, 3)) ∧ (decode cL_below 7 = .ok (.i2l, 1)) ∧ (decode cL_below 8 = .ok (.putfield 13, 3)) ∧ (decode cL_below 11 = .ok (.goto 11, 3)) ∧ (decode cL_below 14 = .ok (.astore 4, 2)) ∧ (decode cL_below 16 = .ok (.iconst 1, 1)) ∧ (decode cL_below 17 = .ok (.ireturn, 1)) ∧ (decode cL_below 18 = .ok (.astore 4, 2)) ∧ (decode cL_below 20 = .ok (.iconst 2, 1)) ∧ (decode cL_below 21 = .ok (.ireturn, 1)) ∧ (decode cL_below 22 = .ok (.iconst 0, 1)) ∧ (decode cL_below 23 = .ok (.ireturn, 1)) := by decide +kernel
theorem dL_below_0 : decode cL_below 0 = .ok (.aload_n 3, 1) := bL_below_0.1
theorem dL_below_1 : decode cL_below 1 = .ok (.aload_n 0, 1) := bL_below_0.2.1
theorem dL_below_2 : decode cL_below 2 = .ok (.iload_n 1, 1) := bL_below_0.2.2.1
theorem dL_below_3 : decode cL_below 3 = .ok (.iload_n 2, 1) := bL_below_0.2.2.2.1
theorem dL_below_4 : decode cL_below 4 = .ok (.invokevirtual 128, 3) := bL_below_0.2.2.2.2.1
theorem dL_below_7 : decode cL_below 7 = .ok (.i2l, 1) := bL_below_0.2.2.2.2.2.1
theorem dL_below_8 : decode cL_below 8 = .ok (.putfield 13, 3) := bL_below_0.2.2.2.2.2.2.1
theorem dL_below_11 : decode cL_below 11 = .ok (.goto 11, 3) := bL_below_0.2.2.2.2.2.2.2.1
theorem dL_below_14 : decode cL_below 14 = .ok (.astore 4, 2) := bL_below_0.2.2.2.2.2.2.2.2.1
theorem dL_below_16 : decode cL_below 16 = .ok (.iconst 1, 1) := bL_below_0.2.2.2.2.2.2.2.2.2.1
theorem dL_below_17 : decode cL_below 17 = .ok (.ireturn, 1) := bL_below_0.2.2.2.2.2.2.2.2.2.2.1
theorem dL_below_18 : decode cL_below 18 = .ok (.astore 4, 2) := bL_below_0.2.2.2.2.2.2.2.2.2.2.2.1
theorem dL_below_20 : decode cL_below 20 = .ok (.iconst 2, 1) := bL_below_0.2.2.2.2.2.2.2.2.2.2.2.2.1
theorem dL_below_21 : decode cL_below 21 = .ok (.ireturn, 1) := bL_below_0.2.2.2.2.2.2.2.2.2.2.2.2.2.1
theorem dL_below_22 : decode cL_below 22 = .ok (.iconst 0, 1) := bL_below_0.2.2.2.2.2.2.2.2.2.2.2.2.2.2.1
theorem dL_below_23 : decode cL_below 23 = .ok (.ireturn, 1) := bL_below_0.2.2.2.2.2.2.2.2.2.2.2.2.2.2.2
set_option maxRecDepth 100000 in
theorem bL_first_0 : (decode cL_first 0 = .ok (.aload 4, 2)) ∧ (decode cL_first 2 = .ok (.aload_n 0, 1)) ∧ (decode cL_first 3 = .ok (.iload_n 1, 1)) ∧ (decode cL_first 4 = .ok (.iload_n 2, 1)) ∧ (decode cL_first 5 = .ok (.iload_n 3, 1)) ∧ (decode cL_first 6 = .ok (.invokevirtual 131, 3)) ∧ (decode cL_first 9 = .ok (.i2l, 1)) ∧ (decode cL_first 10 = .ok (.putfield 13, 3)) ∧ (decode cL_first 13 = .ok (.goto 11, 3)) ∧ (decode cL_first 16 = .ok (.astore 5, 2)) ∧ (decode cL_first 18 = .ok (.iconst 1, 1)) ∧ (decode cL_first 19 = .ok (.ireturn, 1)) ∧ (decode cL_first 20 = .ok (.astore 5, 2)) ∧ (decode cL_first 22 = .ok (.iconst 2, 1)) ∧ (decode cL_first 23 = .ok (.ireturn, 1)) ∧ (decode cL_first 24 = .ok (.iconst 0, 1)) := by decide +kernel
theorem dL_first_0 : decode cL_first 0 = .ok (.aload 4, 2) := bL_first_0.1
theorem dL_first_2 : decode cL_first 2 = .ok (.aload_n 0, 1) := bL_first_0.2.1
theorem dL_first_3 : decode cL_first 3 = .ok (.iload_n 1, 1) := bL_first_0.2.2.1
theorem dL_first_4 : decode cL_first 4 = .ok (.iload_n 2, 1) := bL_first_0.2.2.2.1
theorem dL_first_5 : decode cL_first 5 = .ok (.iload_n 3, 1) := bL_first_0.2.2.2.2.1
theorem dL_first_6 : decode cL_first 6 = .ok (.invokevirtual 131, 3) := bL_first_0.2.2.2.2.2.1
theorem dL_first_9 : decode cL_first 9 = .ok (.i2l, 1) := bL_first_0.2.2.2.2.2.2.1
theorem dL_first_10 : decode cL_first 10 = .ok (.putfield 13, 3) := bL_first_0.2.2.2.2.2.2.2.1
theorem dL_first_13 : decode cL_first 13 = .ok (.goto 11, 3) := bL_first_0.2.2.2.2.2.2.2.2.1
theorem dL_first_16 : decode cL_first 16 = .ok (.astore 5, 2) := bL_first_0.2.2.2.2.2.2.2.2.2.1
theorem dL_first_18 : decode cL_first 18 = .ok (.iconst 1, 1) := bL_first_0.2.2.2.2.2.2.2.2.2.2.1
theorem dL_first_19 : decode cL_first 19 = .ok (.ireturn, 1) := bL_first_0.2.2.2.2.2.2.2.2.2.2.2.1
theorem dL_first_20 : decode cL_first 20 = .ok (.astore 5, 2) := bL_first_0.2.2.2.2.2.2.2.2.2.2.2.2.1
theorem dL_first_22 : decode cL_first 22 = .ok (.iconst 2, 1) := bL_first_0.2.2.2.2.2.2.2.2.2.2.2.2.2.1
theorem dL_first_23 : decode cL_first 23 = .ok (.ireturn, 1) := bL_first_0.2.2.2.2.2.2.2.2.2.2.2.2.2.2.1
theorem dL_first_24 : decode cL_first 24 = .ok (.iconst 0, 1) := bL_first_0.2.2.2.2.2.2.2.2.2.2.2.2.2.2.2
theorem dL_first_25 : decode cL_first 25 = .ok (.ireturn, 1) := by decide +kernel
set_option maxRecDepth 100000 in
theorem bL_end_0 : (decode cL_end 0 = .ok (.aload_n 3, 1)) ∧ (decode cL_end 1 = .ok (.aload_n 0, 1)) ∧ (decode cL_end 2 = .ok (.iload_n 1, 1)) ∧ (decode cL_end 3 = .ok (.iload_n 2, 1)) ∧ (decode cL_end 4 = .ok (.invokevirtual 135, 3)) ∧ (decode cL_end 7 = .ok (.i2l, 1)) ∧ (decode cL_end 8 = .ok (.putfield 13, 3)) ∧ (decode cL_end 11 = .ok (.goto 7, 3)) ∧ (decode cL_end 14 = .ok (.astore 4, 2)) ∧ (decode cL_end 16 = .ok (.iconst 1, 1)) ∧ (decode cL_end 17 = .ok (.ireturn, 1)) ∧ (decode cL_end 18 = .ok (.iconst 0, 1)) ∧ (decode cL_end 19 = .ok (.ireturn, 1)) := by decide +kernel
theorem dL_end_0 : decode cL_end 0 = .ok (.aload_n 3, 1) := bL_end_0.1
theorem dL_end_1 : decode cL_end 1 = .ok (.aload_n 0, 1) := bL_end_0.2.1
theorem dL_end_2 : decode cL_end 2 = .ok (.iload_n 1, 1) := bL_end_0.2.2.1
theorem dL_end_3 : decode cL_end 3 = .ok (.iload_n 2, 1) := bL_end_0.2.2.2.1
theorem dL_end_4 : decode cL_end 4 = .ok (.invokevirtual 135, 3) := bL_end_0.2.2.2.2.1
theorem dL_end_7 : decode cL_end 7 = .ok (.i2l, 1) := bL_end_0.2.2.2.2.2.1
theorem dL_end_8 : decode cL_end 8 = .ok (.putfield 13, 3) := bL_end_0.2.2.2.2.2.2.1
theorem dL_end_11 : decode cL_end 11 = .ok (.goto 7, 3) := bL_end_0.2.2.2.2.2.2.2.1
theorem dL_end_14 : decode cL_end 14 = .ok (.astore 4, 2) := bL_end_0.2.2.2.2.2.2.2.2.1
theorem dL_end_16 : decode cL_end 16 = .ok (.iconst 1, 1) := bL_end_0.2.2.2.2.2.2.2.2.2.1
theorem dL_end_17 : decode cL_end 17 = .ok (.ireturn, 1) := bL_end_0.2.2.2.2.2.2.2.2.2.2.1
theorem dL_end_18 : decode cL_end 18 = .ok (.iconst 0, 1) := bL_end_0.2.2.2.2.2.2.2.2.2.2.2.1
theorem dL_end_19 : decode cL_end 19 = .ok (.ireturn, 1) := bL_end_0.2.2.2.2.2.2.2.2.2.2.2.2
set_option maxRecDepth 100000 in
theorem bL_unlike_0 : (decode cL_unlike 0 = .ok (.aload_n 2, 1)) ∧ (decode cL_unlike 1 = .ok (.aload_n 0, 1)) ∧ (decode cL_unlike 2 = .ok (.iload_n 1, 1)) ∧ (decode cL_unlike 3 = .ok (.invokevirtual 139, 3)) ∧ (decode cL_unlike 6 = .ok (.i2l, 1)) ∧ (decode cL_unlike 7 = .ok (.putfield 13, 3)) ∧ (decode cL_unlike 10 = .ok (.goto 6, 3)) ∧ (decode cL_unlike 13 = .ok (.astore_n 3, 1)) ∧ (decode cL_unlike 14 = .ok (.iconst 1, 1)) ∧ (decode cL_unlike 15 = .ok (.ireturn, 1)) ∧ (decode cL_unlike 16 = .ok (.iconst 0, 1)) ∧ (decode cL_unlike 17 = .ok (.ireturn, 1)) := by decide +kernel
theorem dL_unlike_0 : decode cL_unlike 0 = .ok (.aload_n 2, 1) := bL_unlike_0.1
theorem dL_unlike_1 : decode cL_unlike 1 = .ok (.aload_n 0, 1) := bL_unlike_0.2.1
theorem dL_unlike_2 : decode cL_unlike 2 = .ok (.iload_n 1, 1) := bL_unlike_0.2.2.1
theorem dL_unlike_3 : decode cL_unlike 3 = .ok (.invokevirtual 139, 3) := bL_unlike_0.2.2.2.1
theorem dL_unlike_6 : decode cL_unlike 6 = .ok (.i2l, 1) := bL_unlike_0.2.2.2.2.1
theorem dL_unlike_7 : decode cL_unlike 7 = .ok (.putfield 13, 3) := bL_unlike_0.2.2.2.2.2.1
theorem dL_unlike_10 : decode cL_unlike 10 = .ok (.goto 6, 3) := bL_unlike_0.2.2.2.2.2.2.1
theorem dL_unlike_13 : decode cL_unlike 13 = .ok (.astore_n 3, 1) := bL_unlike_0.2.2.2.2.2.2.2.1
theorem dL_unlike_14 : decode cL_unlike 14 = .ok (.iconst 1, 1) := bL_unlike_0.2.2.2.2.2.2.2.2.1
theorem dL_unlike_15 : decode cL_unlike 15 = .ok (.ireturn, 1) := bL_unlike_0.2.2.2.2.2.2.2.2.2.1
theorem dL_unlike_16 : decode cL_unlike 16 = .ok (.iconst 0, 1) := bL_unlike_0.2.2.2.2.2.2.2.2.2.2.1
theorem dL_unlike_17 : decode cL_unlike 17 = .ok (.ireturn, 1) := bL_unlike_0.2.2.2.2.2.2.2.2.2.2.2
set_option maxRecDepth 100000 in
theorem bL_most_0 : (decode cL_most 0 = .ok (.aload_n 2, 1)) ∧ (decode cL_most 1 = .ok (.aload_n 0, 1)) ∧ (decode cL_most 2 = .ok (.iload_n 1, 1)) ∧ (decode cL_most 3 = .ok (.invokevirtual 142, 3)) ∧ (decode cL_most 6 = .ok (.i2l, 1)) ∧ (decode cL_most 7 = .ok (.putfield 13, 3)) ∧ (decode cL_most 10 = .ok (.goto 6, 3)) ∧ (decode cL_most 13 = .ok (.astore_n 3, 1)) ∧ (decode cL_most 14 = .ok (.iconst 1, 1)) ∧ (decode cL_most 15 = .ok (.ireturn, 1)) ∧ (decode cL_most 16 = .ok (.iconst 0, 1)) ∧ (decode cL_most 17 = .ok (.ireturn, 1)) := by decide +kernel
theorem dL_most_0 : decode cL_most 0 = .ok (.aload_n 2, 1) := bL_most_0.1
theorem dL_most_1 : decode cL_most 1 = .ok (.aload_n 0, 1) := bL_most_0.2.1
theorem dL_most_2 : decode cL_most 2 = .ok (.iload_n 1, 1) := bL_most_0.2.2.1
theorem dL_most_3 : decode cL_most 3 = .ok (.invokevirtual 142, 3) := bL_most_0.2.2.2.1
theorem dL_most_6 : decode cL_most 6 = .ok (.i2l, 1) := bL_most_0.2.2.2.2.1
theorem dL_most_7 : decode cL_most 7 = .ok (.putfield 13, 3) := bL_most_0.2.2.2.2.2.1
theorem dL_most_10 : decode cL_most 10 = .ok (.goto 6, 3) := bL_most_0.2.2.2.2.2.2.1
theorem dL_most_13 : decode cL_most 13 = .ok (.astore_n 3, 1) := bL_most_0.2.2.2.2.2.2.2.1
theorem dL_most_14 : decode cL_most 14 = .ok (.iconst 1, 1) := bL_most_0.2.2.2.2.2.2.2.2.1
theorem dL_most_15 : decode cL_most 15 = .ok (.ireturn, 1) := bL_most_0.2.2.2.2.2.2.2.2.2.1
theorem dL_most_16 : decode cL_most 16 = .ok (.iconst 0, 1) := bL_most_0.2.2.2.2.2.2.2.2.2.2.1
theorem dL_most_17 : decode cL_most 17 = .ok (.ireturn, 1) := bL_most_0.2.2.2.2.2.2.2.2.2.2.2
set_option maxRecDepth 100000 in
theorem bL_sum_0 : (decode cL_sum 0 = .ok (.aload_n 2, 1)) ∧ (decode cL_sum 1 = .ok (.aload_n 0, 1)) ∧ (decode cL_sum 2 = .ok (.iload_n 1, 1)) ∧ (decode cL_sum 3 = .ok (.invokevirtual 145, 3)) ∧ (decode cL_sum 6 = .ok (.i2l, 1)) ∧ (decode cL_sum 7 = .ok (.putfield 13, 3)) ∧ (decode cL_sum 10 = .ok (.goto 6, 3)) ∧ (decode cL_sum 13 = .ok (.astore_n 3, 1)) ∧ (decode cL_sum 14 = .ok (.iconst 1, 1)) ∧ (decode cL_sum 15 = .ok (.ireturn, 1)) ∧ (decode cL_sum 16 = .ok (.iconst 0, 1)) ∧ (decode cL_sum 17 = .ok (.ireturn, 1)) := by decide +kernel
theorem dL_sum_0 : decode cL_sum 0 = .ok (.aload_n 2, 1) := bL_sum_0.1
theorem dL_sum_1 : decode cL_sum 1 = .ok (.aload_n 0, 1) := bL_sum_0.2.1
theorem dL_sum_2 : decode cL_sum 2 = .ok (.iload_n 1, 1) := bL_sum_0.2.2.1
theorem dL_sum_3 : decode cL_sum 3 = .ok (.invokevirtual 145, 3) := bL_sum_0.2.2.2.1
theorem dL_sum_6 : decode cL_sum 6 = .ok (.i2l, 1) := bL_sum_0.2.2.2.2.1
theorem dL_sum_7 : decode cL_sum 7 = .ok (.putfield 13, 3) := bL_sum_0.2.2.2.2.2.1
theorem dL_sum_10 : decode cL_sum 10 = .ok (.goto 6, 3) := bL_sum_0.2.2.2.2.2.2.1
theorem dL_sum_13 : decode cL_sum 13 = .ok (.astore_n 3, 1) := bL_sum_0.2.2.2.2.2.2.2.1
theorem dL_sum_14 : decode cL_sum 14 = .ok (.iconst 1, 1) := bL_sum_0.2.2.2.2.2.2.2.2.1
theorem dL_sum_15 : decode cL_sum 15 = .ok (.ireturn, 1) := bL_sum_0.2.2.2.2.2.2.2.2.2.1
theorem dL_sum_16 : decode cL_sum 16 = .ok (.iconst 0, 1) := bL_sum_0.2.2.2.2.2.2.2.2.2.2.1
theorem dL_sum_17 : decode cL_sum 17 = .ok (.ireturn, 1) := bL_sum_0.2.2.2.2.2.2.2.2.2.2.2
set_option maxRecDepth 100000 in
theorem bL_same_0 : (decode cL_same 0 = .ok (.aload_n 3, 1)) ∧ (decode cL_same 1 = .ok (.aload_n 0, 1)) ∧ (decode cL_same 2 = .ok (.iload_n 1, 1)) ∧ (decode cL_same 3 = .ok (.iload_n 2, 1)) ∧ (decode cL_same 4 = .ok (.invokevirtual 148, 3)) ∧ (decode cL_same 7 = .ok (.ifCond .eq 7, 3)) ∧ (decode cL_same 10 = .ok (.lconst 1, 1)) ∧ (decode cL_same 11 = .ok (.goto 4, 3)) ∧ (decode cL_same 14 = .ok (.lconst 0, 1)) ∧ (decode cL_same 15 = .ok (.putfield 13, 3)) ∧ (decode cL_same 18 = .ok (.goto 7, 3)) ∧ (decode cL_same 21 = .ok (.astore 4, 2)) ∧ (decode cL_same 23 = .ok (.iconst 1, 1)) ∧ (decode cL_same 24 = .ok (.ireturn, 1)) ∧ (decode cL_same 25 = .ok (.iconst 0, 1)) ∧ (decode cL_same 26 = .ok (.ireturn, 1)) := by decide +kernel
theorem dL_same_0 : decode cL_same 0 = .ok (.aload_n 3, 1) := bL_same_0.1
theorem dL_same_1 : decode cL_same 1 = .ok (.aload_n 0, 1) := bL_same_0.2.1
theorem dL_same_2 : decode cL_same 2 = .ok (.iload_n 1, 1) := bL_same_0.2.2.1
theorem dL_same_3 : decode cL_same 3 = .ok (.iload_n 2, 1) := bL_same_0.2.2.2.1
theorem dL_same_4 : decode cL_same 4 = .ok (.invokevirtual 148, 3) := bL_same_0.2.2.2.2.1
theorem dL_same_7 : decode cL_same 7 = .ok (.ifCond .eq 7, 3) := bL_same_0.2.2.2.2.2.1
theorem dL_same_10 : decode cL_same 10 = .ok (.lconst 1, 1) := bL_same_0.2.2.2.2.2.2.1
theorem dL_same_11 : decode cL_same 11 = .ok (.goto 4, 3) := bL_same_0.2.2.2.2.2.2.2.1
theorem dL_same_14 : decode cL_same 14 = .ok (.lconst 0, 1) := bL_same_0.2.2.2.2.2.2.2.2.1
theorem dL_same_15 : decode cL_same 15 = .ok (.putfield 13, 3) := bL_same_0.2.2.2.2.2.2.2.2.2.1
theorem dL_same_18 : decode cL_same 18 = .ok (.goto 7, 3) := bL_same_0.2.2.2.2.2.2.2.2.2.2.1
theorem dL_same_21 : decode cL_same 21 = .ok (.astore 4, 2) := bL_same_0.2.2.2.2.2.2.2.2.2.2.2.1
theorem dL_same_23 : decode cL_same 23 = .ok (.iconst 1, 1) := bL_same_0.2.2.2.2.2.2.2.2.2.2.2.2.1
theorem dL_same_24 : decode cL_same 24 = .ok (.ireturn, 1) := bL_same_0.2.2.2.2.2.2.2.2.2.2.2.2.2.1
theorem dL_same_25 : decode cL_same 25 = .ok (.iconst 0, 1) := bL_same_0.2.2.2.2.2.2.2.2.2.2.2.2.2.2.1
theorem dL_same_26 : decode cL_same 26 = .ok (.ireturn, 1) := bL_same_0.2.2.2.2.2.2.2.2.2.2.2.2.2.2.2
set_option maxRecDepth 100000 in
theorem bL_bag_0 : (decode cL_bag 0 = .ok (.aload_n 3, 1)) ∧ (decode cL_bag 1 = .ok (.aload_n 0, 1)) ∧ (decode cL_bag 2 = .ok (.iload_n 1, 1)) ∧ (decode cL_bag 3 = .ok (.iload_n 2, 1)) ∧ (decode cL_bag 4 = .ok (.invokevirtual 152, 3)) ∧ (decode cL_bag 7 = .ok (.ifCond .eq 7, 3)) ∧ (decode cL_bag 10 = .ok (.lconst 1, 1)) ∧ (decode cL_bag 11 = .ok (.goto 4, 3)) ∧ (decode cL_bag 14 = .ok (.lconst 0, 1)) ∧ (decode cL_bag 15 = .ok (.putfield 13, 3)) ∧ (decode cL_bag 18 = .ok (.goto 7, 3)) ∧ (decode cL_bag 21 = .ok (.astore 4, 2)) ∧ (decode cL_bag 23 = .ok (.iconst 1, 1)) ∧ (decode cL_bag 24 = .ok (.ireturn, 1)) ∧ (decode cL_bag 25 = .ok (.iconst 0, 1)) ∧ (decode cL_bag 26 = .ok (.ireturn, 1)) := by decide +kernel
theorem dL_bag_0 : decode cL_bag 0 = .ok (.aload_n 3, 1) := bL_bag_0.1
theorem dL_bag_1 : decode cL_bag 1 = .ok (.aload_n 0, 1) := bL_bag_0.2.1
theorem dL_bag_2 : decode cL_bag 2 = .ok (.iload_n 1, 1) := bL_bag_0.2.2.1
theorem dL_bag_3 : decode cL_bag 3 = .ok (.iload_n 2, 1) := bL_bag_0.2.2.2.1
theorem dL_bag_4 : decode cL_bag 4 = .ok (.invokevirtual 152, 3) := bL_bag_0.2.2.2.2.1
theorem dL_bag_7 : decode cL_bag 7 = .ok (.ifCond .eq 7, 3) := bL_bag_0.2.2.2.2.2.1
theorem dL_bag_10 : decode cL_bag 10 = .ok (.lconst 1, 1) := bL_bag_0.2.2.2.2.2.2.1
theorem dL_bag_11 : decode cL_bag 11 = .ok (.goto 4, 3) := bL_bag_0.2.2.2.2.2.2.2.1
theorem dL_bag_14 : decode cL_bag 14 = .ok (.lconst 0, 1) := bL_bag_0.2.2.2.2.2.2.2.2.1
theorem dL_bag_15 : decode cL_bag 15 = .ok (.putfield 13, 3) := bL_bag_0.2.2.2.2.2.2.2.2.2.1
theorem dL_bag_18 : decode cL_bag 18 = .ok (.goto 7, 3) := bL_bag_0.2.2.2.2.2.2.2.2.2.2.1
theorem dL_bag_21 : decode cL_bag 21 = .ok (.astore 4, 2) := bL_bag_0.2.2.2.2.2.2.2.2.2.2.2.1
theorem dL_bag_23 : decode cL_bag 23 = .ok (.iconst 1, 1) := bL_bag_0.2.2.2.2.2.2.2.2.2.2.2.2.1
theorem dL_bag_24 : decode cL_bag 24 = .ok (.ireturn, 1) := bL_bag_0.2.2.2.2.2.2.2.2.2.2.2.2.2.1
theorem dL_bag_25 : decode cL_bag 25 = .ok (.iconst 0, 1) := bL_bag_0.2.2.2.2.2.2.2.2.2.2.2.2.2.2.1
theorem dL_bag_26 : decode cL_bag 26 = .ok (.ireturn, 1) := bL_bag_0.2.2.2.2.2.2.2.2.2.2.2.2.2.2.2
set_option maxRecDepth 100000 in
theorem bL_mark_0 : (decode cL_mark 0 = .ok (.aload_n 3, 1)) ∧ (decode cL_mark 1 = .ok (.aload_n 0, 1)) ∧ (decode cL_mark 2 = .ok (.iload_n 1, 1)) ∧ (decode cL_mark 3 = .ok (.iload_n 2, 1)) ∧ (decode cL_mark 4 = .ok (.invokevirtual 155, 3)) ∧ (decode cL_mark 7 = .ok (.i2l, 1)) ∧ (decode cL_mark 8 = .ok (.putfield 13, 3)) ∧ (decode cL_mark 11 = .ok (.goto 7, 3)) ∧ (decode cL_mark 14 = .ok (.astore 4, 2)) ∧ (decode cL_mark 16 = .ok (.iconst 1, 1)) ∧ (decode cL_mark 17 = .ok (.ireturn, 1)) ∧ (decode cL_mark 18 = .ok (.iconst 0, 1)) ∧ (decode cL_mark 19 = .ok (.ireturn, 1)) := by decide +kernel
theorem dL_mark_0 : decode cL_mark 0 = .ok (.aload_n 3, 1) := bL_mark_0.1
theorem dL_mark_1 : decode cL_mark 1 = .ok (.aload_n 0, 1) := bL_mark_0.2.1
theorem dL_mark_2 : decode cL_mark 2 = .ok (.iload_n 1, 1) := bL_mark_0.2.2.1
theorem dL_mark_3 : decode cL_mark 3 = .ok (.iload_n 2, 1) := bL_mark_0.2.2.2.1
theorem dL_mark_4 : decode cL_mark 4 = .ok (.invokevirtual 155, 3) := bL_mark_0.2.2.2.2.1
theorem dL_mark_7 : decode cL_mark 7 = .ok (.i2l, 1) := bL_mark_0.2.2.2.2.2.1
theorem dL_mark_8 : decode cL_mark 8 = .ok (.putfield 13, 3) := bL_mark_0.2.2.2.2.2.2.1
theorem dL_mark_11 : decode cL_mark 11 = .ok (.goto 7, 3) := bL_mark_0.2.2.2.2.2.2.2.1
theorem dL_mark_14 : decode cL_mark 14 = .ok (.astore 4, 2) := bL_mark_0.2.2.2.2.2.2.2.2.1
theorem dL_mark_16 : decode cL_mark 16 = .ok (.iconst 1, 1) := bL_mark_0.2.2.2.2.2.2.2.2.2.1
theorem dL_mark_17 : decode cL_mark 17 = .ok (.ireturn, 1) := bL_mark_0.2.2.2.2.2.2.2.2.2.2.1
theorem dL_mark_18 : decode cL_mark 18 = .ok (.iconst 0, 1) := bL_mark_0.2.2.2.2.2.2.2.2.2.2.2.1
theorem dL_mark_19 : decode cL_mark 19 = .ok (.ireturn, 1) := bL_mark_0.2.2.2.2.2.2.2.2.2.2.2.2
set_option maxRecDepth 100000 in
theorem bL_house_0 : (decode cL_house 0 = .ok (.aload_n 2, 1)) ∧ (decode cL_house 1 = .ok (.aload_n 0, 1)) ∧ (decode cL_house 2 = .ok (.iload_n 1, 1)) ∧ (decode cL_house 3 = .ok (.invokevirtual 158, 3)) ∧ (decode cL_house 6 = .ok (.i2l, 1)) ∧ (decode cL_house 7 = .ok (.putfield 13, 3)) ∧ (decode cL_house 10 = .ok (.goto 6, 3)) ∧ (decode cL_house 13 = .ok (.astore_n 3, 1)) ∧ (decode cL_house 14 = .ok (.iconst 1, 1)) ∧ (decode cL_house 15 = .ok (.ireturn, 1)) ∧ (decode cL_house 16 = .ok (.iconst 0, 1)) ∧ (decode cL_house 17 = .ok (.ireturn, 1)) := by decide +kernel
theorem dL_house_0 : decode cL_house 0 = .ok (.aload_n 2, 1) := bL_house_0.1
theorem dL_house_1 : decode cL_house 1 = .ok (.aload_n 0, 1) := bL_house_0.2.1
theorem dL_house_2 : decode cL_house 2 = .ok (.iload_n 1, 1) := bL_house_0.2.2.1
theorem dL_house_3 : decode cL_house 3 = .ok (.invokevirtual 158, 3) := bL_house_0.2.2.2.1
theorem dL_house_6 : decode cL_house 6 = .ok (.i2l, 1) := bL_house_0.2.2.2.2.1
theorem dL_house_7 : decode cL_house 7 = .ok (.putfield 13, 3) := bL_house_0.2.2.2.2.2.1
theorem dL_house_10 : decode cL_house 10 = .ok (.goto 6, 3) := bL_house_0.2.2.2.2.2.2.1
theorem dL_house_13 : decode cL_house 13 = .ok (.astore_n 3, 1) := bL_house_0.2.2.2.2.2.2.2.1
theorem dL_house_14 : decode cL_house 14 = .ok (.iconst 1, 1) := bL_house_0.2.2.2.2.2.2.2.2.1
theorem dL_house_15 : decode cL_house 15 = .ok (.ireturn, 1) := bL_house_0.2.2.2.2.2.2.2.2.2.1
theorem dL_house_16 : decode cL_house 16 = .ok (.iconst 0, 1) := bL_house_0.2.2.2.2.2.2.2.2.2.2.1
theorem dL_house_17 : decode cL_house 17 = .ok (.ireturn, 1) := bL_house_0.2.2.2.2.2.2.2.2.2.2.2

/-! ===== the law's helpers ===== -/
/-- an answer that v says, or kind 1 where a, or kind 2 where b -/
def oI (v : Value → Prop) (a b : Bool) (o : Nat × Value × cS) : Prop := (o.1 = 0 ∧ v o.2.1) ∨ (o.1 = 1 ∧ a = true) ∨ (o.1 = 2 ∧ b = true)
theorem dAt_o {v : Value → Prop} {b : Bool} {S : cS} {k : Nat} {x : Int32} {f : Nat → Nat × Value × cS} (hf : ∀ r, oI v true b (f r)) : oI v true b (dAt S k x f) := by
  unfold dAt
  split
  · exact Or.inr (Or.inl ⟨rfl, rfl⟩)
  · exact hf _
theorem dArg_o {v : Value → Prop} {a : Bool} {S : cS} {k : Nat} {x : Int32} {f : Nat → Nat × Value × cS} (hf : ∀ r, oI v a true (f r)) : oI v a true (dArg S k x f) := by
  unfold dArg
  split
  · exact Or.inr (Or.inr ⟨rfl, rfl⟩)
  · exact hf _
theorem dFit_o {v : Value → Prop} {a : Bool} {S : cS} {k : Bool} {o : Nat × Value × cS} (hf : oI v a true o) : oI v a true (dFit S k o) := by
  unfold dFit
  split
  · exact hf
  · exact Or.inr (Or.inr ⟨rfl, rfl⟩)
theorem dB_o {v : Value → Prop} {a : Bool} {S : cS} {x : Int32} {f : Nat → Nat × Value × cS} (hf : ∀ r, oI v a true (f r)) : oI v a true (dB S x f) := by
  unfold dB
  split
  · exact Or.inr (Or.inr ⟨rfl, rfl⟩)
  · exact hf _
theorem dKeep_o {v : Value → Prop} {b : Bool} {S : cS} {L : Nat} {x y : Int32} {f : Nat → Nat → Nat × Value × cS} (hf : ∀ p t, oI v true b (f p t)) : oI v true b (dKeep S L x y f) := by
  unfold dKeep
  split
  · exact Or.inr (Or.inl ⟨rfl, rfl⟩)
  · exact hf _ _
def vI (v : Value) : Prop := ∃ x, v = .int x
def vB (v : Value) : Prop := ∃ b : Bool, v = .int (mb b)
/-- what a helper of the law ends with: its code, the class behind the call, Out -/
def lOk (c : Nat) (S : cS) (o : Nat × Value × cS) (s : Value) (h : mH) (n : Nat) : Option Value → mH → Nat → Prop := fun v h' n' => v = some (.int (nI c)) ∧ n' = n ∧ cAt h' (if o.1 = 0 then o.2.2 else S) ∧ (∃ y, h' 38 = .inr (.inr (5, [.long y, s])) ∧ (o.1 = 0 → ∀ x, o.2.1 = .int x → y = x.toInt64)) ∧ ∀ j, 27 ≤ j → j ≠ 38 → h' j = h j
theorem cAt.fr2 {h h' : mH} {S : cS} (C : cAt h S) (hf : ∀ j, j < 27 → h' j = h j) : cAt h' S := by
  obtain ⟨c1, ⟨g, c2, c3⟩, c4, c5, ⟨z1, c6⟩, ⟨z2, c7⟩, ⟨z3, c8⟩, ⟨z4, c9⟩⟩ := C
  exact ⟨(hf _ (by omega)).trans c1, ⟨g, (hf _ (by omega)).trans c2, c3⟩, (hf _ (by omega)).trans c4, fun r hr => (c5 r hr).fr (fun j j1 j2 => hf _ (by omega)), ⟨z1, c6.fr (fun j j1 j2 => hf _ (by omega))⟩, ⟨z2, c7.fr (fun j j1 j2 => hf _ (by omega))⟩, ⟨z3, c8.fr (fun j j1 j2 => hf _ (by omega))⟩, ⟨z4, c9.fr (fun j j1 j2 => hf _ (by omega))⟩⟩
theorem oi_fill {S : cS} {row : Int32} {many : Int32} {pattern : Int32} {a : Int32} {b : Int32} : oI vI true true (sp_fill S row many pattern a b) := by
  unfold sp_fill
  repeat' first | exact Or.inl ⟨rfl, _, rfl⟩ | exact Or.inr (Or.inr ⟨rfl, rfl⟩) | exact Or.inr (Or.inl ⟨rfl, rfl⟩) | refine dAt_o (fun r => ?_) | refine dArg_o (fun r => ?_) | refine dFit_o ?_ | refine dB_o (fun r => ?_) | refine dKeep_o (fun p t => ?_) | split
abbrev rL_fill : Room := { frames := 8, cells := 5, slots := 30, locals := 138 }
set_option maxRecDepth 100000 in
theorem tL_fill_x {l : Launch} {h : mH} {n : Nat} {S : cS} {row : Int32} {many : Int32} {pattern : Int32} {a : Int32} {b : Int32} {y : Int64} {s : Value} (C : cAt h S) (O : h 38 = .inr (.inr (5, [.long y, s]))) {E : String} {h1 : mH} {n1 : Nat} (hx : cNo (sp_fill S row many pattern a b).1 h n E h1 n1) : mTX l mL_fill rL_fill (mKo rL_fill (lOk (sp_fill S row many pattern a b).1 S (sp_fill S row many pattern a b) s h n) mNX) 10 [.ref 0, .int row, .int many, .int pattern, .int a, .int b, .ref 38, .double 0] E h1 n1 (0 + rX2_fill.cells) (0 + rX2_fill.slots) := by
  obtain ⟨hE, rfl, rfl⟩ := hx
  rcases hE with ⟨rfl, hk⟩ | ⟨rfl, hk⟩
  · refine mt_catch (nm := "java/lang/IndexOutOfBoundsException") (pre := []) (suf := [(0, 17, 24, 21)]) (x := (0, 17, 20, 19)) rfl (fun z hz => by cases hz) _ rfl rfl (by decide) mw_397 mw_236 ?_
    show mT _ _ _ _ 20 [.ref 0, .int row, .int many, .int pattern, .int a, .int b, .ref 38, .double 0] [.float 0] _ _ _ _
    refine mp_astore dL_fill_20 (ls' := [.ref 0, .int row, .int many, .int pattern, .int a, .int b, .ref 38, .float 0]) rfl rfl (by decide) rfl ?_
    refine mt_iconst dL_fill_22 (v := nI 1) rfl ?_
    refine mt_ireturn dL_fill_23 rfl rfl (by simp only [rX2_fill, rL_fill]; omega) (by simp only [rX2_fill, rL_fill]; omega) ?_
    exact ⟨by rw [hk], rfl, by rw [if_neg (by rw [hk]; decide)]; exact C, ⟨_, O, fun z => absurd (hk.symm.trans z) (by decide)⟩, fun j j1 j2 => rfl⟩
  · refine mt_catch (nm := "java/lang/IllegalArgumentException") (pre := [(0, 17, 20, 19)]) (suf := []) (x := (0, 17, 24, 21)) rfl (fun z hz => by rw [List.mem_singleton.mp hz]; exact Or.inr ⟨by decide, mw_397, rfl⟩) _ rfl rfl (by decide) mw_398 mw_314 ?_
    show mT _ _ _ _ 24 [.ref 0, .int row, .int many, .int pattern, .int a, .int b, .ref 38, .double 0] [.float 0] _ _ _ _
    refine mp_astore dL_fill_24 (ls' := [.ref 0, .int row, .int many, .int pattern, .int a, .int b, .ref 38, .float 0]) rfl rfl (by decide) rfl ?_
    refine mt_iconst dL_fill_26 (v := nI 2) rfl ?_
    refine mt_ireturn dL_fill_27 rfl rfl (by simp only [rX2_fill, rL_fill]; omega) (by simp only [rX2_fill, rL_fill]; omega) ?_
    exact ⟨by rw [hk], rfl, by rw [if_neg (by rw [hk]; decide)]; exact C, ⟨_, O, fun z => absurd (hk.symm.trans z) (by decide)⟩, fun j j1 j2 => rfl⟩
set_option maxRecDepth 100000 in
theorem kL_fill {l : Launch} (hl : l.stackTraces = false) {h : mH} {n : Nat} {S : cS} {row : Int32} {many : Int32} {pattern : Int32} {a : Int32} {b : Int32} {y : Int64} {s : Value} (C : cAt h S) (O : h 38 = .inr (.inr (5, [.long y, s]))) : mC l mL_fill rL_fill [.ref 0, .int row, .int many, .int pattern, .int a, .int b, .ref 38] h n (lOk (sp_fill S row many pattern a b).1 S (sp_fill S row many pattern a b) s h n) mNX := by
  refine mm_enterH hl (by decide +kernel) (by intro hh; cases hh) rfl rfl (Nat.le_of_ble_eq_true rfl) ?_
  show mT _ _ _ _ 0 [.ref 0, .int row, .int many, .int pattern, .int a, .int b, .ref 38, .double 0] [] _ _ 0 0
  refine mt_aload dL_fill_0 rfl rfl ?_
  refine mt_aload_n dL_fill_2 rfl rfl ?_
  refine mt_iload_n dL_fill_3 rfl ?_
  refine mt_iload_n dL_fill_4 rfl ?_
  refine mt_iload_n dL_fill_5 rfl ?_
  refine mt_iload dL_fill_6 rfl ?_
  refine mt_iload dL_fill_8 rfl ?_
  refine mt_callV (N := mX2_fill) (Rc := rX2_fill) (As := [.int row, .int many, .int pattern, .int a, .int b]) (st := [.ref 38]) dL_fill_10 (kX2_fill hl C) sX2_fill mw_399 mKX2 rfl C.1 rfl (Nat.le_of_ble_eq_true rfl) ⟨⟨Nat.le_of_ble_eq_true rfl, Nat.le_of_ble_eq_true rfl⟩, (by simp only [rX2_fill, rL_fill]; omega), (by simp only [rX2_fill, rL_fill]; omega)⟩ (fun v1 h2 n3 c4 => ?_) (fun E h9 n9 hx => tL_fill_x C O hx)
  obtain ⟨c40, c4a, c4b, c4c, c4d⟩ := c4
  have z := oi_fill (S := S) (row := row) (many := many) (pattern := pattern) (a := a) (b := b)
  obtain ⟨x, hx⟩ : vI (sp_fill S row many pattern a b).2.1 := by rcases z with ⟨-, z⟩ | ⟨z, -⟩ | ⟨z, -⟩ <;> first | exact z | (rw [c40] at z; cases z)
  rw [hx] at c4a; rw [c4a, c4b]
  show mT _ _ _ _ 13 [.ref 0, .int row, .int many, .int pattern, .int a, .int b, .ref 38, .double 0] [.int x, .ref 38] _ _ _ _
  refine mt_i2l dL_fill_13 ?_
  refine mp_putfieldN mKX3 (i := 0) (fs' := [.long ((x).toInt64), s]) (by decide) mw_387 rfl dL_fill_14 ((c4d 38 (by omega)).trans O) (Nat.le_of_ble_eq_true rfl) rfl rfl (fun h5 e6 f7 => ?_)
  refine mt_goto dL_fill_17 (tgt := 28) rfl ?_
  refine mt_iconst dL_fill_28 (v := nI 0) rfl ?_
  refine mt_ireturn dL_fill_29 rfl rfl (by simp only [rX2_fill, rL_fill]; omega) (by simp only [rX2_fill, rL_fill]; omega) ?_
  exact ⟨by rw [c40], rfl, by rw [if_pos c40]; exact cAt.fr2 c4c (fun j hj => f7 j (by omega)), ⟨_, e6, fun _ x9 zx => by rw [hx] at zx; cases zx; rfl⟩, fun j j1 j2 => (f7 j (by omega)).trans (c4d j j1)⟩
theorem oi_add {S : cS} {row : Int32} {key : Int32} : oI vI true true (sp_add S row key) := by
  unfold sp_add
  repeat' first | exact Or.inl ⟨rfl, _, rfl⟩ | exact Or.inr (Or.inr ⟨rfl, rfl⟩) | exact Or.inr (Or.inl ⟨rfl, rfl⟩) | refine dAt_o (fun r => ?_) | refine dArg_o (fun r => ?_) | refine dFit_o ?_ | refine dB_o (fun r => ?_) | refine dKeep_o (fun p t => ?_) | split
abbrev rL_add : Room := { frames := 9, cells := 2, slots := 12, locals := 153 }
set_option maxRecDepth 100000 in
theorem tL_add_x {l : Launch} {h : mH} {n : Nat} {S : cS} {row : Int32} {key : Int32} {y : Int64} {s : Value} (C : cAt h S) (O : h 38 = .inr (.inr (5, [.long y, s]))) {E : String} {h1 : mH} {n1 : Nat} (hx : cNo (sp_add S row key).1 h n E h1 n1) : mTX l mL_add rL_add (mKo rL_add (lOk (sp_add S row key).1 S (sp_add S row key) s h n) mNX) 4 [.ref 0, .int row, .int key, .ref 38, .double 0] E h1 n1 (0 + rX2_add.cells) (0 + rX2_add.slots) := by
  obtain ⟨hE, rfl, rfl⟩ := hx
  rcases hE with ⟨rfl, hk⟩ | ⟨rfl, hk⟩
  · refine mt_catch (nm := "java/lang/IndexOutOfBoundsException") (pre := []) (suf := [(0, 11, 18, 21)]) (x := (0, 11, 14, 19)) rfl (fun z hz => by cases hz) _ rfl rfl (by decide) mw_397 mw_236 ?_
    show mT _ _ _ _ 14 [.ref 0, .int row, .int key, .ref 38, .double 0] [.float 0] _ _ _ _
    refine mp_astore dL_add_14 (ls' := [.ref 0, .int row, .int key, .ref 38, .float 0]) rfl rfl (by decide) rfl ?_
    refine mt_iconst dL_add_16 (v := nI 1) rfl ?_
    refine mt_ireturn dL_add_17 rfl rfl (by simp only [rX2_add, rL_add]; omega) (by simp only [rX2_add, rL_add]; omega) ?_
    exact ⟨by rw [hk], rfl, by rw [if_neg (by rw [hk]; decide)]; exact C, ⟨_, O, fun z => absurd (hk.symm.trans z) (by decide)⟩, fun j j1 j2 => rfl⟩
  · refine mt_catch (nm := "java/lang/IllegalArgumentException") (pre := [(0, 11, 14, 19)]) (suf := []) (x := (0, 11, 18, 21)) rfl (fun z hz => by rw [List.mem_singleton.mp hz]; exact Or.inr ⟨by decide, mw_397, rfl⟩) _ rfl rfl (by decide) mw_398 mw_314 ?_
    show mT _ _ _ _ 18 [.ref 0, .int row, .int key, .ref 38, .double 0] [.float 0] _ _ _ _
    refine mp_astore dL_add_18 (ls' := [.ref 0, .int row, .int key, .ref 38, .float 0]) rfl rfl (by decide) rfl ?_
    refine mt_iconst dL_add_20 (v := nI 2) rfl ?_
    refine mt_ireturn dL_add_21 rfl rfl (by simp only [rX2_add, rL_add]; omega) (by simp only [rX2_add, rL_add]; omega) ?_
    exact ⟨by rw [hk], rfl, by rw [if_neg (by rw [hk]; decide)]; exact C, ⟨_, O, fun z => absurd (hk.symm.trans z) (by decide)⟩, fun j j1 j2 => rfl⟩
set_option maxRecDepth 100000 in
theorem kL_add {l : Launch} (hl : l.stackTraces = false) {h : mH} {n : Nat} {S : cS} {row : Int32} {key : Int32} {y : Int64} {s : Value} (C : cAt h S) (O : h 38 = .inr (.inr (5, [.long y, s]))) : mC l mL_add rL_add [.ref 0, .int row, .int key, .ref 38] h n (lOk (sp_add S row key).1 S (sp_add S row key) s h n) mNX := by
  refine mm_enterH hl (by decide +kernel) (by intro hh; cases hh) rfl rfl (Nat.le_of_ble_eq_true rfl) ?_
  show mT _ _ _ _ 0 [.ref 0, .int row, .int key, .ref 38, .double 0] [] _ _ 0 0
  refine mt_aload_n dL_add_0 rfl rfl ?_
  refine mt_aload_n dL_add_1 rfl rfl ?_
  refine mt_iload_n dL_add_2 rfl ?_
  refine mt_iload_n dL_add_3 rfl ?_
  refine mt_callV (N := mX2_add) (Rc := rX2_add) (As := [.int row, .int key]) (st := [.ref 38]) dL_add_4 (kX2_add hl C) sX2_add mw_437 mKX2 rfl C.1 rfl (Nat.le_of_ble_eq_true rfl) ⟨⟨Nat.le_of_ble_eq_true rfl, Nat.le_of_ble_eq_true rfl⟩, (by simp only [rX2_add, rL_add]; omega), (by simp only [rX2_add, rL_add]; omega)⟩ (fun v1 h2 n3 c4 => ?_) (fun E h9 n9 hx => tL_add_x C O hx)
  obtain ⟨c40, c4a, c4b, c4c, c4d⟩ := c4
  have z := oi_add (S := S) (row := row) (key := key)
  obtain ⟨x, hx⟩ : vI (sp_add S row key).2.1 := by rcases z with ⟨-, z⟩ | ⟨z, -⟩ | ⟨z, -⟩ <;> first | exact z | (rw [c40] at z; cases z)
  rw [hx] at c4a; rw [c4a, c4b]
  show mT _ _ _ _ 7 [.ref 0, .int row, .int key, .ref 38, .double 0] [.int x, .ref 38] _ _ _ _
  refine mt_i2l dL_add_7 ?_
  refine mp_putfieldN mKX3 (i := 0) (fs' := [.long ((x).toInt64), s]) (by decide) mw_387 rfl dL_add_8 ((c4d 38 (by omega)).trans O) (Nat.le_of_ble_eq_true rfl) rfl rfl (fun h5 e6 f7 => ?_)
  refine mt_goto dL_add_11 (tgt := 22) rfl ?_
  refine mt_iconst dL_add_22 (v := nI 0) rfl ?_
  refine mt_ireturn dL_add_23 rfl rfl (by simp only [rX2_add, rL_add]; omega) (by simp only [rX2_add, rL_add]; omega) ?_
  exact ⟨by rw [c40], rfl, by rw [if_pos c40]; exact cAt.fr2 c4c (fun j hj => f7 j (by omega)), ⟨_, e6, fun _ x9 zx => by rw [hx] at zx; cases zx; rfl⟩, fun j j1 j2 => (f7 j (by omega)).trans (c4d j j1)⟩
theorem oi_put {S : cS} {row : Int32} {place : Int32} {key : Int32} : oI vI true true (sp_put S row place key) := by
  unfold sp_put
  repeat' first | exact Or.inl ⟨rfl, _, rfl⟩ | exact Or.inr (Or.inr ⟨rfl, rfl⟩) | exact Or.inr (Or.inl ⟨rfl, rfl⟩) | refine dAt_o (fun r => ?_) | refine dArg_o (fun r => ?_) | refine dFit_o ?_ | refine dB_o (fun r => ?_) | refine dKeep_o (fun p t => ?_) | split
abbrev rL_put : Room := { frames := 9, cells := 3, slots := 18, locals := 156 }
set_option maxRecDepth 100000 in
theorem tL_put_x {l : Launch} {h : mH} {n : Nat} {S : cS} {row : Int32} {place : Int32} {key : Int32} {y : Int64} {s : Value} (C : cAt h S) (O : h 38 = .inr (.inr (5, [.long y, s]))) {E : String} {h1 : mH} {n1 : Nat} (hx : cNo (sp_put S row place key).1 h n E h1 n1) : mTX l mL_put rL_put (mKo rL_put (lOk (sp_put S row place key).1 S (sp_put S row place key) s h n) mNX) 6 [.ref 0, .int row, .int place, .int key, .ref 38, .double 0] E h1 n1 (0 + rX2_put.cells) (0 + rX2_put.slots) := by
  obtain ⟨hE, rfl, rfl⟩ := hx
  rcases hE with ⟨rfl, hk⟩ | ⟨rfl, hk⟩
  · refine mt_catch (nm := "java/lang/IndexOutOfBoundsException") (pre := []) (suf := [(0, 13, 20, 21)]) (x := (0, 13, 16, 19)) rfl (fun z hz => by cases hz) _ rfl rfl (by decide) mw_397 mw_236 ?_
    show mT _ _ _ _ 16 [.ref 0, .int row, .int place, .int key, .ref 38, .double 0] [.float 0] _ _ _ _
    refine mp_astore dL_put_16 (ls' := [.ref 0, .int row, .int place, .int key, .ref 38, .float 0]) rfl rfl (by decide) rfl ?_
    refine mt_iconst dL_put_18 (v := nI 1) rfl ?_
    refine mt_ireturn dL_put_19 rfl rfl (by simp only [rX2_put, rL_put]; omega) (by simp only [rX2_put, rL_put]; omega) ?_
    exact ⟨by rw [hk], rfl, by rw [if_neg (by rw [hk]; decide)]; exact C, ⟨_, O, fun z => absurd (hk.symm.trans z) (by decide)⟩, fun j j1 j2 => rfl⟩
  · refine mt_catch (nm := "java/lang/IllegalArgumentException") (pre := [(0, 13, 16, 19)]) (suf := []) (x := (0, 13, 20, 21)) rfl (fun z hz => by rw [List.mem_singleton.mp hz]; exact Or.inr ⟨by decide, mw_397, rfl⟩) _ rfl rfl (by decide) mw_398 mw_314 ?_
    show mT _ _ _ _ 20 [.ref 0, .int row, .int place, .int key, .ref 38, .double 0] [.float 0] _ _ _ _
    refine mp_astore dL_put_20 (ls' := [.ref 0, .int row, .int place, .int key, .ref 38, .float 0]) rfl rfl (by decide) rfl ?_
    refine mt_iconst dL_put_22 (v := nI 2) rfl ?_
    refine mt_ireturn dL_put_23 rfl rfl (by simp only [rX2_put, rL_put]; omega) (by simp only [rX2_put, rL_put]; omega) ?_
    exact ⟨by rw [hk], rfl, by rw [if_neg (by rw [hk]; decide)]; exact C, ⟨_, O, fun z => absurd (hk.symm.trans z) (by decide)⟩, fun j j1 j2 => rfl⟩
set_option maxRecDepth 100000 in
theorem kL_put {l : Launch} (hl : l.stackTraces = false) {h : mH} {n : Nat} {S : cS} {row : Int32} {place : Int32} {key : Int32} {y : Int64} {s : Value} (C : cAt h S) (O : h 38 = .inr (.inr (5, [.long y, s]))) : mC l mL_put rL_put [.ref 0, .int row, .int place, .int key, .ref 38] h n (lOk (sp_put S row place key).1 S (sp_put S row place key) s h n) mNX := by
  refine mm_enterH hl (by decide +kernel) (by intro hh; cases hh) rfl rfl (Nat.le_of_ble_eq_true rfl) ?_
  show mT _ _ _ _ 0 [.ref 0, .int row, .int place, .int key, .ref 38, .double 0] [] _ _ 0 0
  refine mt_aload dL_put_0 rfl rfl ?_
  refine mt_aload_n dL_put_2 rfl rfl ?_
  refine mt_iload_n dL_put_3 rfl ?_
  refine mt_iload_n dL_put_4 rfl ?_
  refine mt_iload_n dL_put_5 rfl ?_
  refine mt_callV (N := mX2_put) (Rc := rX2_put) (As := [.int row, .int place, .int key]) (st := [.ref 38]) dL_put_6 (kX2_put hl C) sX2_put mw_453 mKX2 rfl C.1 rfl (Nat.le_of_ble_eq_true rfl) ⟨⟨Nat.le_of_ble_eq_true rfl, Nat.le_of_ble_eq_true rfl⟩, (by simp only [rX2_put, rL_put]; omega), (by simp only [rX2_put, rL_put]; omega)⟩ (fun v1 h2 n3 c4 => ?_) (fun E h9 n9 hx => tL_put_x C O hx)
  obtain ⟨c40, c4a, c4b, c4c, c4d⟩ := c4
  have z := oi_put (S := S) (row := row) (place := place) (key := key)
  obtain ⟨x, hx⟩ : vI (sp_put S row place key).2.1 := by rcases z with ⟨-, z⟩ | ⟨z, -⟩ | ⟨z, -⟩ <;> first | exact z | (rw [c40] at z; cases z)
  rw [hx] at c4a; rw [c4a, c4b]
  show mT _ _ _ _ 9 [.ref 0, .int row, .int place, .int key, .ref 38, .double 0] [.int x, .ref 38] _ _ _ _
  refine mt_i2l dL_put_9 ?_
  refine mp_putfieldN mKX3 (i := 0) (fs' := [.long ((x).toInt64), s]) (by decide) mw_387 rfl dL_put_10 ((c4d 38 (by omega)).trans O) (Nat.le_of_ble_eq_true rfl) rfl rfl (fun h5 e6 f7 => ?_)
  refine mt_goto dL_put_13 (tgt := 24) rfl ?_
  refine mt_iconst dL_put_24 (v := nI 0) rfl ?_
  refine mt_ireturn dL_put_25 rfl rfl (by simp only [rX2_put, rL_put]; omega) (by simp only [rX2_put, rL_put]; omega) ?_
  exact ⟨by rw [c40], rfl, by rw [if_pos c40]; exact cAt.fr2 c4c (fun j hj => f7 j (by omega)), ⟨_, e6, fun _ x9 zx => by rw [hx] at zx; cases zx; rfl⟩, fun j j1 j2 => (f7 j (by omega)).trans (c4d j j1)⟩
theorem oi_drop {S : cS} {row : Int32} {place : Int32} : oI vI true false (sp_drop S row place) := by
  unfold sp_drop
  repeat' first | exact Or.inl ⟨rfl, _, rfl⟩ | exact Or.inr (Or.inr ⟨rfl, rfl⟩) | exact Or.inr (Or.inl ⟨rfl, rfl⟩) | refine dAt_o (fun r => ?_) | refine dArg_o (fun r => ?_) | refine dFit_o ?_ | refine dB_o (fun r => ?_) | refine dKeep_o (fun p t => ?_) | split
abbrev rL_drop : Room := { frames := 9, cells := 2, slots := 12, locals := 156 }
set_option maxRecDepth 100000 in
theorem tL_drop_x {l : Launch} {h : mH} {n : Nat} {S : cS} {row : Int32} {place : Int32} {y : Int64} {s : Value} (C : cAt h S) (O : h 38 = .inr (.inr (5, [.long y, s]))) {E : String} {h1 : mH} {n1 : Nat} (hx : cNo (sp_drop S row place).1 h n E h1 n1) : mTX l mL_drop rL_drop (mKo rL_drop (lOk (sp_drop S row place).1 S (sp_drop S row place) s h n) mNX) 4 [.ref 0, .int row, .int place, .ref 38, .double 0] E h1 n1 (0 + rX2_drop.cells) (0 + rX2_drop.slots) := by
  obtain ⟨hE, rfl, rfl⟩ := hx
  rcases hE with ⟨rfl, hk⟩ | ⟨rfl, hk⟩
  · refine mt_catch (nm := "java/lang/IndexOutOfBoundsException") (pre := []) (suf := []) (x := (0, 11, 14, 19)) rfl (fun z hz => by cases hz) _ rfl rfl (by decide) mw_397 mw_236 ?_
    show mT _ _ _ _ 14 [.ref 0, .int row, .int place, .ref 38, .double 0] [.float 0] _ _ _ _
    refine mp_astore dL_drop_14 (ls' := [.ref 0, .int row, .int place, .ref 38, .float 0]) rfl rfl (by decide) rfl ?_
    refine mt_iconst dL_drop_16 (v := nI 1) rfl ?_
    refine mt_ireturn dL_drop_17 rfl rfl (by simp only [rX2_drop, rL_drop]; omega) (by simp only [rX2_drop, rL_drop]; omega) ?_
    exact ⟨by rw [hk], rfl, by rw [if_neg (by rw [hk]; decide)]; exact C, ⟨_, O, fun z => absurd (hk.symm.trans z) (by decide)⟩, fun j j1 j2 => rfl⟩
  · have z := oi_drop (S := S) (row := row) (place := place)
    rcases z with ⟨z, -⟩ | ⟨z, z2⟩ | ⟨z, z2⟩
    · rw [hk] at z; cases z
    · first | (rw [hk] at z; cases z; done) | cases z2
    · first | (rw [hk] at z; cases z; done) | cases z2
set_option maxRecDepth 100000 in
theorem kL_drop {l : Launch} (hl : l.stackTraces = false) {h : mH} {n : Nat} {S : cS} {row : Int32} {place : Int32} {y : Int64} {s : Value} (C : cAt h S) (O : h 38 = .inr (.inr (5, [.long y, s]))) : mC l mL_drop rL_drop [.ref 0, .int row, .int place, .ref 38] h n (lOk (sp_drop S row place).1 S (sp_drop S row place) s h n) mNX := by
  refine mm_enterH hl (by decide +kernel) (by intro hh; cases hh) rfl rfl (Nat.le_of_ble_eq_true rfl) ?_
  show mT _ _ _ _ 0 [.ref 0, .int row, .int place, .ref 38, .double 0] [] _ _ 0 0
  refine mt_aload_n dL_drop_0 rfl rfl ?_
  refine mt_aload_n dL_drop_1 rfl rfl ?_
  refine mt_iload_n dL_drop_2 rfl ?_
  refine mt_iload_n dL_drop_3 rfl ?_
  refine mt_callV (N := mX2_drop) (Rc := rX2_drop) (As := [.int row, .int place]) (st := [.ref 38]) dL_drop_4 (kX2_drop hl C) sX2_drop mw_467 mKX2 rfl C.1 rfl (Nat.le_of_ble_eq_true rfl) ⟨⟨Nat.le_of_ble_eq_true rfl, Nat.le_of_ble_eq_true rfl⟩, (by simp only [rX2_drop, rL_drop]; omega), (by simp only [rX2_drop, rL_drop]; omega)⟩ (fun v1 h2 n3 c4 => ?_) (fun E h9 n9 hx => tL_drop_x C O hx)
  obtain ⟨c40, c4a, c4b, c4c, c4d⟩ := c4
  have z := oi_drop (S := S) (row := row) (place := place)
  obtain ⟨x, hx⟩ : vI (sp_drop S row place).2.1 := by rcases z with ⟨-, z⟩ | ⟨z, -⟩ | ⟨z, -⟩ <;> first | exact z | (rw [c40] at z; cases z)
  rw [hx] at c4a; rw [c4a, c4b]
  show mT _ _ _ _ 7 [.ref 0, .int row, .int place, .ref 38, .double 0] [.int x, .ref 38] _ _ _ _
  refine mt_i2l dL_drop_7 ?_
  refine mp_putfieldN mKX3 (i := 0) (fs' := [.long ((x).toInt64), s]) (by decide) mw_387 rfl dL_drop_8 ((c4d 38 (by omega)).trans O) (Nat.le_of_ble_eq_true rfl) rfl rfl (fun h5 e6 f7 => ?_)
  refine mt_goto dL_drop_11 (tgt := 18) rfl ?_
  refine mt_iconst dL_drop_18 (v := nI 0) rfl ?_
  refine mt_ireturn dL_drop_19 rfl rfl (by simp only [rX2_drop, rL_drop]; omega) (by simp only [rX2_drop, rL_drop]; omega) ?_
  exact ⟨by rw [c40], rfl, by rw [if_pos c40]; exact cAt.fr2 c4c (fun j hj => f7 j (by omega)), ⟨_, e6, fun _ x9 zx => by rw [hx] at zx; cases zx; rfl⟩, fun j j1 j2 => (f7 j (by omega)).trans (c4d j j1)⟩
theorem oi_clear {S : cS} {row : Int32} : oI vI true false (sp_clear S row) := by
  unfold sp_clear
  repeat' first | exact Or.inl ⟨rfl, _, rfl⟩ | exact Or.inr (Or.inr ⟨rfl, rfl⟩) | exact Or.inr (Or.inl ⟨rfl, rfl⟩) | refine dAt_o (fun r => ?_) | refine dArg_o (fun r => ?_) | refine dFit_o ?_ | refine dB_o (fun r => ?_) | refine dKeep_o (fun p t => ?_) | split
abbrev rL_clear : Room := { frames := 8, cells := 1, slots := 6, locals := 134 }
set_option maxRecDepth 100000 in
theorem tL_clear_x {l : Launch} {h : mH} {n : Nat} {S : cS} {row : Int32} {y : Int64} {s : Value} (C : cAt h S) (O : h 38 = .inr (.inr (5, [.long y, s]))) {E : String} {h1 : mH} {n1 : Nat} (hx : cNo (sp_clear S row).1 h n E h1 n1) : mTX l mL_clear rL_clear (mKo rL_clear (lOk (sp_clear S row).1 S (sp_clear S row) s h n) mNX) 3 [.ref 0, .int row, .ref 38, .double 0] E h1 n1 (0 + rX2_clear.cells) (0 + rX2_clear.slots) := by
  obtain ⟨hE, rfl, rfl⟩ := hx
  rcases hE with ⟨rfl, hk⟩ | ⟨rfl, hk⟩
  · refine mt_catch (nm := "java/lang/IndexOutOfBoundsException") (pre := []) (suf := []) (x := (0, 10, 13, 19)) rfl (fun z hz => by cases hz) _ rfl rfl (by decide) mw_397 mw_236 ?_
    show mT _ _ _ _ 13 [.ref 0, .int row, .ref 38, .double 0] [.float 0] _ _ _ _
    refine mp_astore_n dL_clear_13 (ls' := [.ref 0, .int row, .ref 38, .float 0]) rfl rfl (by decide) rfl ?_
    refine mt_iconst dL_clear_14 (v := nI 1) rfl ?_
    refine mt_ireturn dL_clear_15 rfl rfl (by simp only [rX2_clear, rL_clear]; omega) (by simp only [rX2_clear, rL_clear]; omega) ?_
    exact ⟨by rw [hk], rfl, by rw [if_neg (by rw [hk]; decide)]; exact C, ⟨_, O, fun z => absurd (hk.symm.trans z) (by decide)⟩, fun j j1 j2 => rfl⟩
  · have z := oi_clear (S := S) (row := row)
    rcases z with ⟨z, -⟩ | ⟨z, z2⟩ | ⟨z, z2⟩
    · rw [hk] at z; cases z
    · first | (rw [hk] at z; cases z; done) | cases z2
    · first | (rw [hk] at z; cases z; done) | cases z2
set_option maxRecDepth 100000 in
theorem kL_clear {l : Launch} (hl : l.stackTraces = false) {h : mH} {n : Nat} {S : cS} {row : Int32} {y : Int64} {s : Value} (C : cAt h S) (O : h 38 = .inr (.inr (5, [.long y, s]))) : mC l mL_clear rL_clear [.ref 0, .int row, .ref 38] h n (lOk (sp_clear S row).1 S (sp_clear S row) s h n) mNX := by
  refine mm_enterH hl (by decide +kernel) (by intro hh; cases hh) rfl rfl (Nat.le_of_ble_eq_true rfl) ?_
  show mT _ _ _ _ 0 [.ref 0, .int row, .ref 38, .double 0] [] _ _ 0 0
  refine mt_aload_n dL_clear_0 rfl rfl ?_
  refine mt_aload_n dL_clear_1 rfl rfl ?_
  refine mt_iload_n dL_clear_2 rfl ?_
  refine mt_callV (N := mX2_clear) (Rc := rX2_clear) (As := [.int row]) (st := [.ref 38]) dL_clear_3 (kX2_clear hl C) sX2_clear mw_474 mKX2 rfl C.1 rfl (Nat.le_of_ble_eq_true rfl) ⟨⟨Nat.le_of_ble_eq_true rfl, Nat.le_of_ble_eq_true rfl⟩, (by simp only [rX2_clear, rL_clear]; omega), (by simp only [rX2_clear, rL_clear]; omega)⟩ (fun v1 h2 n3 c4 => ?_) (fun E h9 n9 hx => tL_clear_x C O hx)
  obtain ⟨c40, c4a, c4b, c4c, c4d⟩ := c4
  have z := oi_clear (S := S) (row := row)
  obtain ⟨x, hx⟩ : vI (sp_clear S row).2.1 := by rcases z with ⟨-, z⟩ | ⟨z, -⟩ | ⟨z, -⟩ <;> first | exact z | (rw [c40] at z; cases z)
  rw [hx] at c4a; rw [c4a, c4b]
  show mT _ _ _ _ 6 [.ref 0, .int row, .ref 38, .double 0] [.int x, .ref 38] _ _ _ _
  refine mt_i2l dL_clear_6 ?_
  refine mp_putfieldN mKX3 (i := 0) (fs' := [.long ((x).toInt64), s]) (by decide) mw_387 rfl dL_clear_7 ((c4d 38 (by omega)).trans O) (Nat.le_of_ble_eq_true rfl) rfl rfl (fun h5 e6 f7 => ?_)
  refine mt_goto dL_clear_10 (tgt := 16) rfl ?_
  refine mt_iconst dL_clear_16 (v := nI 0) rfl ?_
  refine mt_ireturn dL_clear_17 rfl rfl (by simp only [rX2_clear, rL_clear]; omega) (by simp only [rX2_clear, rL_clear]; omega) ?_
  exact ⟨by rw [c40], rfl, by rw [if_pos c40]; exact cAt.fr2 c4c (fun j hj => f7 j (by omega)), ⟨_, e6, fun _ x9 zx => by rw [hx] at zx; cases zx; rfl⟩, fun j j1 j2 => (f7 j (by omega)).trans (c4d j j1)⟩
theorem oi_exchange {S : cS} {row : Int32} {place : Int32} : oI vI true false (sp_exchange S row place) := by
  unfold sp_exchange
  repeat' first | exact Or.inl ⟨rfl, _, rfl⟩ | exact Or.inr (Or.inr ⟨rfl, rfl⟩) | exact Or.inr (Or.inl ⟨rfl, rfl⟩) | refine dAt_o (fun r => ?_) | refine dArg_o (fun r => ?_) | refine dFit_o ?_ | refine dB_o (fun r => ?_) | refine dKeep_o (fun p t => ?_) | split
abbrev rL_exchange : Room := { frames := 9, cells := 2, slots := 12, locals := 155 }
set_option maxRecDepth 100000 in
theorem tL_exchange_x {l : Launch} {h : mH} {n : Nat} {S : cS} {row : Int32} {place : Int32} {y : Int64} {s : Value} (C : cAt h S) (O : h 38 = .inr (.inr (5, [.long y, s]))) {E : String} {h1 : mH} {n1 : Nat} (hx : cNo (sp_exchange S row place).1 h n E h1 n1) : mTX l mL_exchange rL_exchange (mKo rL_exchange (lOk (sp_exchange S row place).1 S (sp_exchange S row place) s h n) mNX) 4 [.ref 0, .int row, .int place, .ref 38, .double 0] E h1 n1 (0 + rX2_exchange.cells) (0 + rX2_exchange.slots) := by
  obtain ⟨hE, rfl, rfl⟩ := hx
  rcases hE with ⟨rfl, hk⟩ | ⟨rfl, hk⟩
  · refine mt_catch (nm := "java/lang/IndexOutOfBoundsException") (pre := []) (suf := []) (x := (0, 11, 14, 19)) rfl (fun z hz => by cases hz) _ rfl rfl (by decide) mw_397 mw_236 ?_
    show mT _ _ _ _ 14 [.ref 0, .int row, .int place, .ref 38, .double 0] [.float 0] _ _ _ _
    refine mp_astore dL_exchange_14 (ls' := [.ref 0, .int row, .int place, .ref 38, .float 0]) rfl rfl (by decide) rfl ?_
    refine mt_iconst dL_exchange_16 (v := nI 1) rfl ?_
    refine mt_ireturn dL_exchange_17 rfl rfl (by simp only [rX2_exchange, rL_exchange]; omega) (by simp only [rX2_exchange, rL_exchange]; omega) ?_
    exact ⟨by rw [hk], rfl, by rw [if_neg (by rw [hk]; decide)]; exact C, ⟨_, O, fun z => absurd (hk.symm.trans z) (by decide)⟩, fun j j1 j2 => rfl⟩
  · have z := oi_exchange (S := S) (row := row) (place := place)
    rcases z with ⟨z, -⟩ | ⟨z, z2⟩ | ⟨z, z2⟩
    · rw [hk] at z; cases z
    · first | (rw [hk] at z; cases z; done) | cases z2
    · first | (rw [hk] at z; cases z; done) | cases z2
set_option maxRecDepth 100000 in
theorem kL_exchange {l : Launch} (hl : l.stackTraces = false) {h : mH} {n : Nat} {S : cS} {row : Int32} {place : Int32} {y : Int64} {s : Value} (C : cAt h S) (O : h 38 = .inr (.inr (5, [.long y, s]))) : mC l mL_exchange rL_exchange [.ref 0, .int row, .int place, .ref 38] h n (lOk (sp_exchange S row place).1 S (sp_exchange S row place) s h n) mNX := by
  refine mm_enterH hl (by decide +kernel) (by intro hh; cases hh) rfl rfl (Nat.le_of_ble_eq_true rfl) ?_
  show mT _ _ _ _ 0 [.ref 0, .int row, .int place, .ref 38, .double 0] [] _ _ 0 0
  refine mt_aload_n dL_exchange_0 rfl rfl ?_
  refine mt_aload_n dL_exchange_1 rfl rfl ?_
  refine mt_iload_n dL_exchange_2 rfl ?_
  refine mt_iload_n dL_exchange_3 rfl ?_
  refine mt_callV (N := mX2_exchange) (Rc := rX2_exchange) (As := [.int row, .int place]) (st := [.ref 38]) dL_exchange_4 (kX2_exchange hl C) sX2_exchange mw_481 mKX2 rfl C.1 rfl (Nat.le_of_ble_eq_true rfl) ⟨⟨Nat.le_of_ble_eq_true rfl, Nat.le_of_ble_eq_true rfl⟩, (by simp only [rX2_exchange, rL_exchange]; omega), (by simp only [rX2_exchange, rL_exchange]; omega)⟩ (fun v1 h2 n3 c4 => ?_) (fun E h9 n9 hx => tL_exchange_x C O hx)
  obtain ⟨c40, c4a, c4b, c4c, c4d⟩ := c4
  have z := oi_exchange (S := S) (row := row) (place := place)
  obtain ⟨x, hx⟩ : vI (sp_exchange S row place).2.1 := by rcases z with ⟨-, z⟩ | ⟨z, -⟩ | ⟨z, -⟩ <;> first | exact z | (rw [c40] at z; cases z)
  rw [hx] at c4a; rw [c4a, c4b]
  show mT _ _ _ _ 7 [.ref 0, .int row, .int place, .ref 38, .double 0] [.int x, .ref 38] _ _ _ _
  refine mt_i2l dL_exchange_7 ?_
  refine mp_putfieldN mKX3 (i := 0) (fs' := [.long ((x).toInt64), s]) (by decide) mw_387 rfl dL_exchange_8 ((c4d 38 (by omega)).trans O) (Nat.le_of_ble_eq_true rfl) rfl rfl (fun h5 e6 f7 => ?_)
  refine mt_goto dL_exchange_11 (tgt := 18) rfl ?_
  refine mt_iconst dL_exchange_18 (v := nI 0) rfl ?_
  refine mt_ireturn dL_exchange_19 rfl rfl (by simp only [rX2_exchange, rL_exchange]; omega) (by simp only [rX2_exchange, rL_exchange]; omega) ?_
  exact ⟨by rw [c40], rfl, by rw [if_pos c40]; exact cAt.fr2 c4c (fun j hj => f7 j (by omega)), ⟨_, e6, fun _ x9 zx => by rw [hx] at zx; cases zx; rfl⟩, fun j j1 j2 => (f7 j (by omega)).trans (c4d j j1)⟩
theorem oi_swap {S : cS} {row : Int32} {place : Int32} {other : Int32} : oI vI true false (sp_swap S row place other) := by
  unfold sp_swap
  repeat' first | exact Or.inl ⟨rfl, _, rfl⟩ | exact Or.inr (Or.inr ⟨rfl, rfl⟩) | exact Or.inr (Or.inl ⟨rfl, rfl⟩) | refine dAt_o (fun r => ?_) | refine dArg_o (fun r => ?_) | refine dFit_o ?_ | refine dB_o (fun r => ?_) | refine dKeep_o (fun p t => ?_) | split
abbrev rL_swap : Room := { frames := 9, cells := 3, slots := 18, locals := 156 }
set_option maxRecDepth 100000 in
theorem tL_swap_x {l : Launch} {h : mH} {n : Nat} {S : cS} {row : Int32} {place : Int32} {other : Int32} {y : Int64} {s : Value} (C : cAt h S) (O : h 38 = .inr (.inr (5, [.long y, s]))) {E : String} {h1 : mH} {n1 : Nat} (hx : cNo (sp_swap S row place other).1 h n E h1 n1) : mTX l mL_swap rL_swap (mKo rL_swap (lOk (sp_swap S row place other).1 S (sp_swap S row place other) s h n) mNX) 6 [.ref 0, .int row, .int place, .int other, .ref 38, .double 0] E h1 n1 (0 + rX2_swap.cells) (0 + rX2_swap.slots) := by
  obtain ⟨hE, rfl, rfl⟩ := hx
  rcases hE with ⟨rfl, hk⟩ | ⟨rfl, hk⟩
  · refine mt_catch (nm := "java/lang/IndexOutOfBoundsException") (pre := []) (suf := []) (x := (0, 13, 16, 19)) rfl (fun z hz => by cases hz) _ rfl rfl (by decide) mw_397 mw_236 ?_
    show mT _ _ _ _ 16 [.ref 0, .int row, .int place, .int other, .ref 38, .double 0] [.float 0] _ _ _ _
    refine mp_astore dL_swap_16 (ls' := [.ref 0, .int row, .int place, .int other, .ref 38, .float 0]) rfl rfl (by decide) rfl ?_
    refine mt_iconst dL_swap_18 (v := nI 1) rfl ?_
    refine mt_ireturn dL_swap_19 rfl rfl (by simp only [rX2_swap, rL_swap]; omega) (by simp only [rX2_swap, rL_swap]; omega) ?_
    exact ⟨by rw [hk], rfl, by rw [if_neg (by rw [hk]; decide)]; exact C, ⟨_, O, fun z => absurd (hk.symm.trans z) (by decide)⟩, fun j j1 j2 => rfl⟩
  · have z := oi_swap (S := S) (row := row) (place := place) (other := other)
    rcases z with ⟨z, -⟩ | ⟨z, z2⟩ | ⟨z, z2⟩
    · rw [hk] at z; cases z
    · first | (rw [hk] at z; cases z; done) | cases z2
    · first | (rw [hk] at z; cases z; done) | cases z2
set_option maxRecDepth 100000 in
theorem kL_swap {l : Launch} (hl : l.stackTraces = false) {h : mH} {n : Nat} {S : cS} {row : Int32} {place : Int32} {other : Int32} {y : Int64} {s : Value} (C : cAt h S) (O : h 38 = .inr (.inr (5, [.long y, s]))) : mC l mL_swap rL_swap [.ref 0, .int row, .int place, .int other, .ref 38] h n (lOk (sp_swap S row place other).1 S (sp_swap S row place other) s h n) mNX := by
  refine mm_enterH hl (by decide +kernel) (by intro hh; cases hh) rfl rfl (Nat.le_of_ble_eq_true rfl) ?_
  show mT _ _ _ _ 0 [.ref 0, .int row, .int place, .int other, .ref 38, .double 0] [] _ _ 0 0
  refine mt_aload dL_swap_0 rfl rfl ?_
  refine mt_aload_n dL_swap_2 rfl rfl ?_
  refine mt_iload_n dL_swap_3 rfl ?_
  refine mt_iload_n dL_swap_4 rfl ?_
  refine mt_iload_n dL_swap_5 rfl ?_
  refine mt_callV (N := mX2_swap) (Rc := rX2_swap) (As := [.int row, .int place, .int other]) (st := [.ref 38]) dL_swap_6 (kX2_swap hl C) sX2_swap mw_499 mKX2 rfl C.1 rfl (Nat.le_of_ble_eq_true rfl) ⟨⟨Nat.le_of_ble_eq_true rfl, Nat.le_of_ble_eq_true rfl⟩, (by simp only [rX2_swap, rL_swap]; omega), (by simp only [rX2_swap, rL_swap]; omega)⟩ (fun v1 h2 n3 c4 => ?_) (fun E h9 n9 hx => tL_swap_x C O hx)
  obtain ⟨c40, c4a, c4b, c4c, c4d⟩ := c4
  have z := oi_swap (S := S) (row := row) (place := place) (other := other)
  obtain ⟨x, hx⟩ : vI (sp_swap S row place other).2.1 := by rcases z with ⟨-, z⟩ | ⟨z, -⟩ | ⟨z, -⟩ <;> first | exact z | (rw [c40] at z; cases z)
  rw [hx] at c4a; rw [c4a, c4b]
  show mT _ _ _ _ 9 [.ref 0, .int row, .int place, .int other, .ref 38, .double 0] [.int x, .ref 38] _ _ _ _
  refine mt_i2l dL_swap_9 ?_
  refine mp_putfieldN mKX3 (i := 0) (fs' := [.long ((x).toInt64), s]) (by decide) mw_387 rfl dL_swap_10 ((c4d 38 (by omega)).trans O) (Nat.le_of_ble_eq_true rfl) rfl rfl (fun h5 e6 f7 => ?_)
  refine mt_goto dL_swap_13 (tgt := 20) rfl ?_
  refine mt_iconst dL_swap_20 (v := nI 0) rfl ?_
  refine mt_ireturn dL_swap_21 rfl rfl (by simp only [rX2_swap, rL_swap]; omega) (by simp only [rX2_swap, rL_swap]; omega) ?_
  exact ⟨by rw [c40], rfl, by rw [if_pos c40]; exact cAt.fr2 c4c (fun j hj => f7 j (by omega)), ⟨_, e6, fun _ x9 zx => by rw [hx] at zx; cases zx; rfl⟩, fun j j1 j2 => (f7 j (by omega)).trans (c4d j j1)⟩
theorem oi_turn {S : cS} {row : Int32} : oI vI true false (sp_turn S row) := by
  unfold sp_turn
  repeat' first | exact Or.inl ⟨rfl, _, rfl⟩ | exact Or.inr (Or.inr ⟨rfl, rfl⟩) | exact Or.inr (Or.inl ⟨rfl, rfl⟩) | refine dAt_o (fun r => ?_) | refine dArg_o (fun r => ?_) | refine dFit_o ?_ | refine dB_o (fun r => ?_) | refine dKeep_o (fun p t => ?_) | split
abbrev rL_turn : Room := { frames := 8, cells := 1, slots := 6, locals := 135 }
set_option maxRecDepth 100000 in
theorem tL_turn_x {l : Launch} {h : mH} {n : Nat} {S : cS} {row : Int32} {y : Int64} {s : Value} (C : cAt h S) (O : h 38 = .inr (.inr (5, [.long y, s]))) {E : String} {h1 : mH} {n1 : Nat} (hx : cNo (sp_turn S row).1 h n E h1 n1) : mTX l mL_turn rL_turn (mKo rL_turn (lOk (sp_turn S row).1 S (sp_turn S row) s h n) mNX) 3 [.ref 0, .int row, .ref 38, .double 0] E h1 n1 (0 + rX2_turn.cells) (0 + rX2_turn.slots) := by
  obtain ⟨hE, rfl, rfl⟩ := hx
  rcases hE with ⟨rfl, hk⟩ | ⟨rfl, hk⟩
  · refine mt_catch (nm := "java/lang/IndexOutOfBoundsException") (pre := []) (suf := []) (x := (0, 10, 13, 19)) rfl (fun z hz => by cases hz) _ rfl rfl (by decide) mw_397 mw_236 ?_
    show mT _ _ _ _ 13 [.ref 0, .int row, .ref 38, .double 0] [.float 0] _ _ _ _
    refine mp_astore_n dL_turn_13 (ls' := [.ref 0, .int row, .ref 38, .float 0]) rfl rfl (by decide) rfl ?_
    refine mt_iconst dL_turn_14 (v := nI 1) rfl ?_
    refine mt_ireturn dL_turn_15 rfl rfl (by simp only [rX2_turn, rL_turn]; omega) (by simp only [rX2_turn, rL_turn]; omega) ?_
    exact ⟨by rw [hk], rfl, by rw [if_neg (by rw [hk]; decide)]; exact C, ⟨_, O, fun z => absurd (hk.symm.trans z) (by decide)⟩, fun j j1 j2 => rfl⟩
  · have z := oi_turn (S := S) (row := row)
    rcases z with ⟨z, -⟩ | ⟨z, z2⟩ | ⟨z, z2⟩
    · rw [hk] at z; cases z
    · first | (rw [hk] at z; cases z; done) | cases z2
    · first | (rw [hk] at z; cases z; done) | cases z2
set_option maxRecDepth 100000 in
theorem kL_turn {l : Launch} (hl : l.stackTraces = false) {h : mH} {n : Nat} {S : cS} {row : Int32} {y : Int64} {s : Value} (C : cAt h S) (O : h 38 = .inr (.inr (5, [.long y, s]))) : mC l mL_turn rL_turn [.ref 0, .int row, .ref 38] h n (lOk (sp_turn S row).1 S (sp_turn S row) s h n) mNX := by
  refine mm_enterH hl (by decide +kernel) (by intro hh; cases hh) rfl rfl (Nat.le_of_ble_eq_true rfl) ?_
  show mT _ _ _ _ 0 [.ref 0, .int row, .ref 38, .double 0] [] _ _ 0 0
  refine mt_aload_n dL_turn_0 rfl rfl ?_
  refine mt_aload_n dL_turn_1 rfl rfl ?_
  refine mt_iload_n dL_turn_2 rfl ?_
  refine mt_callV (N := mX2_turn) (Rc := rX2_turn) (As := [.int row]) (st := [.ref 38]) dL_turn_3 (kX2_turn hl C) sX2_turn mw_506 mKX2 rfl C.1 rfl (Nat.le_of_ble_eq_true rfl) ⟨⟨Nat.le_of_ble_eq_true rfl, Nat.le_of_ble_eq_true rfl⟩, (by simp only [rX2_turn, rL_turn]; omega), (by simp only [rX2_turn, rL_turn]; omega)⟩ (fun v1 h2 n3 c4 => ?_) (fun E h9 n9 hx => tL_turn_x C O hx)
  obtain ⟨c40, c4a, c4b, c4c, c4d⟩ := c4
  have z := oi_turn (S := S) (row := row)
  obtain ⟨x, hx⟩ : vI (sp_turn S row).2.1 := by rcases z with ⟨-, z⟩ | ⟨z, -⟩ | ⟨z, -⟩ <;> first | exact z | (rw [c40] at z; cases z)
  rw [hx] at c4a; rw [c4a, c4b]
  show mT _ _ _ _ 6 [.ref 0, .int row, .ref 38, .double 0] [.int x, .ref 38] _ _ _ _
  refine mt_i2l dL_turn_6 ?_
  refine mp_putfieldN mKX3 (i := 0) (fs' := [.long ((x).toInt64), s]) (by decide) mw_387 rfl dL_turn_7 ((c4d 38 (by omega)).trans O) (Nat.le_of_ble_eq_true rfl) rfl rfl (fun h5 e6 f7 => ?_)
  refine mt_goto dL_turn_10 (tgt := 16) rfl ?_
  refine mt_iconst dL_turn_16 (v := nI 0) rfl ?_
  refine mt_ireturn dL_turn_17 rfl rfl (by simp only [rX2_turn, rL_turn]; omega) (by simp only [rX2_turn, rL_turn]; omega) ?_
  exact ⟨by rw [c40], rfl, by rw [if_pos c40]; exact cAt.fr2 c4c (fun j hj => f7 j (by omega)), ⟨_, e6, fun _ x9 zx => by rw [hx] at zx; cases zx; rfl⟩, fun j j1 j2 => (f7 j (by omega)).trans (c4d j j1)⟩
theorem oi_roll {S : cS} {row : Int32} {by_ : Int32} : oI vI true true (sp_roll S row by_) := by
  unfold sp_roll
  repeat' first | exact Or.inl ⟨rfl, _, rfl⟩ | exact Or.inr (Or.inr ⟨rfl, rfl⟩) | exact Or.inr (Or.inl ⟨rfl, rfl⟩) | refine dAt_o (fun r => ?_) | refine dArg_o (fun r => ?_) | refine dFit_o ?_ | refine dB_o (fun r => ?_) | refine dKeep_o (fun p t => ?_) | split
abbrev rL_roll : Room := { frames := 8, cells := 2, slots := 12, locals := 136 }
set_option maxRecDepth 100000 in
theorem tL_roll_x {l : Launch} {h : mH} {n : Nat} {S : cS} {row : Int32} {by_ : Int32} {y : Int64} {s : Value} (C : cAt h S) (O : h 38 = .inr (.inr (5, [.long y, s]))) {E : String} {h1 : mH} {n1 : Nat} (hx : cNo (sp_roll S row by_).1 h n E h1 n1) : mTX l mL_roll rL_roll (mKo rL_roll (lOk (sp_roll S row by_).1 S (sp_roll S row by_) s h n) mNX) 4 [.ref 0, .int row, .int by_, .ref 38, .double 0] E h1 n1 (0 + rX2_roll.cells) (0 + rX2_roll.slots) := by
  obtain ⟨hE, rfl, rfl⟩ := hx
  rcases hE with ⟨rfl, hk⟩ | ⟨rfl, hk⟩
  · refine mt_catch (nm := "java/lang/IndexOutOfBoundsException") (pre := []) (suf := [(0, 11, 18, 21)]) (x := (0, 11, 14, 19)) rfl (fun z hz => by cases hz) _ rfl rfl (by decide) mw_397 mw_236 ?_
    show mT _ _ _ _ 14 [.ref 0, .int row, .int by_, .ref 38, .double 0] [.float 0] _ _ _ _
    refine mp_astore dL_roll_14 (ls' := [.ref 0, .int row, .int by_, .ref 38, .float 0]) rfl rfl (by decide) rfl ?_
    refine mt_iconst dL_roll_16 (v := nI 1) rfl ?_
    refine mt_ireturn dL_roll_17 rfl rfl (by simp only [rX2_roll, rL_roll]; omega) (by simp only [rX2_roll, rL_roll]; omega) ?_
    exact ⟨by rw [hk], rfl, by rw [if_neg (by rw [hk]; decide)]; exact C, ⟨_, O, fun z => absurd (hk.symm.trans z) (by decide)⟩, fun j j1 j2 => rfl⟩
  · refine mt_catch (nm := "java/lang/IllegalArgumentException") (pre := [(0, 11, 14, 19)]) (suf := []) (x := (0, 11, 18, 21)) rfl (fun z hz => by rw [List.mem_singleton.mp hz]; exact Or.inr ⟨by decide, mw_397, rfl⟩) _ rfl rfl (by decide) mw_398 mw_314 ?_
    show mT _ _ _ _ 18 [.ref 0, .int row, .int by_, .ref 38, .double 0] [.float 0] _ _ _ _
    refine mp_astore dL_roll_18 (ls' := [.ref 0, .int row, .int by_, .ref 38, .float 0]) rfl rfl (by decide) rfl ?_
    refine mt_iconst dL_roll_20 (v := nI 2) rfl ?_
    refine mt_ireturn dL_roll_21 rfl rfl (by simp only [rX2_roll, rL_roll]; omega) (by simp only [rX2_roll, rL_roll]; omega) ?_
    exact ⟨by rw [hk], rfl, by rw [if_neg (by rw [hk]; decide)]; exact C, ⟨_, O, fun z => absurd (hk.symm.trans z) (by decide)⟩, fun j j1 j2 => rfl⟩
set_option maxRecDepth 100000 in
theorem kL_roll {l : Launch} (hl : l.stackTraces = false) {h : mH} {n : Nat} {S : cS} {row : Int32} {by_ : Int32} {y : Int64} {s : Value} (C : cAt h S) (O : h 38 = .inr (.inr (5, [.long y, s]))) : mC l mL_roll rL_roll [.ref 0, .int row, .int by_, .ref 38] h n (lOk (sp_roll S row by_).1 S (sp_roll S row by_) s h n) mNX := by
  refine mm_enterH hl (by decide +kernel) (by intro hh; cases hh) rfl rfl (Nat.le_of_ble_eq_true rfl) ?_
  show mT _ _ _ _ 0 [.ref 0, .int row, .int by_, .ref 38, .double 0] [] _ _ 0 0
  refine mt_aload_n dL_roll_0 rfl rfl ?_
  refine mt_aload_n dL_roll_1 rfl rfl ?_
  refine mt_iload_n dL_roll_2 rfl ?_
  refine mt_iload_n dL_roll_3 rfl ?_
  refine mt_callV (N := mX2_roll) (Rc := rX2_roll) (As := [.int row, .int by_]) (st := [.ref 38]) dL_roll_4 (kX2_roll hl C) sX2_roll mw_517 mKX2 rfl C.1 rfl (Nat.le_of_ble_eq_true rfl) ⟨⟨Nat.le_of_ble_eq_true rfl, Nat.le_of_ble_eq_true rfl⟩, (by simp only [rX2_roll, rL_roll]; omega), (by simp only [rX2_roll, rL_roll]; omega)⟩ (fun v1 h2 n3 c4 => ?_) (fun E h9 n9 hx => tL_roll_x C O hx)
  obtain ⟨c40, c4a, c4b, c4c, c4d⟩ := c4
  have z := oi_roll (S := S) (row := row) (by_ := by_)
  obtain ⟨x, hx⟩ : vI (sp_roll S row by_).2.1 := by rcases z with ⟨-, z⟩ | ⟨z, -⟩ | ⟨z, -⟩ <;> first | exact z | (rw [c40] at z; cases z)
  rw [hx] at c4a; rw [c4a, c4b]
  show mT _ _ _ _ 7 [.ref 0, .int row, .int by_, .ref 38, .double 0] [.int x, .ref 38] _ _ _ _
  refine mt_i2l dL_roll_7 ?_
  refine mp_putfieldN mKX3 (i := 0) (fs' := [.long ((x).toInt64), s]) (by decide) mw_387 rfl dL_roll_8 ((c4d 38 (by omega)).trans O) (Nat.le_of_ble_eq_true rfl) rfl rfl (fun h5 e6 f7 => ?_)
  refine mt_goto dL_roll_11 (tgt := 22) rfl ?_
  refine mt_iconst dL_roll_22 (v := nI 0) rfl ?_
  refine mt_ireturn dL_roll_23 rfl rfl (by simp only [rX2_roll, rL_roll]; omega) (by simp only [rX2_roll, rL_roll]; omega) ?_
  exact ⟨by rw [c40], rfl, by rw [if_pos c40]; exact cAt.fr2 c4c (fun j hj => f7 j (by omega)), ⟨_, e6, fun _ x9 zx => by rw [hx] at zx; cases zx; rfl⟩, fun j j1 j2 => (f7 j (by omega)).trans (c4d j j1)⟩
theorem oi_keep {S : cS} {row : Int32} {from_ : Int32} {to : Int32} : oI vI true false (sp_keep S row from_ to) := by
  unfold sp_keep
  repeat' first | exact Or.inl ⟨rfl, _, rfl⟩ | exact Or.inr (Or.inr ⟨rfl, rfl⟩) | exact Or.inr (Or.inl ⟨rfl, rfl⟩) | refine dAt_o (fun r => ?_) | refine dArg_o (fun r => ?_) | refine dFit_o ?_ | refine dB_o (fun r => ?_) | refine dKeep_o (fun p t => ?_) | split
abbrev rL_keep : Room := { frames := 8, cells := 2, slots := 12, locals := 136 }
set_option maxRecDepth 100000 in
theorem tL_keep_x {l : Launch} {h : mH} {n : Nat} {S : cS} {row : Int32} {from_ : Int32} {to : Int32} {y : Int64} {s : Value} (C : cAt h S) (O : h 38 = .inr (.inr (5, [.long y, s]))) {E : String} {h1 : mH} {n1 : Nat} (hx : cNo (sp_keep S row from_ to).1 h n E h1 n1) : mTX l mL_keep rL_keep (mKo rL_keep (lOk (sp_keep S row from_ to).1 S (sp_keep S row from_ to) s h n) mNX) 6 [.ref 0, .int row, .int from_, .int to, .ref 38, .double 0] E h1 n1 (0 + rX2_keep.cells) (0 + rX2_keep.slots) := by
  obtain ⟨hE, rfl, rfl⟩ := hx
  rcases hE with ⟨rfl, hk⟩ | ⟨rfl, hk⟩
  · refine mt_catch (nm := "java/lang/IndexOutOfBoundsException") (pre := []) (suf := []) (x := (0, 13, 16, 19)) rfl (fun z hz => by cases hz) _ rfl rfl (by decide) mw_397 mw_236 ?_
    show mT _ _ _ _ 16 [.ref 0, .int row, .int from_, .int to, .ref 38, .double 0] [.float 0] _ _ _ _
    refine mp_astore dL_keep_16 (ls' := [.ref 0, .int row, .int from_, .int to, .ref 38, .float 0]) rfl rfl (by decide) rfl ?_
    refine mt_iconst dL_keep_18 (v := nI 1) rfl ?_
    refine mt_ireturn dL_keep_19 rfl rfl (by simp only [rX2_keep, rL_keep]; omega) (by simp only [rX2_keep, rL_keep]; omega) ?_
    exact ⟨by rw [hk], rfl, by rw [if_neg (by rw [hk]; decide)]; exact C, ⟨_, O, fun z => absurd (hk.symm.trans z) (by decide)⟩, fun j j1 j2 => rfl⟩
  · have z := oi_keep (S := S) (row := row) (from_ := from_) (to := to)
    rcases z with ⟨z, -⟩ | ⟨z, z2⟩ | ⟨z, z2⟩
    · rw [hk] at z; cases z
    · first | (rw [hk] at z; cases z; done) | cases z2
    · first | (rw [hk] at z; cases z; done) | cases z2
set_option maxRecDepth 100000 in
theorem kL_keep {l : Launch} (hl : l.stackTraces = false) {h : mH} {n : Nat} {S : cS} {row : Int32} {from_ : Int32} {to : Int32} {y : Int64} {s : Value} (C : cAt h S) (O : h 38 = .inr (.inr (5, [.long y, s]))) : mC l mL_keep rL_keep [.ref 0, .int row, .int from_, .int to, .ref 38] h n (lOk (sp_keep S row from_ to).1 S (sp_keep S row from_ to) s h n) mNX := by
  refine mm_enterH hl (by decide +kernel) (by intro hh; cases hh) rfl rfl (Nat.le_of_ble_eq_true rfl) ?_
  show mT _ _ _ _ 0 [.ref 0, .int row, .int from_, .int to, .ref 38, .double 0] [] _ _ 0 0
  refine mt_aload dL_keep_0 rfl rfl ?_
  refine mt_aload_n dL_keep_2 rfl rfl ?_
  refine mt_iload_n dL_keep_3 rfl ?_
  refine mt_iload_n dL_keep_4 rfl ?_
  refine mt_iload_n dL_keep_5 rfl ?_
  refine mt_callV (N := mX2_keep) (Rc := rX2_keep) (As := [.int row, .int from_, .int to]) (st := [.ref 38]) dL_keep_6 (kX2_keep hl C) sX2_keep mw_524 mKX2 rfl C.1 rfl (Nat.le_of_ble_eq_true rfl) ⟨⟨Nat.le_of_ble_eq_true rfl, Nat.le_of_ble_eq_true rfl⟩, (by simp only [rX2_keep, rL_keep]; omega), (by simp only [rX2_keep, rL_keep]; omega)⟩ (fun v1 h2 n3 c4 => ?_) (fun E h9 n9 hx => tL_keep_x C O hx)
  obtain ⟨c40, c4a, c4b, c4c, c4d⟩ := c4
  have z := oi_keep (S := S) (row := row) (from_ := from_) (to := to)
  obtain ⟨x, hx⟩ : vI (sp_keep S row from_ to).2.1 := by rcases z with ⟨-, z⟩ | ⟨z, -⟩ | ⟨z, -⟩ <;> first | exact z | (rw [c40] at z; cases z)
  rw [hx] at c4a; rw [c4a, c4b]
  show mT _ _ _ _ 9 [.ref 0, .int row, .int from_, .int to, .ref 38, .double 0] [.int x, .ref 38] _ _ _ _
  refine mt_i2l dL_keep_9 ?_
  refine mp_putfieldN mKX3 (i := 0) (fs' := [.long ((x).toInt64), s]) (by decide) mw_387 rfl dL_keep_10 ((c4d 38 (by omega)).trans O) (Nat.le_of_ble_eq_true rfl) rfl rfl (fun h5 e6 f7 => ?_)
  refine mt_goto dL_keep_13 (tgt := 20) rfl ?_
  refine mt_iconst dL_keep_20 (v := nI 0) rfl ?_
  refine mt_ireturn dL_keep_21 rfl rfl (by simp only [rX2_keep, rL_keep]; omega) (by simp only [rX2_keep, rL_keep]; omega) ?_
  exact ⟨by rw [c40], rfl, by rw [if_pos c40]; exact cAt.fr2 c4c (fun j hj => f7 j (by omega)), ⟨_, e6, fun _ x9 zx => by rw [hx] at zx; cases zx; rfl⟩, fun j j1 j2 => (f7 j (by omega)).trans (c4d j j1)⟩
theorem oi_sort {S : cS} {row : Int32} : oI vI true false (sp_sort S row) := by
  unfold sp_sort
  repeat' first | exact Or.inl ⟨rfl, _, rfl⟩ | exact Or.inr (Or.inr ⟨rfl, rfl⟩) | exact Or.inr (Or.inl ⟨rfl, rfl⟩) | refine dAt_o (fun r => ?_) | refine dArg_o (fun r => ?_) | refine dFit_o ?_ | refine dB_o (fun r => ?_) | refine dKeep_o (fun p t => ?_) | split
abbrev rL_sort : Room := { frames := 8, cells := 1, slots := 6, locals := 146 }
set_option maxRecDepth 100000 in
theorem tL_sort_x {l : Launch} {h : mH} {n : Nat} {S : cS} {row : Int32} {y : Int64} {s : Value} (C : cAt h S) (O : h 38 = .inr (.inr (5, [.long y, s]))) {E : String} {h1 : mH} {n1 : Nat} (hx : cNo (sp_sort S row).1 h n E h1 n1) : mTX l mL_sort rL_sort (mKo rL_sort (lOk (sp_sort S row).1 S (sp_sort S row) s h n) mNX) 3 [.ref 0, .int row, .ref 38, .double 0] E h1 n1 (0 + rX2_sort.cells) (0 + rX2_sort.slots) := by
  obtain ⟨hE, rfl, rfl⟩ := hx
  rcases hE with ⟨rfl, hk⟩ | ⟨rfl, hk⟩
  · refine mt_catch (nm := "java/lang/IndexOutOfBoundsException") (pre := []) (suf := []) (x := (0, 10, 13, 19)) rfl (fun z hz => by cases hz) _ rfl rfl (by decide) mw_397 mw_236 ?_
    show mT _ _ _ _ 13 [.ref 0, .int row, .ref 38, .double 0] [.float 0] _ _ _ _
    refine mp_astore_n dL_sort_13 (ls' := [.ref 0, .int row, .ref 38, .float 0]) rfl rfl (by decide) rfl ?_
    refine mt_iconst dL_sort_14 (v := nI 1) rfl ?_
    refine mt_ireturn dL_sort_15 rfl rfl (by simp only [rX2_sort, rL_sort]; omega) (by simp only [rX2_sort, rL_sort]; omega) ?_
    exact ⟨by rw [hk], rfl, by rw [if_neg (by rw [hk]; decide)]; exact C, ⟨_, O, fun z => absurd (hk.symm.trans z) (by decide)⟩, fun j j1 j2 => rfl⟩
  · have z := oi_sort (S := S) (row := row)
    rcases z with ⟨z, -⟩ | ⟨z, z2⟩ | ⟨z, z2⟩
    · rw [hk] at z; cases z
    · first | (rw [hk] at z; cases z; done) | cases z2
    · first | (rw [hk] at z; cases z; done) | cases z2
set_option maxRecDepth 100000 in
theorem kL_sort {l : Launch} (hl : l.stackTraces = false) {h : mH} {n : Nat} {S : cS} {row : Int32} {y : Int64} {s : Value} (C : cAt h S) (O : h 38 = .inr (.inr (5, [.long y, s]))) : mC l mL_sort rL_sort [.ref 0, .int row, .ref 38] h n (lOk (sp_sort S row).1 S (sp_sort S row) s h n) mNX := by
  refine mm_enterH hl (by decide +kernel) (by intro hh; cases hh) rfl rfl (Nat.le_of_ble_eq_true rfl) ?_
  show mT _ _ _ _ 0 [.ref 0, .int row, .ref 38, .double 0] [] _ _ 0 0
  refine mt_aload_n dL_sort_0 rfl rfl ?_
  refine mt_aload_n dL_sort_1 rfl rfl ?_
  refine mt_iload_n dL_sort_2 rfl ?_
  refine mt_callV (N := mX2_sort) (Rc := rX2_sort) (As := [.int row]) (st := [.ref 38]) dL_sort_3 (kX2_sort hl C) sX2_sort mw_531 mKX2 rfl C.1 rfl (Nat.le_of_ble_eq_true rfl) ⟨⟨Nat.le_of_ble_eq_true rfl, Nat.le_of_ble_eq_true rfl⟩, (by simp only [rX2_sort, rL_sort]; omega), (by simp only [rX2_sort, rL_sort]; omega)⟩ (fun v1 h2 n3 c4 => ?_) (fun E h9 n9 hx => tL_sort_x C O hx)
  obtain ⟨c40, c4a, c4b, c4c, c4d⟩ := c4
  have z := oi_sort (S := S) (row := row)
  obtain ⟨x, hx⟩ : vI (sp_sort S row).2.1 := by rcases z with ⟨-, z⟩ | ⟨z, -⟩ | ⟨z, -⟩ <;> first | exact z | (rw [c40] at z; cases z)
  rw [hx] at c4a; rw [c4a, c4b]
  show mT _ _ _ _ 6 [.ref 0, .int row, .ref 38, .double 0] [.int x, .ref 38] _ _ _ _
  refine mt_i2l dL_sort_6 ?_
  refine mp_putfieldN mKX3 (i := 0) (fs' := [.long ((x).toInt64), s]) (by decide) mw_387 rfl dL_sort_7 ((c4d 38 (by omega)).trans O) (Nat.le_of_ble_eq_true rfl) rfl rfl (fun h5 e6 f7 => ?_)
  refine mt_goto dL_sort_10 (tgt := 16) rfl ?_
  refine mt_iconst dL_sort_16 (v := nI 0) rfl ?_
  refine mt_ireturn dL_sort_17 rfl rfl (by simp only [rX2_sort, rL_sort]; omega) (by simp only [rX2_sort, rL_sort]; omega) ?_
  exact ⟨by rw [c40], rfl, by rw [if_pos c40]; exact cAt.fr2 c4c (fun j hj => f7 j (by omega)), ⟨_, e6, fun _ x9 zx => by rw [hx] at zx; cases zx; rfl⟩, fun j j1 j2 => (f7 j (by omega)).trans (c4d j j1)⟩
theorem oi_copy {S : cS} {row : Int32} {into : Int32} : oI vI true false (sp_copy S row into) := by
  unfold sp_copy
  repeat' first | exact Or.inl ⟨rfl, _, rfl⟩ | exact Or.inr (Or.inr ⟨rfl, rfl⟩) | exact Or.inr (Or.inl ⟨rfl, rfl⟩) | refine dAt_o (fun r => ?_) | refine dArg_o (fun r => ?_) | refine dFit_o ?_ | refine dB_o (fun r => ?_) | refine dKeep_o (fun p t => ?_) | split
abbrev rL_copy : Room := { frames := 8, cells := 2, slots := 12, locals := 135 }
set_option maxRecDepth 100000 in
theorem tL_copy_x {l : Launch} {h : mH} {n : Nat} {S : cS} {row : Int32} {into : Int32} {y : Int64} {s : Value} (C : cAt h S) (O : h 38 = .inr (.inr (5, [.long y, s]))) {E : String} {h1 : mH} {n1 : Nat} (hx : cNo (sp_copy S row into).1 h n E h1 n1) : mTX l mL_copy rL_copy (mKo rL_copy (lOk (sp_copy S row into).1 S (sp_copy S row into) s h n) mNX) 4 [.ref 0, .int row, .int into, .ref 38, .double 0] E h1 n1 (0 + rX2_copy.cells) (0 + rX2_copy.slots) := by
  obtain ⟨hE, rfl, rfl⟩ := hx
  rcases hE with ⟨rfl, hk⟩ | ⟨rfl, hk⟩
  · refine mt_catch (nm := "java/lang/IndexOutOfBoundsException") (pre := []) (suf := []) (x := (0, 11, 14, 19)) rfl (fun z hz => by cases hz) _ rfl rfl (by decide) mw_397 mw_236 ?_
    show mT _ _ _ _ 14 [.ref 0, .int row, .int into, .ref 38, .double 0] [.float 0] _ _ _ _
    refine mp_astore dL_copy_14 (ls' := [.ref 0, .int row, .int into, .ref 38, .float 0]) rfl rfl (by decide) rfl ?_
    refine mt_iconst dL_copy_16 (v := nI 1) rfl ?_
    refine mt_ireturn dL_copy_17 rfl rfl (by simp only [rX2_copy, rL_copy]; omega) (by simp only [rX2_copy, rL_copy]; omega) ?_
    exact ⟨by rw [hk], rfl, by rw [if_neg (by rw [hk]; decide)]; exact C, ⟨_, O, fun z => absurd (hk.symm.trans z) (by decide)⟩, fun j j1 j2 => rfl⟩
  · have z := oi_copy (S := S) (row := row) (into := into)
    rcases z with ⟨z, -⟩ | ⟨z, z2⟩ | ⟨z, z2⟩
    · rw [hk] at z; cases z
    · first | (rw [hk] at z; cases z; done) | cases z2
    · first | (rw [hk] at z; cases z; done) | cases z2
set_option maxRecDepth 100000 in
theorem kL_copy {l : Launch} (hl : l.stackTraces = false) {h : mH} {n : Nat} {S : cS} {row : Int32} {into : Int32} {y : Int64} {s : Value} (C : cAt h S) (O : h 38 = .inr (.inr (5, [.long y, s]))) : mC l mL_copy rL_copy [.ref 0, .int row, .int into, .ref 38] h n (lOk (sp_copy S row into).1 S (sp_copy S row into) s h n) mNX := by
  refine mm_enterH hl (by decide +kernel) (by intro hh; cases hh) rfl rfl (Nat.le_of_ble_eq_true rfl) ?_
  show mT _ _ _ _ 0 [.ref 0, .int row, .int into, .ref 38, .double 0] [] _ _ 0 0
  refine mt_aload_n dL_copy_0 rfl rfl ?_
  refine mt_aload_n dL_copy_1 rfl rfl ?_
  refine mt_iload_n dL_copy_2 rfl ?_
  refine mt_iload_n dL_copy_3 rfl ?_
  refine mt_callV (N := mX2_copy) (Rc := rX2_copy) (As := [.int row, .int into]) (st := [.ref 38]) dL_copy_4 (kX2_copy hl C) sX2_copy mw_538 mKX2 rfl C.1 rfl (Nat.le_of_ble_eq_true rfl) ⟨⟨Nat.le_of_ble_eq_true rfl, Nat.le_of_ble_eq_true rfl⟩, (by simp only [rX2_copy, rL_copy]; omega), (by simp only [rX2_copy, rL_copy]; omega)⟩ (fun v1 h2 n3 c4 => ?_) (fun E h9 n9 hx => tL_copy_x C O hx)
  obtain ⟨c40, c4a, c4b, c4c, c4d⟩ := c4
  have z := oi_copy (S := S) (row := row) (into := into)
  obtain ⟨x, hx⟩ : vI (sp_copy S row into).2.1 := by rcases z with ⟨-, z⟩ | ⟨z, -⟩ | ⟨z, -⟩ <;> first | exact z | (rw [c40] at z; cases z)
  rw [hx] at c4a; rw [c4a, c4b]
  show mT _ _ _ _ 7 [.ref 0, .int row, .int into, .ref 38, .double 0] [.int x, .ref 38] _ _ _ _
  refine mt_i2l dL_copy_7 ?_
  refine mp_putfieldN mKX3 (i := 0) (fs' := [.long ((x).toInt64), s]) (by decide) mw_387 rfl dL_copy_8 ((c4d 38 (by omega)).trans O) (Nat.le_of_ble_eq_true rfl) rfl rfl (fun h5 e6 f7 => ?_)
  refine mt_goto dL_copy_11 (tgt := 18) rfl ?_
  refine mt_iconst dL_copy_18 (v := nI 0) rfl ?_
  refine mt_ireturn dL_copy_19 rfl rfl (by simp only [rX2_copy, rL_copy]; omega) (by simp only [rX2_copy, rL_copy]; omega) ?_
  exact ⟨by rw [c40], rfl, by rw [if_pos c40]; exact cAt.fr2 c4c (fun j hj => f7 j (by omega)), ⟨_, e6, fun _ x9 zx => by rw [hx] at zx; cases zx; rfl⟩, fun j j1 j2 => (f7 j (by omega)).trans (c4d j j1)⟩
theorem oi_join {S : cS} {row : Int32} {other : Int32} : oI vI true false (sp_join S row other) := by
  unfold sp_join
  repeat' first | exact Or.inl ⟨rfl, _, rfl⟩ | exact Or.inr (Or.inr ⟨rfl, rfl⟩) | exact Or.inr (Or.inl ⟨rfl, rfl⟩) | refine dAt_o (fun r => ?_) | refine dArg_o (fun r => ?_) | refine dFit_o ?_ | refine dB_o (fun r => ?_) | refine dKeep_o (fun p t => ?_) | split
abbrev rL_join : Room := { frames := 8, cells := 2, slots := 12, locals := 135 }
set_option maxRecDepth 100000 in
theorem tL_join_x {l : Launch} {h : mH} {n : Nat} {S : cS} {row : Int32} {other : Int32} {y : Int64} {s : Value} (C : cAt h S) (O : h 38 = .inr (.inr (5, [.long y, s]))) {E : String} {h1 : mH} {n1 : Nat} (hx : cNo (sp_join S row other).1 h n E h1 n1) : mTX l mL_join rL_join (mKo rL_join (lOk (sp_join S row other).1 S (sp_join S row other) s h n) mNX) 4 [.ref 0, .int row, .int other, .ref 38, .double 0] E h1 n1 (0 + rX2_join.cells) (0 + rX2_join.slots) := by
  obtain ⟨hE, rfl, rfl⟩ := hx
  rcases hE with ⟨rfl, hk⟩ | ⟨rfl, hk⟩
  · refine mt_catch (nm := "java/lang/IndexOutOfBoundsException") (pre := []) (suf := []) (x := (0, 11, 14, 19)) rfl (fun z hz => by cases hz) _ rfl rfl (by decide) mw_397 mw_236 ?_
    show mT _ _ _ _ 14 [.ref 0, .int row, .int other, .ref 38, .double 0] [.float 0] _ _ _ _
    refine mp_astore dL_join_14 (ls' := [.ref 0, .int row, .int other, .ref 38, .float 0]) rfl rfl (by decide) rfl ?_
    refine mt_iconst dL_join_16 (v := nI 1) rfl ?_
    refine mt_ireturn dL_join_17 rfl rfl (by simp only [rX2_join, rL_join]; omega) (by simp only [rX2_join, rL_join]; omega) ?_
    exact ⟨by rw [hk], rfl, by rw [if_neg (by rw [hk]; decide)]; exact C, ⟨_, O, fun z => absurd (hk.symm.trans z) (by decide)⟩, fun j j1 j2 => rfl⟩
  · have z := oi_join (S := S) (row := row) (other := other)
    rcases z with ⟨z, -⟩ | ⟨z, z2⟩ | ⟨z, z2⟩
    · rw [hk] at z; cases z
    · first | (rw [hk] at z; cases z; done) | cases z2
    · first | (rw [hk] at z; cases z; done) | cases z2
set_option maxRecDepth 100000 in
theorem kL_join {l : Launch} (hl : l.stackTraces = false) {h : mH} {n : Nat} {S : cS} {row : Int32} {other : Int32} {y : Int64} {s : Value} (C : cAt h S) (O : h 38 = .inr (.inr (5, [.long y, s]))) : mC l mL_join rL_join [.ref 0, .int row, .int other, .ref 38] h n (lOk (sp_join S row other).1 S (sp_join S row other) s h n) mNX := by
  refine mm_enterH hl (by decide +kernel) (by intro hh; cases hh) rfl rfl (Nat.le_of_ble_eq_true rfl) ?_
  show mT _ _ _ _ 0 [.ref 0, .int row, .int other, .ref 38, .double 0] [] _ _ 0 0
  refine mt_aload_n dL_join_0 rfl rfl ?_
  refine mt_aload_n dL_join_1 rfl rfl ?_
  refine mt_iload_n dL_join_2 rfl ?_
  refine mt_iload_n dL_join_3 rfl ?_
  refine mt_callV (N := mX2_join) (Rc := rX2_join) (As := [.int row, .int other]) (st := [.ref 38]) dL_join_4 (kX2_join hl C) sX2_join mw_553 mKX2 rfl C.1 rfl (Nat.le_of_ble_eq_true rfl) ⟨⟨Nat.le_of_ble_eq_true rfl, Nat.le_of_ble_eq_true rfl⟩, (by simp only [rX2_join, rL_join]; omega), (by simp only [rX2_join, rL_join]; omega)⟩ (fun v1 h2 n3 c4 => ?_) (fun E h9 n9 hx => tL_join_x C O hx)
  obtain ⟨c40, c4a, c4b, c4c, c4d⟩ := c4
  have z := oi_join (S := S) (row := row) (other := other)
  obtain ⟨x, hx⟩ : vI (sp_join S row other).2.1 := by rcases z with ⟨-, z⟩ | ⟨z, -⟩ | ⟨z, -⟩ <;> first | exact z | (rw [c40] at z; cases z)
  rw [hx] at c4a; rw [c4a, c4b]
  show mT _ _ _ _ 7 [.ref 0, .int row, .int other, .ref 38, .double 0] [.int x, .ref 38] _ _ _ _
  refine mt_i2l dL_join_7 ?_
  refine mp_putfieldN mKX3 (i := 0) (fs' := [.long ((x).toInt64), s]) (by decide) mw_387 rfl dL_join_8 ((c4d 38 (by omega)).trans O) (Nat.le_of_ble_eq_true rfl) rfl rfl (fun h5 e6 f7 => ?_)
  refine mt_goto dL_join_11 (tgt := 18) rfl ?_
  refine mt_iconst dL_join_18 (v := nI 0) rfl ?_
  refine mt_ireturn dL_join_19 rfl rfl (by simp only [rX2_join, rL_join]; omega) (by simp only [rX2_join, rL_join]; omega) ?_
  exact ⟨by rw [c40], rfl, by rw [if_pos c40]; exact cAt.fr2 c4c (fun j hj => f7 j (by omega)), ⟨_, e6, fun _ x9 zx => by rw [hx] at zx; cases zx; rfl⟩, fun j j1 j2 => (f7 j (by omega)).trans (c4d j j1)⟩
theorem oi_merge {S : cS} {row : Int32} {other : Int32} : oI vI true false (sp_merge S row other) := by
  unfold sp_merge
  repeat' first | exact Or.inl ⟨rfl, _, rfl⟩ | exact Or.inr (Or.inr ⟨rfl, rfl⟩) | exact Or.inr (Or.inl ⟨rfl, rfl⟩) | refine dAt_o (fun r => ?_) | refine dArg_o (fun r => ?_) | refine dFit_o ?_ | refine dB_o (fun r => ?_) | refine dKeep_o (fun p t => ?_) | split
abbrev rL_merge : Room := { frames := 8, cells := 2, slots := 12, locals := 135 }
set_option maxRecDepth 100000 in
theorem tL_merge_x {l : Launch} {h : mH} {n : Nat} {S : cS} {row : Int32} {other : Int32} {y : Int64} {s : Value} (C : cAt h S) (O : h 38 = .inr (.inr (5, [.long y, s]))) {E : String} {h1 : mH} {n1 : Nat} (hx : cNo (sp_merge S row other).1 h n E h1 n1) : mTX l mL_merge rL_merge (mKo rL_merge (lOk (sp_merge S row other).1 S (sp_merge S row other) s h n) mNX) 4 [.ref 0, .int row, .int other, .ref 38, .double 0] E h1 n1 (0 + rX2_merge.cells) (0 + rX2_merge.slots) := by
  obtain ⟨hE, rfl, rfl⟩ := hx
  rcases hE with ⟨rfl, hk⟩ | ⟨rfl, hk⟩
  · refine mt_catch (nm := "java/lang/IndexOutOfBoundsException") (pre := []) (suf := []) (x := (0, 11, 14, 19)) rfl (fun z hz => by cases hz) _ rfl rfl (by decide) mw_397 mw_236 ?_
    show mT _ _ _ _ 14 [.ref 0, .int row, .int other, .ref 38, .double 0] [.float 0] _ _ _ _
    refine mp_astore dL_merge_14 (ls' := [.ref 0, .int row, .int other, .ref 38, .float 0]) rfl rfl (by decide) rfl ?_
    refine mt_iconst dL_merge_16 (v := nI 1) rfl ?_
    refine mt_ireturn dL_merge_17 rfl rfl (by simp only [rX2_merge, rL_merge]; omega) (by simp only [rX2_merge, rL_merge]; omega) ?_
    exact ⟨by rw [hk], rfl, by rw [if_neg (by rw [hk]; decide)]; exact C, ⟨_, O, fun z => absurd (hk.symm.trans z) (by decide)⟩, fun j j1 j2 => rfl⟩
  · have z := oi_merge (S := S) (row := row) (other := other)
    rcases z with ⟨z, -⟩ | ⟨z, z2⟩ | ⟨z, z2⟩
    · rw [hk] at z; cases z
    · first | (rw [hk] at z; cases z; done) | cases z2
    · first | (rw [hk] at z; cases z; done) | cases z2
set_option maxRecDepth 100000 in
theorem kL_merge {l : Launch} (hl : l.stackTraces = false) {h : mH} {n : Nat} {S : cS} {row : Int32} {other : Int32} {y : Int64} {s : Value} (C : cAt h S) (O : h 38 = .inr (.inr (5, [.long y, s]))) : mC l mL_merge rL_merge [.ref 0, .int row, .int other, .ref 38] h n (lOk (sp_merge S row other).1 S (sp_merge S row other) s h n) mNX := by
  refine mm_enterH hl (by decide +kernel) (by intro hh; cases hh) rfl rfl (Nat.le_of_ble_eq_true rfl) ?_
  show mT _ _ _ _ 0 [.ref 0, .int row, .int other, .ref 38, .double 0] [] _ _ 0 0
  refine mt_aload_n dL_merge_0 rfl rfl ?_
  refine mt_aload_n dL_merge_1 rfl rfl ?_
  refine mt_iload_n dL_merge_2 rfl ?_
  refine mt_iload_n dL_merge_3 rfl ?_
  refine mt_callV (N := mX2_merge) (Rc := rX2_merge) (As := [.int row, .int other]) (st := [.ref 38]) dL_merge_4 (kX2_merge hl C) sX2_merge mw_560 mKX2 rfl C.1 rfl (Nat.le_of_ble_eq_true rfl) ⟨⟨Nat.le_of_ble_eq_true rfl, Nat.le_of_ble_eq_true rfl⟩, (by simp only [rX2_merge, rL_merge]; omega), (by simp only [rX2_merge, rL_merge]; omega)⟩ (fun v1 h2 n3 c4 => ?_) (fun E h9 n9 hx => tL_merge_x C O hx)
  obtain ⟨c40, c4a, c4b, c4c, c4d⟩ := c4
  have z := oi_merge (S := S) (row := row) (other := other)
  obtain ⟨x, hx⟩ : vI (sp_merge S row other).2.1 := by rcases z with ⟨-, z⟩ | ⟨z, -⟩ | ⟨z, -⟩ <;> first | exact z | (rw [c40] at z; cases z)
  rw [hx] at c4a; rw [c4a, c4b]
  show mT _ _ _ _ 7 [.ref 0, .int row, .int other, .ref 38, .double 0] [.int x, .ref 38] _ _ _ _
  refine mt_i2l dL_merge_7 ?_
  refine mp_putfieldN mKX3 (i := 0) (fs' := [.long ((x).toInt64), s]) (by decide) mw_387 rfl dL_merge_8 ((c4d 38 (by omega)).trans O) (Nat.le_of_ble_eq_true rfl) rfl rfl (fun h5 e6 f7 => ?_)
  refine mt_goto dL_merge_11 (tgt := 18) rfl ?_
  refine mt_iconst dL_merge_18 (v := nI 0) rfl ?_
  refine mt_ireturn dL_merge_19 rfl rfl (by simp only [rX2_merge, rL_merge]; omega) (by simp only [rX2_merge, rL_merge]; omega) ?_
  exact ⟨by rw [c40], rfl, by rw [if_pos c40]; exact cAt.fr2 c4c (fun j hj => f7 j (by omega)), ⟨_, e6, fun _ x9 zx => by rw [hx] at zx; cases zx; rfl⟩, fun j j1 j2 => (f7 j (by omega)).trans (c4d j j1)⟩
theorem oi_many {S : cS} {row : Int32} : oI vI true false (sp_many S row) := by
  unfold sp_many
  repeat' first | exact Or.inl ⟨rfl, _, rfl⟩ | exact Or.inr (Or.inr ⟨rfl, rfl⟩) | exact Or.inr (Or.inl ⟨rfl, rfl⟩) | refine dAt_o (fun r => ?_) | refine dArg_o (fun r => ?_) | refine dFit_o ?_ | refine dB_o (fun r => ?_) | refine dKeep_o (fun p t => ?_) | split
abbrev rL_many : Room := { frames := 8, cells := 1, slots := 6, locals := 132 }
set_option maxRecDepth 100000 in
theorem tL_many_x {l : Launch} {h : mH} {n : Nat} {S : cS} {row : Int32} {y : Int64} {s : Value} (C : cAt h S) (O : h 38 = .inr (.inr (5, [.long y, s]))) {E : String} {h1 : mH} {n1 : Nat} (hx : cNo (sp_many S row).1 h n E h1 n1) : mTX l mL_many rL_many (mKo rL_many (lOk (sp_many S row).1 S (sp_many S row) s h n) mNX) 3 [.ref 0, .int row, .ref 38, .double 0] E h1 n1 (0 + rX2_many.cells) (0 + rX2_many.slots) := by
  obtain ⟨hE, rfl, rfl⟩ := hx
  rcases hE with ⟨rfl, hk⟩ | ⟨rfl, hk⟩
  · refine mt_catch (nm := "java/lang/IndexOutOfBoundsException") (pre := []) (suf := []) (x := (0, 10, 13, 19)) rfl (fun z hz => by cases hz) _ rfl rfl (by decide) mw_397 mw_236 ?_
    show mT _ _ _ _ 13 [.ref 0, .int row, .ref 38, .double 0] [.float 0] _ _ _ _
    refine mp_astore_n dL_many_13 (ls' := [.ref 0, .int row, .ref 38, .float 0]) rfl rfl (by decide) rfl ?_
    refine mt_iconst dL_many_14 (v := nI 1) rfl ?_
    refine mt_ireturn dL_many_15 rfl rfl (by simp only [rX2_many, rL_many]; omega) (by simp only [rX2_many, rL_many]; omega) ?_
    exact ⟨by rw [hk], rfl, by rw [if_neg (by rw [hk]; decide)]; exact C, ⟨_, O, fun z => absurd (hk.symm.trans z) (by decide)⟩, fun j j1 j2 => rfl⟩
  · have z := oi_many (S := S) (row := row)
    rcases z with ⟨z, -⟩ | ⟨z, z2⟩ | ⟨z, z2⟩
    · rw [hk] at z; cases z
    · first | (rw [hk] at z; cases z; done) | cases z2
    · first | (rw [hk] at z; cases z; done) | cases z2
set_option maxRecDepth 100000 in
theorem kL_many {l : Launch} (hl : l.stackTraces = false) {h : mH} {n : Nat} {S : cS} {row : Int32} {y : Int64} {s : Value} (C : cAt h S) (O : h 38 = .inr (.inr (5, [.long y, s]))) : mC l mL_many rL_many [.ref 0, .int row, .ref 38] h n (lOk (sp_many S row).1 S (sp_many S row) s h n) mNX := by
  refine mm_enterH hl (by decide +kernel) (by intro hh; cases hh) rfl rfl (Nat.le_of_ble_eq_true rfl) ?_
  show mT _ _ _ _ 0 [.ref 0, .int row, .ref 38, .double 0] [] _ _ 0 0
  refine mt_aload_n dL_many_0 rfl rfl ?_
  refine mt_aload_n dL_many_1 rfl rfl ?_
  refine mt_iload_n dL_many_2 rfl ?_
  refine mt_callV (N := mX2_many) (Rc := rX2_many) (As := [.int row]) (st := [.ref 38]) dL_many_3 (kX2_many hl C) sX2_many mw_567 mKX2 rfl C.1 rfl (Nat.le_of_ble_eq_true rfl) ⟨⟨Nat.le_of_ble_eq_true rfl, Nat.le_of_ble_eq_true rfl⟩, (by simp only [rX2_many, rL_many]; omega), (by simp only [rX2_many, rL_many]; omega)⟩ (fun v1 h2 n3 c4 => ?_) (fun E h9 n9 hx => tL_many_x C O hx)
  obtain ⟨c40, c4a, c4b, c4c, c4d⟩ := c4
  have z := oi_many (S := S) (row := row)
  obtain ⟨x, hx⟩ : vI (sp_many S row).2.1 := by rcases z with ⟨-, z⟩ | ⟨z, -⟩ | ⟨z, -⟩ <;> first | exact z | (rw [c40] at z; cases z)
  rw [hx] at c4a; rw [c4a, c4b]
  show mT _ _ _ _ 6 [.ref 0, .int row, .ref 38, .double 0] [.int x, .ref 38] _ _ _ _
  refine mt_i2l dL_many_6 ?_
  refine mp_putfieldN mKX3 (i := 0) (fs' := [.long ((x).toInt64), s]) (by decide) mw_387 rfl dL_many_7 ((c4d 38 (by omega)).trans O) (Nat.le_of_ble_eq_true rfl) rfl rfl (fun h5 e6 f7 => ?_)
  refine mt_goto dL_many_10 (tgt := 16) rfl ?_
  refine mt_iconst dL_many_16 (v := nI 0) rfl ?_
  refine mt_ireturn dL_many_17 rfl rfl (by simp only [rX2_many, rL_many]; omega) (by simp only [rX2_many, rL_many]; omega) ?_
  exact ⟨by rw [c40], rfl, by rw [if_pos c40]; exact cAt.fr2 c4c (fun j hj => f7 j (by omega)), ⟨_, e6, fun _ x9 zx => by rw [hx] at zx; cases zx; rfl⟩, fun j j1 j2 => (f7 j (by omega)).trans (c4d j j1)⟩
theorem oi_key {S : cS} {row : Int32} {place : Int32} : oI vI true false (sp_key S row place) := by
  unfold sp_key
  repeat' first | exact Or.inl ⟨rfl, _, rfl⟩ | exact Or.inr (Or.inr ⟨rfl, rfl⟩) | exact Or.inr (Or.inl ⟨rfl, rfl⟩) | refine dAt_o (fun r => ?_) | refine dArg_o (fun r => ?_) | refine dFit_o ?_ | refine dB_o (fun r => ?_) | refine dKeep_o (fun p t => ?_) | split
abbrev rL_key : Room := { frames := 9, cells := 2, slots := 12, locals := 154 }
set_option maxRecDepth 100000 in
theorem tL_key_x {l : Launch} {h : mH} {n : Nat} {S : cS} {row : Int32} {place : Int32} {y : Int64} {s : Value} (C : cAt h S) (O : h 38 = .inr (.inr (5, [.long y, s]))) {E : String} {h1 : mH} {n1 : Nat} (hx : cNo (sp_key S row place).1 h n E h1 n1) : mTX l mL_key rL_key (mKo rL_key (lOk (sp_key S row place).1 S (sp_key S row place) s h n) mNX) 4 [.ref 0, .int row, .int place, .ref 38, .double 0] E h1 n1 (0 + rX2_key.cells) (0 + rX2_key.slots) := by
  obtain ⟨hE, rfl, rfl⟩ := hx
  rcases hE with ⟨rfl, hk⟩ | ⟨rfl, hk⟩
  · refine mt_catch (nm := "java/lang/IndexOutOfBoundsException") (pre := []) (suf := []) (x := (0, 11, 14, 19)) rfl (fun z hz => by cases hz) _ rfl rfl (by decide) mw_397 mw_236 ?_
    show mT _ _ _ _ 14 [.ref 0, .int row, .int place, .ref 38, .double 0] [.float 0] _ _ _ _
    refine mp_astore dL_key_14 (ls' := [.ref 0, .int row, .int place, .ref 38, .float 0]) rfl rfl (by decide) rfl ?_
    refine mt_iconst dL_key_16 (v := nI 1) rfl ?_
    refine mt_ireturn dL_key_17 rfl rfl (by simp only [rX2_key, rL_key]; omega) (by simp only [rX2_key, rL_key]; omega) ?_
    exact ⟨by rw [hk], rfl, by rw [if_neg (by rw [hk]; decide)]; exact C, ⟨_, O, fun z => absurd (hk.symm.trans z) (by decide)⟩, fun j j1 j2 => rfl⟩
  · have z := oi_key (S := S) (row := row) (place := place)
    rcases z with ⟨z, -⟩ | ⟨z, z2⟩ | ⟨z, z2⟩
    · rw [hk] at z; cases z
    · first | (rw [hk] at z; cases z; done) | cases z2
    · first | (rw [hk] at z; cases z; done) | cases z2
set_option maxRecDepth 100000 in
theorem kL_key {l : Launch} (hl : l.stackTraces = false) {h : mH} {n : Nat} {S : cS} {row : Int32} {place : Int32} {y : Int64} {s : Value} (C : cAt h S) (O : h 38 = .inr (.inr (5, [.long y, s]))) : mC l mL_key rL_key [.ref 0, .int row, .int place, .ref 38] h n (lOk (sp_key S row place).1 S (sp_key S row place) s h n) mNX := by
  refine mm_enterH hl (by decide +kernel) (by intro hh; cases hh) rfl rfl (Nat.le_of_ble_eq_true rfl) ?_
  show mT _ _ _ _ 0 [.ref 0, .int row, .int place, .ref 38, .double 0] [] _ _ 0 0
  refine mt_aload_n dL_key_0 rfl rfl ?_
  refine mt_aload_n dL_key_1 rfl rfl ?_
  refine mt_iload_n dL_key_2 rfl ?_
  refine mt_iload_n dL_key_3 rfl ?_
  refine mt_callV (N := mX2_key) (Rc := rX2_key) (As := [.int row, .int place]) (st := [.ref 38]) dL_key_4 (kX2_key hl C) sX2_key mw_571 mKX2 rfl C.1 rfl (Nat.le_of_ble_eq_true rfl) ⟨⟨Nat.le_of_ble_eq_true rfl, Nat.le_of_ble_eq_true rfl⟩, (by simp only [rX2_key, rL_key]; omega), (by simp only [rX2_key, rL_key]; omega)⟩ (fun v1 h2 n3 c4 => ?_) (fun E h9 n9 hx => tL_key_x C O hx)
  obtain ⟨c40, c4a, c4b, c4c, c4d⟩ := c4
  have z := oi_key (S := S) (row := row) (place := place)
  obtain ⟨x, hx⟩ : vI (sp_key S row place).2.1 := by rcases z with ⟨-, z⟩ | ⟨z, -⟩ | ⟨z, -⟩ <;> first | exact z | (rw [c40] at z; cases z)
  rw [hx] at c4a; rw [c4a, c4b]
  show mT _ _ _ _ 7 [.ref 0, .int row, .int place, .ref 38, .double 0] [.int x, .ref 38] _ _ _ _
  refine mt_i2l dL_key_7 ?_
  refine mp_putfieldN mKX3 (i := 0) (fs' := [.long ((x).toInt64), s]) (by decide) mw_387 rfl dL_key_8 ((c4d 38 (by omega)).trans O) (Nat.le_of_ble_eq_true rfl) rfl rfl (fun h5 e6 f7 => ?_)
  refine mt_goto dL_key_11 (tgt := 18) rfl ?_
  refine mt_iconst dL_key_18 (v := nI 0) rfl ?_
  refine mt_ireturn dL_key_19 rfl rfl (by simp only [rX2_key, rL_key]; omega) (by simp only [rX2_key, rL_key]; omega) ?_
  exact ⟨by rw [c40], rfl, by rw [if_pos c40]; exact cAt.fr2 c4c (fun j hj => f7 j (by omega)), ⟨_, e6, fun _ x9 zx => by rw [hx] at zx; cases zx; rfl⟩, fun j j1 j2 => (f7 j (by omega)).trans (c4d j j1)⟩
theorem oi_stamp {S : cS} {row : Int32} {place : Int32} : oI vI true false (sp_stamp S row place) := by
  unfold sp_stamp
  repeat' first | exact Or.inl ⟨rfl, _, rfl⟩ | exact Or.inr (Or.inr ⟨rfl, rfl⟩) | exact Or.inr (Or.inl ⟨rfl, rfl⟩) | refine dAt_o (fun r => ?_) | refine dArg_o (fun r => ?_) | refine dFit_o ?_ | refine dB_o (fun r => ?_) | refine dKeep_o (fun p t => ?_) | split
abbrev rL_stamp : Room := { frames := 9, cells := 2, slots := 12, locals := 154 }
set_option maxRecDepth 100000 in
theorem tL_stamp_x {l : Launch} {h : mH} {n : Nat} {S : cS} {row : Int32} {place : Int32} {y : Int64} {s : Value} (C : cAt h S) (O : h 38 = .inr (.inr (5, [.long y, s]))) {E : String} {h1 : mH} {n1 : Nat} (hx : cNo (sp_stamp S row place).1 h n E h1 n1) : mTX l mL_stamp rL_stamp (mKo rL_stamp (lOk (sp_stamp S row place).1 S (sp_stamp S row place) s h n) mNX) 4 [.ref 0, .int row, .int place, .ref 38, .double 0] E h1 n1 (0 + rX2_stamp.cells) (0 + rX2_stamp.slots) := by
  obtain ⟨hE, rfl, rfl⟩ := hx
  rcases hE with ⟨rfl, hk⟩ | ⟨rfl, hk⟩
  · refine mt_catch (nm := "java/lang/IndexOutOfBoundsException") (pre := []) (suf := []) (x := (0, 11, 14, 19)) rfl (fun z hz => by cases hz) _ rfl rfl (by decide) mw_397 mw_236 ?_
    show mT _ _ _ _ 14 [.ref 0, .int row, .int place, .ref 38, .double 0] [.float 0] _ _ _ _
    refine mp_astore dL_stamp_14 (ls' := [.ref 0, .int row, .int place, .ref 38, .float 0]) rfl rfl (by decide) rfl ?_
    refine mt_iconst dL_stamp_16 (v := nI 1) rfl ?_
    refine mt_ireturn dL_stamp_17 rfl rfl (by simp only [rX2_stamp, rL_stamp]; omega) (by simp only [rX2_stamp, rL_stamp]; omega) ?_
    exact ⟨by rw [hk], rfl, by rw [if_neg (by rw [hk]; decide)]; exact C, ⟨_, O, fun z => absurd (hk.symm.trans z) (by decide)⟩, fun j j1 j2 => rfl⟩
  · have z := oi_stamp (S := S) (row := row) (place := place)
    rcases z with ⟨z, -⟩ | ⟨z, z2⟩ | ⟨z, z2⟩
    · rw [hk] at z; cases z
    · first | (rw [hk] at z; cases z; done) | cases z2
    · first | (rw [hk] at z; cases z; done) | cases z2
set_option maxRecDepth 100000 in
theorem kL_stamp {l : Launch} (hl : l.stackTraces = false) {h : mH} {n : Nat} {S : cS} {row : Int32} {place : Int32} {y : Int64} {s : Value} (C : cAt h S) (O : h 38 = .inr (.inr (5, [.long y, s]))) : mC l mL_stamp rL_stamp [.ref 0, .int row, .int place, .ref 38] h n (lOk (sp_stamp S row place).1 S (sp_stamp S row place) s h n) mNX := by
  refine mm_enterH hl (by decide +kernel) (by intro hh; cases hh) rfl rfl (Nat.le_of_ble_eq_true rfl) ?_
  show mT _ _ _ _ 0 [.ref 0, .int row, .int place, .ref 38, .double 0] [] _ _ 0 0
  refine mt_aload_n dL_stamp_0 rfl rfl ?_
  refine mt_aload_n dL_stamp_1 rfl rfl ?_
  refine mt_iload_n dL_stamp_2 rfl ?_
  refine mt_iload_n dL_stamp_3 rfl ?_
  refine mt_callV (N := mX2_stamp) (Rc := rX2_stamp) (As := [.int row, .int place]) (st := [.ref 38]) dL_stamp_4 (kX2_stamp hl C) sX2_stamp mw_578 mKX2 rfl C.1 rfl (Nat.le_of_ble_eq_true rfl) ⟨⟨Nat.le_of_ble_eq_true rfl, Nat.le_of_ble_eq_true rfl⟩, (by simp only [rX2_stamp, rL_stamp]; omega), (by simp only [rX2_stamp, rL_stamp]; omega)⟩ (fun v1 h2 n3 c4 => ?_) (fun E h9 n9 hx => tL_stamp_x C O hx)
  obtain ⟨c40, c4a, c4b, c4c, c4d⟩ := c4
  have z := oi_stamp (S := S) (row := row) (place := place)
  obtain ⟨x, hx⟩ : vI (sp_stamp S row place).2.1 := by rcases z with ⟨-, z⟩ | ⟨z, -⟩ | ⟨z, -⟩ <;> first | exact z | (rw [c40] at z; cases z)
  rw [hx] at c4a; rw [c4a, c4b]
  show mT _ _ _ _ 7 [.ref 0, .int row, .int place, .ref 38, .double 0] [.int x, .ref 38] _ _ _ _
  refine mt_i2l dL_stamp_7 ?_
  refine mp_putfieldN mKX3 (i := 0) (fs' := [.long ((x).toInt64), s]) (by decide) mw_387 rfl dL_stamp_8 ((c4d 38 (by omega)).trans O) (Nat.le_of_ble_eq_true rfl) rfl rfl (fun h5 e6 f7 => ?_)
  refine mt_goto dL_stamp_11 (tgt := 18) rfl ?_
  refine mt_iconst dL_stamp_18 (v := nI 0) rfl ?_
  refine mt_ireturn dL_stamp_19 rfl rfl (by simp only [rX2_stamp, rL_stamp]; omega) (by simp only [rX2_stamp, rL_stamp]; omega) ?_
  exact ⟨by rw [c40], rfl, by rw [if_pos c40]; exact cAt.fr2 c4c (fun j hj => f7 j (by omega)), ⟨_, e6, fun _ x9 zx => by rw [hx] at zx; cases zx; rfl⟩, fun j j1 j2 => (f7 j (by omega)).trans (c4d j j1)⟩
theorem oi_rank {S : cS} {row : Int32} {place : Int32} : oI vI true false (sp_rank S row place) := by
  unfold sp_rank
  repeat' first | exact Or.inl ⟨rfl, _, rfl⟩ | exact Or.inr (Or.inr ⟨rfl, rfl⟩) | exact Or.inr (Or.inl ⟨rfl, rfl⟩) | refine dAt_o (fun r => ?_) | refine dArg_o (fun r => ?_) | refine dFit_o ?_ | refine dB_o (fun r => ?_) | refine dKeep_o (fun p t => ?_) | split
abbrev rL_rank : Room := { frames := 9, cells := 2, slots := 12, locals := 154 }
set_option maxRecDepth 100000 in
theorem tL_rank_x {l : Launch} {h : mH} {n : Nat} {S : cS} {row : Int32} {place : Int32} {y : Int64} {s : Value} (C : cAt h S) (O : h 38 = .inr (.inr (5, [.long y, s]))) {E : String} {h1 : mH} {n1 : Nat} (hx : cNo (sp_rank S row place).1 h n E h1 n1) : mTX l mL_rank rL_rank (mKo rL_rank (lOk (sp_rank S row place).1 S (sp_rank S row place) s h n) mNX) 4 [.ref 0, .int row, .int place, .ref 38, .double 0] E h1 n1 (0 + rX2_rank.cells) (0 + rX2_rank.slots) := by
  obtain ⟨hE, rfl, rfl⟩ := hx
  rcases hE with ⟨rfl, hk⟩ | ⟨rfl, hk⟩
  · refine mt_catch (nm := "java/lang/IndexOutOfBoundsException") (pre := []) (suf := []) (x := (0, 11, 14, 19)) rfl (fun z hz => by cases hz) _ rfl rfl (by decide) mw_397 mw_236 ?_
    show mT _ _ _ _ 14 [.ref 0, .int row, .int place, .ref 38, .double 0] [.float 0] _ _ _ _
    refine mp_astore dL_rank_14 (ls' := [.ref 0, .int row, .int place, .ref 38, .float 0]) rfl rfl (by decide) rfl ?_
    refine mt_iconst dL_rank_16 (v := nI 1) rfl ?_
    refine mt_ireturn dL_rank_17 rfl rfl (by simp only [rX2_rank, rL_rank]; omega) (by simp only [rX2_rank, rL_rank]; omega) ?_
    exact ⟨by rw [hk], rfl, by rw [if_neg (by rw [hk]; decide)]; exact C, ⟨_, O, fun z => absurd (hk.symm.trans z) (by decide)⟩, fun j j1 j2 => rfl⟩
  · have z := oi_rank (S := S) (row := row) (place := place)
    rcases z with ⟨z, -⟩ | ⟨z, z2⟩ | ⟨z, z2⟩
    · rw [hk] at z; cases z
    · first | (rw [hk] at z; cases z; done) | cases z2
    · first | (rw [hk] at z; cases z; done) | cases z2
set_option maxRecDepth 100000 in
theorem kL_rank {l : Launch} (hl : l.stackTraces = false) {h : mH} {n : Nat} {S : cS} {row : Int32} {place : Int32} {y : Int64} {s : Value} (C : cAt h S) (O : h 38 = .inr (.inr (5, [.long y, s]))) : mC l mL_rank rL_rank [.ref 0, .int row, .int place, .ref 38] h n (lOk (sp_rank S row place).1 S (sp_rank S row place) s h n) mNX := by
  refine mm_enterH hl (by decide +kernel) (by intro hh; cases hh) rfl rfl (Nat.le_of_ble_eq_true rfl) ?_
  show mT _ _ _ _ 0 [.ref 0, .int row, .int place, .ref 38, .double 0] [] _ _ 0 0
  refine mt_aload_n dL_rank_0 rfl rfl ?_
  refine mt_aload_n dL_rank_1 rfl rfl ?_
  refine mt_iload_n dL_rank_2 rfl ?_
  refine mt_iload_n dL_rank_3 rfl ?_
  refine mt_callV (N := mX2_rank) (Rc := rX2_rank) (As := [.int row, .int place]) (st := [.ref 38]) dL_rank_4 (kX2_rank hl C) sX2_rank mw_585 mKX2 rfl C.1 rfl (Nat.le_of_ble_eq_true rfl) ⟨⟨Nat.le_of_ble_eq_true rfl, Nat.le_of_ble_eq_true rfl⟩, (by simp only [rX2_rank, rL_rank]; omega), (by simp only [rX2_rank, rL_rank]; omega)⟩ (fun v1 h2 n3 c4 => ?_) (fun E h9 n9 hx => tL_rank_x C O hx)
  obtain ⟨c40, c4a, c4b, c4c, c4d⟩ := c4
  have z := oi_rank (S := S) (row := row) (place := place)
  obtain ⟨x, hx⟩ : vI (sp_rank S row place).2.1 := by rcases z with ⟨-, z⟩ | ⟨z, -⟩ | ⟨z, -⟩ <;> first | exact z | (rw [c40] at z; cases z)
  rw [hx] at c4a; rw [c4a, c4b]
  show mT _ _ _ _ 7 [.ref 0, .int row, .int place, .ref 38, .double 0] [.int x, .ref 38] _ _ _ _
  refine mt_i2l dL_rank_7 ?_
  refine mp_putfieldN mKX3 (i := 0) (fs' := [.long ((x).toInt64), s]) (by decide) mw_387 rfl dL_rank_8 ((c4d 38 (by omega)).trans O) (Nat.le_of_ble_eq_true rfl) rfl rfl (fun h5 e6 f7 => ?_)
  refine mt_goto dL_rank_11 (tgt := 18) rfl ?_
  refine mt_iconst dL_rank_18 (v := nI 0) rfl ?_
  refine mt_ireturn dL_rank_19 rfl rfl (by simp only [rX2_rank, rL_rank]; omega) (by simp only [rX2_rank, rL_rank]; omega) ?_
  exact ⟨by rw [c40], rfl, by rw [if_pos c40]; exact cAt.fr2 c4c (fun j hj => f7 j (by omega)), ⟨_, e6, fun _ x9 zx => by rw [hx] at zx; cases zx; rfl⟩, fun j j1 j2 => (f7 j (by omega)).trans (c4d j j1)⟩
theorem oi_would {S : cS} {row : Int32} {place : Int32} : oI vI true false (sp_would S row place) := by
  unfold sp_would
  repeat' first | exact Or.inl ⟨rfl, _, rfl⟩ | exact Or.inr (Or.inr ⟨rfl, rfl⟩) | exact Or.inr (Or.inl ⟨rfl, rfl⟩) | refine dAt_o (fun r => ?_) | refine dArg_o (fun r => ?_) | refine dFit_o ?_ | refine dB_o (fun r => ?_) | refine dKeep_o (fun p t => ?_) | split
abbrev rL_would : Room := { frames := 9, cells := 2, slots := 12, locals := 154 }
set_option maxRecDepth 100000 in
theorem tL_would_x {l : Launch} {h : mH} {n : Nat} {S : cS} {row : Int32} {place : Int32} {y : Int64} {s : Value} (C : cAt h S) (O : h 38 = .inr (.inr (5, [.long y, s]))) {E : String} {h1 : mH} {n1 : Nat} (hx : cNo (sp_would S row place).1 h n E h1 n1) : mTX l mL_would rL_would (mKo rL_would (lOk (sp_would S row place).1 S (sp_would S row place) s h n) mNX) 4 [.ref 0, .int row, .int place, .ref 38, .double 0] E h1 n1 (0 + rX2_would.cells) (0 + rX2_would.slots) := by
  obtain ⟨hE, rfl, rfl⟩ := hx
  rcases hE with ⟨rfl, hk⟩ | ⟨rfl, hk⟩
  · refine mt_catch (nm := "java/lang/IndexOutOfBoundsException") (pre := []) (suf := []) (x := (0, 11, 14, 19)) rfl (fun z hz => by cases hz) _ rfl rfl (by decide) mw_397 mw_236 ?_
    show mT _ _ _ _ 14 [.ref 0, .int row, .int place, .ref 38, .double 0] [.float 0] _ _ _ _
    refine mp_astore dL_would_14 (ls' := [.ref 0, .int row, .int place, .ref 38, .float 0]) rfl rfl (by decide) rfl ?_
    refine mt_iconst dL_would_16 (v := nI 1) rfl ?_
    refine mt_ireturn dL_would_17 rfl rfl (by simp only [rX2_would, rL_would]; omega) (by simp only [rX2_would, rL_would]; omega) ?_
    exact ⟨by rw [hk], rfl, by rw [if_neg (by rw [hk]; decide)]; exact C, ⟨_, O, fun z => absurd (hk.symm.trans z) (by decide)⟩, fun j j1 j2 => rfl⟩
  · have z := oi_would (S := S) (row := row) (place := place)
    rcases z with ⟨z, -⟩ | ⟨z, z2⟩ | ⟨z, z2⟩
    · rw [hk] at z; cases z
    · first | (rw [hk] at z; cases z; done) | cases z2
    · first | (rw [hk] at z; cases z; done) | cases z2
set_option maxRecDepth 100000 in
theorem kL_would {l : Launch} (hl : l.stackTraces = false) {h : mH} {n : Nat} {S : cS} {row : Int32} {place : Int32} {y : Int64} {s : Value} (C : cAt h S) (O : h 38 = .inr (.inr (5, [.long y, s]))) : mC l mL_would rL_would [.ref 0, .int row, .int place, .ref 38] h n (lOk (sp_would S row place).1 S (sp_would S row place) s h n) mNX := by
  refine mm_enterH hl (by decide +kernel) (by intro hh; cases hh) rfl rfl (Nat.le_of_ble_eq_true rfl) ?_
  show mT _ _ _ _ 0 [.ref 0, .int row, .int place, .ref 38, .double 0] [] _ _ 0 0
  refine mt_aload_n dL_would_0 rfl rfl ?_
  refine mt_aload_n dL_would_1 rfl rfl ?_
  refine mt_iload_n dL_would_2 rfl ?_
  refine mt_iload_n dL_would_3 rfl ?_
  refine mt_callV (N := mX2_would) (Rc := rX2_would) (As := [.int row, .int place]) (st := [.ref 38]) dL_would_4 (kX2_would hl C) sX2_would mw_593 mKX2 rfl C.1 rfl (Nat.le_of_ble_eq_true rfl) ⟨⟨Nat.le_of_ble_eq_true rfl, Nat.le_of_ble_eq_true rfl⟩, (by simp only [rX2_would, rL_would]; omega), (by simp only [rX2_would, rL_would]; omega)⟩ (fun v1 h2 n3 c4 => ?_) (fun E h9 n9 hx => tL_would_x C O hx)
  obtain ⟨c40, c4a, c4b, c4c, c4d⟩ := c4
  have z := oi_would (S := S) (row := row) (place := place)
  obtain ⟨x, hx⟩ : vI (sp_would S row place).2.1 := by rcases z with ⟨-, z⟩ | ⟨z, -⟩ | ⟨z, -⟩ <;> first | exact z | (rw [c40] at z; cases z)
  rw [hx] at c4a; rw [c4a, c4b]
  show mT _ _ _ _ 7 [.ref 0, .int row, .int place, .ref 38, .double 0] [.int x, .ref 38] _ _ _ _
  refine mt_i2l dL_would_7 ?_
  refine mp_putfieldN mKX3 (i := 0) (fs' := [.long ((x).toInt64), s]) (by decide) mw_387 rfl dL_would_8 ((c4d 38 (by omega)).trans O) (Nat.le_of_ble_eq_true rfl) rfl rfl (fun h5 e6 f7 => ?_)
  refine mt_goto dL_would_11 (tgt := 18) rfl ?_
  refine mt_iconst dL_would_18 (v := nI 0) rfl ?_
  refine mt_ireturn dL_would_19 rfl rfl (by simp only [rX2_would, rL_would]; omega) (by simp only [rX2_would, rL_would]; omega) ?_
  exact ⟨by rw [c40], rfl, by rw [if_pos c40]; exact cAt.fr2 c4c (fun j hj => f7 j (by omega)), ⟨_, e6, fun _ x9 zx => by rw [hx] at zx; cases zx; rfl⟩, fun j j1 j2 => (f7 j (by omega)).trans (c4d j j1)⟩
theorem oi_wouldStamp {S : cS} {row : Int32} {place : Int32} : oI vI true false (sp_wouldStamp S row place) := by
  unfold sp_wouldStamp
  repeat' first | exact Or.inl ⟨rfl, _, rfl⟩ | exact Or.inr (Or.inr ⟨rfl, rfl⟩) | exact Or.inr (Or.inl ⟨rfl, rfl⟩) | refine dAt_o (fun r => ?_) | refine dArg_o (fun r => ?_) | refine dFit_o ?_ | refine dB_o (fun r => ?_) | refine dKeep_o (fun p t => ?_) | split
abbrev rL_wouldStamp : Room := { frames := 9, cells := 2, slots := 12, locals := 154 }
set_option maxRecDepth 100000 in
theorem tL_wouldStamp_x {l : Launch} {h : mH} {n : Nat} {S : cS} {row : Int32} {place : Int32} {y : Int64} {s : Value} (C : cAt h S) (O : h 38 = .inr (.inr (5, [.long y, s]))) {E : String} {h1 : mH} {n1 : Nat} (hx : cNo (sp_wouldStamp S row place).1 h n E h1 n1) : mTX l mL_wouldStamp rL_wouldStamp (mKo rL_wouldStamp (lOk (sp_wouldStamp S row place).1 S (sp_wouldStamp S row place) s h n) mNX) 4 [.ref 0, .int row, .int place, .ref 38, .double 0] E h1 n1 (0 + rX2_wouldStamp.cells) (0 + rX2_wouldStamp.slots) := by
  obtain ⟨hE, rfl, rfl⟩ := hx
  rcases hE with ⟨rfl, hk⟩ | ⟨rfl, hk⟩
  · refine mt_catch (nm := "java/lang/IndexOutOfBoundsException") (pre := []) (suf := []) (x := (0, 11, 14, 19)) rfl (fun z hz => by cases hz) _ rfl rfl (by decide) mw_397 mw_236 ?_
    show mT _ _ _ _ 14 [.ref 0, .int row, .int place, .ref 38, .double 0] [.float 0] _ _ _ _
    refine mp_astore dL_wouldStamp_14 (ls' := [.ref 0, .int row, .int place, .ref 38, .float 0]) rfl rfl (by decide) rfl ?_
    refine mt_iconst dL_wouldStamp_16 (v := nI 1) rfl ?_
    refine mt_ireturn dL_wouldStamp_17 rfl rfl (by simp only [rX2_wouldStamp, rL_wouldStamp]; omega) (by simp only [rX2_wouldStamp, rL_wouldStamp]; omega) ?_
    exact ⟨by rw [hk], rfl, by rw [if_neg (by rw [hk]; decide)]; exact C, ⟨_, O, fun z => absurd (hk.symm.trans z) (by decide)⟩, fun j j1 j2 => rfl⟩
  · have z := oi_wouldStamp (S := S) (row := row) (place := place)
    rcases z with ⟨z, -⟩ | ⟨z, z2⟩ | ⟨z, z2⟩
    · rw [hk] at z; cases z
    · first | (rw [hk] at z; cases z; done) | cases z2
    · first | (rw [hk] at z; cases z; done) | cases z2
set_option maxRecDepth 100000 in
theorem kL_wouldStamp {l : Launch} (hl : l.stackTraces = false) {h : mH} {n : Nat} {S : cS} {row : Int32} {place : Int32} {y : Int64} {s : Value} (C : cAt h S) (O : h 38 = .inr (.inr (5, [.long y, s]))) : mC l mL_wouldStamp rL_wouldStamp [.ref 0, .int row, .int place, .ref 38] h n (lOk (sp_wouldStamp S row place).1 S (sp_wouldStamp S row place) s h n) mNX := by
  refine mm_enterH hl (by decide +kernel) (by intro hh; cases hh) rfl rfl (Nat.le_of_ble_eq_true rfl) ?_
  show mT _ _ _ _ 0 [.ref 0, .int row, .int place, .ref 38, .double 0] [] _ _ 0 0
  refine mt_aload_n dL_wouldStamp_0 rfl rfl ?_
  refine mt_aload_n dL_wouldStamp_1 rfl rfl ?_
  refine mt_iload_n dL_wouldStamp_2 rfl ?_
  refine mt_iload_n dL_wouldStamp_3 rfl ?_
  refine mt_callV (N := mX2_wouldStamp) (Rc := rX2_wouldStamp) (As := [.int row, .int place]) (st := [.ref 38]) dL_wouldStamp_4 (kX2_wouldStamp hl C) sX2_wouldStamp mw_600 mKX2 rfl C.1 rfl (Nat.le_of_ble_eq_true rfl) ⟨⟨Nat.le_of_ble_eq_true rfl, Nat.le_of_ble_eq_true rfl⟩, (by simp only [rX2_wouldStamp, rL_wouldStamp]; omega), (by simp only [rX2_wouldStamp, rL_wouldStamp]; omega)⟩ (fun v1 h2 n3 c4 => ?_) (fun E h9 n9 hx => tL_wouldStamp_x C O hx)
  obtain ⟨c40, c4a, c4b, c4c, c4d⟩ := c4
  have z := oi_wouldStamp (S := S) (row := row) (place := place)
  obtain ⟨x, hx⟩ : vI (sp_wouldStamp S row place).2.1 := by rcases z with ⟨-, z⟩ | ⟨z, -⟩ | ⟨z, -⟩ <;> first | exact z | (rw [c40] at z; cases z)
  rw [hx] at c4a; rw [c4a, c4b]
  show mT _ _ _ _ 7 [.ref 0, .int row, .int place, .ref 38, .double 0] [.int x, .ref 38] _ _ _ _
  refine mt_i2l dL_wouldStamp_7 ?_
  refine mp_putfieldN mKX3 (i := 0) (fs' := [.long ((x).toInt64), s]) (by decide) mw_387 rfl dL_wouldStamp_8 ((c4d 38 (by omega)).trans O) (Nat.le_of_ble_eq_true rfl) rfl rfl (fun h5 e6 f7 => ?_)
  refine mt_goto dL_wouldStamp_11 (tgt := 18) rfl ?_
  refine mt_iconst dL_wouldStamp_18 (v := nI 0) rfl ?_
  refine mt_ireturn dL_wouldStamp_19 rfl rfl (by simp only [rX2_wouldStamp, rL_wouldStamp]; omega) (by simp only [rX2_wouldStamp, rL_wouldStamp]; omega) ?_
  exact ⟨by rw [c40], rfl, by rw [if_pos c40]; exact cAt.fr2 c4c (fun j hj => f7 j (by omega)), ⟨_, e6, fun _ x9 zx => by rw [hx] at zx; cases zx; rfl⟩, fun j j1 j2 => (f7 j (by omega)).trans (c4d j j1)⟩
theorem oi_wrongAt {S : cS} {row : Int32} {place : Int32} : oI vI true false (sp_wrongAt S row place) := by
  unfold sp_wrongAt
  repeat' first | exact Or.inl ⟨rfl, _, rfl⟩ | exact Or.inr (Or.inr ⟨rfl, rfl⟩) | exact Or.inr (Or.inl ⟨rfl, rfl⟩) | refine dAt_o (fun r => ?_) | refine dArg_o (fun r => ?_) | refine dFit_o ?_ | refine dB_o (fun r => ?_) | refine dKeep_o (fun p t => ?_) | split
abbrev rL_wrongAt : Room := { frames := 9, cells := 2, slots := 12, locals := 154 }
set_option maxRecDepth 100000 in
theorem tL_wrongAt_x {l : Launch} {h : mH} {n : Nat} {S : cS} {row : Int32} {place : Int32} {y : Int64} {s : Value} (C : cAt h S) (O : h 38 = .inr (.inr (5, [.long y, s]))) {E : String} {h1 : mH} {n1 : Nat} (hx : cNo (sp_wrongAt S row place).1 h n E h1 n1) : mTX l mL_wrongAt rL_wrongAt (mKo rL_wrongAt (lOk (sp_wrongAt S row place).1 S (sp_wrongAt S row place) s h n) mNX) 4 [.ref 0, .int row, .int place, .ref 38, .double 0] E h1 n1 (0 + rX2_wrongAt.cells) (0 + rX2_wrongAt.slots) := by
  obtain ⟨hE, rfl, rfl⟩ := hx
  rcases hE with ⟨rfl, hk⟩ | ⟨rfl, hk⟩
  · refine mt_catch (nm := "java/lang/IndexOutOfBoundsException") (pre := []) (suf := []) (x := (0, 11, 14, 19)) rfl (fun z hz => by cases hz) _ rfl rfl (by decide) mw_397 mw_236 ?_
    show mT _ _ _ _ 14 [.ref 0, .int row, .int place, .ref 38, .double 0] [.float 0] _ _ _ _
    refine mp_astore dL_wrongAt_14 (ls' := [.ref 0, .int row, .int place, .ref 38, .float 0]) rfl rfl (by decide) rfl ?_
    refine mt_iconst dL_wrongAt_16 (v := nI 1) rfl ?_
    refine mt_ireturn dL_wrongAt_17 rfl rfl (by simp only [rX2_wrongAt, rL_wrongAt]; omega) (by simp only [rX2_wrongAt, rL_wrongAt]; omega) ?_
    exact ⟨by rw [hk], rfl, by rw [if_neg (by rw [hk]; decide)]; exact C, ⟨_, O, fun z => absurd (hk.symm.trans z) (by decide)⟩, fun j j1 j2 => rfl⟩
  · have z := oi_wrongAt (S := S) (row := row) (place := place)
    rcases z with ⟨z, -⟩ | ⟨z, z2⟩ | ⟨z, z2⟩
    · rw [hk] at z; cases z
    · first | (rw [hk] at z; cases z; done) | cases z2
    · first | (rw [hk] at z; cases z; done) | cases z2
set_option maxRecDepth 100000 in
theorem kL_wrongAt {l : Launch} (hl : l.stackTraces = false) {h : mH} {n : Nat} {S : cS} {row : Int32} {place : Int32} {y : Int64} {s : Value} (C : cAt h S) (O : h 38 = .inr (.inr (5, [.long y, s]))) : mC l mL_wrongAt rL_wrongAt [.ref 0, .int row, .int place, .ref 38] h n (lOk (sp_wrongAt S row place).1 S (sp_wrongAt S row place) s h n) mNX := by
  refine mm_enterH hl (by decide +kernel) (by intro hh; cases hh) rfl rfl (Nat.le_of_ble_eq_true rfl) ?_
  show mT _ _ _ _ 0 [.ref 0, .int row, .int place, .ref 38, .double 0] [] _ _ 0 0
  refine mt_aload_n dL_wrongAt_0 rfl rfl ?_
  refine mt_aload_n dL_wrongAt_1 rfl rfl ?_
  refine mt_iload_n dL_wrongAt_2 rfl ?_
  refine mt_iload_n dL_wrongAt_3 rfl ?_
  refine mt_callV (N := mX2_wrongAt) (Rc := rX2_wrongAt) (As := [.int row, .int place]) (st := [.ref 38]) dL_wrongAt_4 (kX2_wrongAt hl C) sX2_wrongAt mw_607 mKX2 rfl C.1 rfl (Nat.le_of_ble_eq_true rfl) ⟨⟨Nat.le_of_ble_eq_true rfl, Nat.le_of_ble_eq_true rfl⟩, (by simp only [rX2_wrongAt, rL_wrongAt]; omega), (by simp only [rX2_wrongAt, rL_wrongAt]; omega)⟩ (fun v1 h2 n3 c4 => ?_) (fun E h9 n9 hx => tL_wrongAt_x C O hx)
  obtain ⟨c40, c4a, c4b, c4c, c4d⟩ := c4
  have z := oi_wrongAt (S := S) (row := row) (place := place)
  obtain ⟨x, hx⟩ : vI (sp_wrongAt S row place).2.1 := by rcases z with ⟨-, z⟩ | ⟨z, -⟩ | ⟨z, -⟩ <;> first | exact z | (rw [c40] at z; cases z)
  rw [hx] at c4a; rw [c4a, c4b]
  show mT _ _ _ _ 7 [.ref 0, .int row, .int place, .ref 38, .double 0] [.int x, .ref 38] _ _ _ _
  refine mt_i2l dL_wrongAt_7 ?_
  refine mp_putfieldN mKX3 (i := 0) (fs' := [.long ((x).toInt64), s]) (by decide) mw_387 rfl dL_wrongAt_8 ((c4d 38 (by omega)).trans O) (Nat.le_of_ble_eq_true rfl) rfl rfl (fun h5 e6 f7 => ?_)
  refine mt_goto dL_wrongAt_11 (tgt := 18) rfl ?_
  refine mt_iconst dL_wrongAt_18 (v := nI 0) rfl ?_
  refine mt_ireturn dL_wrongAt_19 rfl rfl (by simp only [rX2_wrongAt, rL_wrongAt]; omega) (by simp only [rX2_wrongAt, rL_wrongAt]; omega) ?_
  exact ⟨by rw [c40], rfl, by rw [if_pos c40]; exact cAt.fr2 c4c (fun j hj => f7 j (by omega)), ⟨_, e6, fun _ x9 zx => by rw [hx] at zx; cases zx; rfl⟩, fun j j1 j2 => (f7 j (by omega)).trans (c4d j j1)⟩
theorem oi_after {S : cS} {row : Int32} {place : Int32} : oI vI true false (sp_after S row place) := by
  unfold sp_after
  repeat' first | exact Or.inl ⟨rfl, _, rfl⟩ | exact Or.inr (Or.inr ⟨rfl, rfl⟩) | exact Or.inr (Or.inl ⟨rfl, rfl⟩) | refine dAt_o (fun r => ?_) | refine dArg_o (fun r => ?_) | refine dFit_o ?_ | refine dB_o (fun r => ?_) | refine dKeep_o (fun p t => ?_) | split
abbrev rL_after : Room := { frames := 9, cells := 2, slots := 12, locals := 154 }
set_option maxRecDepth 100000 in
theorem tL_after_x {l : Launch} {h : mH} {n : Nat} {S : cS} {row : Int32} {place : Int32} {y : Int64} {s : Value} (C : cAt h S) (O : h 38 = .inr (.inr (5, [.long y, s]))) {E : String} {h1 : mH} {n1 : Nat} (hx : cNo (sp_after S row place).1 h n E h1 n1) : mTX l mL_after rL_after (mKo rL_after (lOk (sp_after S row place).1 S (sp_after S row place) s h n) mNX) 4 [.ref 0, .int row, .int place, .ref 38, .double 0] E h1 n1 (0 + rX2_after.cells) (0 + rX2_after.slots) := by
  obtain ⟨hE, rfl, rfl⟩ := hx
  rcases hE with ⟨rfl, hk⟩ | ⟨rfl, hk⟩
  · refine mt_catch (nm := "java/lang/IndexOutOfBoundsException") (pre := []) (suf := []) (x := (0, 11, 14, 19)) rfl (fun z hz => by cases hz) _ rfl rfl (by decide) mw_397 mw_236 ?_
    show mT _ _ _ _ 14 [.ref 0, .int row, .int place, .ref 38, .double 0] [.float 0] _ _ _ _
    refine mp_astore dL_after_14 (ls' := [.ref 0, .int row, .int place, .ref 38, .float 0]) rfl rfl (by decide) rfl ?_
    refine mt_iconst dL_after_16 (v := nI 1) rfl ?_
    refine mt_ireturn dL_after_17 rfl rfl (by simp only [rX2_after, rL_after]; omega) (by simp only [rX2_after, rL_after]; omega) ?_
    exact ⟨by rw [hk], rfl, by rw [if_neg (by rw [hk]; decide)]; exact C, ⟨_, O, fun z => absurd (hk.symm.trans z) (by decide)⟩, fun j j1 j2 => rfl⟩
  · have z := oi_after (S := S) (row := row) (place := place)
    rcases z with ⟨z, -⟩ | ⟨z, z2⟩ | ⟨z, z2⟩
    · rw [hk] at z; cases z
    · first | (rw [hk] at z; cases z; done) | cases z2
    · first | (rw [hk] at z; cases z; done) | cases z2
set_option maxRecDepth 100000 in
theorem kL_after {l : Launch} (hl : l.stackTraces = false) {h : mH} {n : Nat} {S : cS} {row : Int32} {place : Int32} {y : Int64} {s : Value} (C : cAt h S) (O : h 38 = .inr (.inr (5, [.long y, s]))) : mC l mL_after rL_after [.ref 0, .int row, .int place, .ref 38] h n (lOk (sp_after S row place).1 S (sp_after S row place) s h n) mNX := by
  refine mm_enterH hl (by decide +kernel) (by intro hh; cases hh) rfl rfl (Nat.le_of_ble_eq_true rfl) ?_
  show mT _ _ _ _ 0 [.ref 0, .int row, .int place, .ref 38, .double 0] [] _ _ 0 0
  refine mt_aload_n dL_after_0 rfl rfl ?_
  refine mt_aload_n dL_after_1 rfl rfl ?_
  refine mt_iload_n dL_after_2 rfl ?_
  refine mt_iload_n dL_after_3 rfl ?_
  refine mt_callV (N := mX2_after) (Rc := rX2_after) (As := [.int row, .int place]) (st := [.ref 38]) dL_after_4 (kX2_after hl C) sX2_after mw_618 mKX2 rfl C.1 rfl (Nat.le_of_ble_eq_true rfl) ⟨⟨Nat.le_of_ble_eq_true rfl, Nat.le_of_ble_eq_true rfl⟩, (by simp only [rX2_after, rL_after]; omega), (by simp only [rX2_after, rL_after]; omega)⟩ (fun v1 h2 n3 c4 => ?_) (fun E h9 n9 hx => tL_after_x C O hx)
  obtain ⟨c40, c4a, c4b, c4c, c4d⟩ := c4
  have z := oi_after (S := S) (row := row) (place := place)
  obtain ⟨x, hx⟩ : vI (sp_after S row place).2.1 := by rcases z with ⟨-, z⟩ | ⟨z, -⟩ | ⟨z, -⟩ <;> first | exact z | (rw [c40] at z; cases z)
  rw [hx] at c4a; rw [c4a, c4b]
  show mT _ _ _ _ 7 [.ref 0, .int row, .int place, .ref 38, .double 0] [.int x, .ref 38] _ _ _ _
  refine mt_i2l dL_after_7 ?_
  refine mp_putfieldN mKX3 (i := 0) (fs' := [.long ((x).toInt64), s]) (by decide) mw_387 rfl dL_after_8 ((c4d 38 (by omega)).trans O) (Nat.le_of_ble_eq_true rfl) rfl rfl (fun h5 e6 f7 => ?_)
  refine mt_goto dL_after_11 (tgt := 18) rfl ?_
  refine mt_iconst dL_after_18 (v := nI 0) rfl ?_
  refine mt_ireturn dL_after_19 rfl rfl (by simp only [rX2_after, rL_after]; omega) (by simp only [rX2_after, rL_after]; omega) ?_
  exact ⟨by rw [c40], rfl, by rw [if_pos c40]; exact cAt.fr2 c4c (fun j hj => f7 j (by omega)), ⟨_, e6, fun _ x9 zx => by rw [hx] at zx; cases zx; rfl⟩, fun j j1 j2 => (f7 j (by omega)).trans (c4d j j1)⟩
theorem oi_runAt {S : cS} {row : Int32} {place : Int32} : oI vI true false (sp_runAt S row place) := by
  unfold sp_runAt
  repeat' first | exact Or.inl ⟨rfl, _, rfl⟩ | exact Or.inr (Or.inr ⟨rfl, rfl⟩) | exact Or.inr (Or.inl ⟨rfl, rfl⟩) | refine dAt_o (fun r => ?_) | refine dArg_o (fun r => ?_) | refine dFit_o ?_ | refine dB_o (fun r => ?_) | refine dKeep_o (fun p t => ?_) | split
abbrev rL_runAt : Room := { frames := 9, cells := 2, slots := 12, locals := 154 }
set_option maxRecDepth 100000 in
theorem tL_runAt_x {l : Launch} {h : mH} {n : Nat} {S : cS} {row : Int32} {place : Int32} {y : Int64} {s : Value} (C : cAt h S) (O : h 38 = .inr (.inr (5, [.long y, s]))) {E : String} {h1 : mH} {n1 : Nat} (hx : cNo (sp_runAt S row place).1 h n E h1 n1) : mTX l mL_runAt rL_runAt (mKo rL_runAt (lOk (sp_runAt S row place).1 S (sp_runAt S row place) s h n) mNX) 4 [.ref 0, .int row, .int place, .ref 38, .double 0] E h1 n1 (0 + rX2_runAt.cells) (0 + rX2_runAt.slots) := by
  obtain ⟨hE, rfl, rfl⟩ := hx
  rcases hE with ⟨rfl, hk⟩ | ⟨rfl, hk⟩
  · refine mt_catch (nm := "java/lang/IndexOutOfBoundsException") (pre := []) (suf := []) (x := (0, 11, 14, 19)) rfl (fun z hz => by cases hz) _ rfl rfl (by decide) mw_397 mw_236 ?_
    show mT _ _ _ _ 14 [.ref 0, .int row, .int place, .ref 38, .double 0] [.float 0] _ _ _ _
    refine mp_astore dL_runAt_14 (ls' := [.ref 0, .int row, .int place, .ref 38, .float 0]) rfl rfl (by decide) rfl ?_
    refine mt_iconst dL_runAt_16 (v := nI 1) rfl ?_
    refine mt_ireturn dL_runAt_17 rfl rfl (by simp only [rX2_runAt, rL_runAt]; omega) (by simp only [rX2_runAt, rL_runAt]; omega) ?_
    exact ⟨by rw [hk], rfl, by rw [if_neg (by rw [hk]; decide)]; exact C, ⟨_, O, fun z => absurd (hk.symm.trans z) (by decide)⟩, fun j j1 j2 => rfl⟩
  · have z := oi_runAt (S := S) (row := row) (place := place)
    rcases z with ⟨z, -⟩ | ⟨z, z2⟩ | ⟨z, z2⟩
    · rw [hk] at z; cases z
    · first | (rw [hk] at z; cases z; done) | cases z2
    · first | (rw [hk] at z; cases z; done) | cases z2
set_option maxRecDepth 100000 in
theorem kL_runAt {l : Launch} (hl : l.stackTraces = false) {h : mH} {n : Nat} {S : cS} {row : Int32} {place : Int32} {y : Int64} {s : Value} (C : cAt h S) (O : h 38 = .inr (.inr (5, [.long y, s]))) : mC l mL_runAt rL_runAt [.ref 0, .int row, .int place, .ref 38] h n (lOk (sp_runAt S row place).1 S (sp_runAt S row place) s h n) mNX := by
  refine mm_enterH hl (by decide +kernel) (by intro hh; cases hh) rfl rfl (Nat.le_of_ble_eq_true rfl) ?_
  show mT _ _ _ _ 0 [.ref 0, .int row, .int place, .ref 38, .double 0] [] _ _ 0 0
  refine mt_aload_n dL_runAt_0 rfl rfl ?_
  refine mt_aload_n dL_runAt_1 rfl rfl ?_
  refine mt_iload_n dL_runAt_2 rfl ?_
  refine mt_iload_n dL_runAt_3 rfl ?_
  refine mt_callV (N := mX2_runAt) (Rc := rX2_runAt) (As := [.int row, .int place]) (st := [.ref 38]) dL_runAt_4 (kX2_runAt hl C) sX2_runAt mw_625 mKX2 rfl C.1 rfl (Nat.le_of_ble_eq_true rfl) ⟨⟨Nat.le_of_ble_eq_true rfl, Nat.le_of_ble_eq_true rfl⟩, (by simp only [rX2_runAt, rL_runAt]; omega), (by simp only [rX2_runAt, rL_runAt]; omega)⟩ (fun v1 h2 n3 c4 => ?_) (fun E h9 n9 hx => tL_runAt_x C O hx)
  obtain ⟨c40, c4a, c4b, c4c, c4d⟩ := c4
  have z := oi_runAt (S := S) (row := row) (place := place)
  obtain ⟨x, hx⟩ : vI (sp_runAt S row place).2.1 := by rcases z with ⟨-, z⟩ | ⟨z, -⟩ | ⟨z, -⟩ <;> first | exact z | (rw [c40] at z; cases z)
  rw [hx] at c4a; rw [c4a, c4b]
  show mT _ _ _ _ 7 [.ref 0, .int row, .int place, .ref 38, .double 0] [.int x, .ref 38] _ _ _ _
  refine mt_i2l dL_runAt_7 ?_
  refine mp_putfieldN mKX3 (i := 0) (fs' := [.long ((x).toInt64), s]) (by decide) mw_387 rfl dL_runAt_8 ((c4d 38 (by omega)).trans O) (Nat.le_of_ble_eq_true rfl) rfl rfl (fun h5 e6 f7 => ?_)
  refine mt_goto dL_runAt_11 (tgt := 18) rfl ?_
  refine mt_iconst dL_runAt_18 (v := nI 0) rfl ?_
  refine mt_ireturn dL_runAt_19 rfl rfl (by simp only [rX2_runAt, rL_runAt]; omega) (by simp only [rX2_runAt, rL_runAt]; omega) ?_
  exact ⟨by rw [c40], rfl, by rw [if_pos c40]; exact cAt.fr2 c4c (fun j hj => f7 j (by omega)), ⟨_, e6, fun _ x9 zx => by rw [hx] at zx; cases zx; rfl⟩, fun j j1 j2 => (f7 j (by omega)).trans (c4d j j1)⟩
theorem oi_isSorted {S : cS} {row : Int32} : oI vB true false (sp_isSorted S row) := by
  unfold sp_isSorted
  repeat' first | exact Or.inl ⟨rfl, _, rfl⟩ | exact Or.inr (Or.inr ⟨rfl, rfl⟩) | exact Or.inr (Or.inl ⟨rfl, rfl⟩) | refine dAt_o (fun r => ?_) | refine dArg_o (fun r => ?_) | refine dFit_o ?_ | refine dB_o (fun r => ?_) | refine dKeep_o (fun p t => ?_) | split
abbrev rL_isSorted : Room := { frames := 8, cells := 1, slots := 6, locals := 132 }
set_option maxRecDepth 100000 in
theorem tL_isSorted_x {l : Launch} {h : mH} {n : Nat} {S : cS} {row : Int32} {y : Int64} {s : Value} (C : cAt h S) (O : h 38 = .inr (.inr (5, [.long y, s]))) {E : String} {h1 : mH} {n1 : Nat} (hx : cNo (sp_isSorted S row).1 h n E h1 n1) : mTX l mL_isSorted rL_isSorted (mKo rL_isSorted (lOk (sp_isSorted S row).1 S (sp_isSorted S row) s h n) mNX) 3 [.ref 0, .int row, .ref 38, .double 0] E h1 n1 (0 + rX2_isSorted.cells) (0 + rX2_isSorted.slots) := by
  obtain ⟨hE, rfl, rfl⟩ := hx
  rcases hE with ⟨rfl, hk⟩ | ⟨rfl, hk⟩
  · refine mt_catch (nm := "java/lang/IndexOutOfBoundsException") (pre := []) (suf := []) (x := (0, 17, 20, 19)) rfl (fun z hz => by cases hz) _ rfl rfl (by decide) mw_397 mw_236 ?_
    show mT _ _ _ _ 20 [.ref 0, .int row, .ref 38, .double 0] [.float 0] _ _ _ _
    refine mp_astore_n dL_isSorted_20 (ls' := [.ref 0, .int row, .ref 38, .float 0]) rfl rfl (by decide) rfl ?_
    refine mt_iconst dL_isSorted_21 (v := nI 1) rfl ?_
    refine mt_ireturn dL_isSorted_22 rfl rfl (by simp only [rX2_isSorted, rL_isSorted]; omega) (by simp only [rX2_isSorted, rL_isSorted]; omega) ?_
    exact ⟨by rw [hk], rfl, by rw [if_neg (by rw [hk]; decide)]; exact C, ⟨_, O, fun z => absurd (hk.symm.trans z) (by decide)⟩, fun j j1 j2 => rfl⟩
  · have z := oi_isSorted (S := S) (row := row)
    rcases z with ⟨z, -⟩ | ⟨z, z2⟩ | ⟨z, z2⟩
    · rw [hk] at z; cases z
    · first | (rw [hk] at z; cases z; done) | cases z2
    · first | (rw [hk] at z; cases z; done) | cases z2
set_option maxRecDepth 100000 in
theorem kL_isSorted {l : Launch} (hl : l.stackTraces = false) {h : mH} {n : Nat} {S : cS} {row : Int32} {y : Int64} {s : Value} (C : cAt h S) (O : h 38 = .inr (.inr (5, [.long y, s]))) : mC l mL_isSorted rL_isSorted [.ref 0, .int row, .ref 38] h n (lOk (sp_isSorted S row).1 S (sp_isSorted S row) s h n) mNX := by
  refine mm_enterH hl (by decide +kernel) (by intro hh; cases hh) rfl rfl (Nat.le_of_ble_eq_true rfl) ?_
  show mT _ _ _ _ 0 [.ref 0, .int row, .ref 38, .double 0] [] _ _ 0 0
  refine mt_aload_n dL_isSorted_0 rfl rfl ?_
  refine mt_aload_n dL_isSorted_1 rfl rfl ?_
  refine mt_iload_n dL_isSorted_2 rfl ?_
  refine mt_callV (N := mX2_isSorted) (Rc := rX2_isSorted) (As := [.int row]) (st := [.ref 38]) dL_isSorted_3 (kX2_isSorted hl C) sX2_isSorted mw_902 mKX2 rfl C.1 rfl (Nat.le_of_ble_eq_true rfl) ⟨⟨Nat.le_of_ble_eq_true rfl, Nat.le_of_ble_eq_true rfl⟩, (by simp only [rX2_isSorted, rL_isSorted]; omega), (by simp only [rX2_isSorted, rL_isSorted]; omega)⟩ (fun v1 h2 n3 c4 => ?_) (fun E h9 n9 hx => tL_isSorted_x C O hx)
  obtain ⟨c40, c4a, c4b, c4c, c4d⟩ := c4
  have z := oi_isSorted (S := S) (row := row)
  obtain ⟨x, hx⟩ : vB (sp_isSorted S row).2.1 := by rcases z with ⟨-, z⟩ | ⟨z, -⟩ | ⟨z, -⟩ <;> first | exact z | (rw [c40] at z; cases z)
  rw [hx] at c4a; rw [c4a, c4b]
  show mT _ _ _ _ 6 [.ref 0, .int row, .ref 38, .double 0] [.int (mb (x)), .ref 38] _ _ _ _
  refine mt_if_eq dL_isSorted_6 (tgt := 13) rfl (fun q5 => ?_) (fun q5 => ?_)
  · have q5 : x = false := mb_0.mp q5
    refine mt_lconst dL_isSorted_13 (v := 0) rfl ?_
    refine mp_putfieldN mKX3 (i := 0) (fs' := [.long 0, s]) (by decide) mw_387 rfl dL_isSorted_14 ((c4d 38 (by omega)).trans O) (Nat.le_of_ble_eq_true rfl) rfl rfl (fun h6 e7 f8 => ?_)
    refine mt_goto dL_isSorted_17 (tgt := 23) rfl ?_
    refine mt_iconst dL_isSorted_23 (v := nI 0) rfl ?_
    refine mt_ireturn dL_isSorted_24 rfl rfl (by simp only [rX2_isSorted, rL_isSorted]; omega) (by simp only [rX2_isSorted, rL_isSorted]; omega) ?_
    exact ⟨by rw [c40], rfl, by rw [if_pos c40]; exact cAt.fr2 c4c (fun j hj => f8 j (by omega)), ⟨_, e7, fun _ x9 zx => by rw [hx] at zx; cases zx; rw [q5]; rfl⟩, fun j j1 j2 => (f8 j (by omega)).trans (c4d j j1)⟩
  · have q5 : x = true := mb_1.mp q5
    refine mt_lconst dL_isSorted_9 (v := 1) rfl ?_
    refine mt_goto dL_isSorted_10 (tgt := 14) rfl ?_
    refine mp_putfieldN mKX3 (i := 0) (fs' := [.long 1, s]) (by decide) mw_387 rfl dL_isSorted_14 ((c4d 38 (by omega)).trans O) (Nat.le_of_ble_eq_true rfl) rfl rfl (fun h9 e10 f11 => ?_)
    refine mt_goto dL_isSorted_17 (tgt := 23) rfl ?_
    refine mt_iconst dL_isSorted_23 (v := nI 0) rfl ?_
    refine mt_ireturn dL_isSorted_24 rfl rfl (by simp only [rX2_isSorted, rL_isSorted]; omega) (by simp only [rX2_isSorted, rL_isSorted]; omega) ?_
    exact ⟨by rw [c40], rfl, by rw [if_pos c40]; exact cAt.fr2 c4c (fun j hj => f11 j (by omega)), ⟨_, e10, fun _ x9 zx => by rw [hx] at zx; cases zx; rw [q5]; rfl⟩, fun j j1 j2 => (f11 j (by omega)).trans (c4d j j1)⟩
theorem oi_isFalling {S : cS} {row : Int32} : oI vB true false (sp_isFalling S row) := by
  unfold sp_isFalling
  repeat' first | exact Or.inl ⟨rfl, _, rfl⟩ | exact Or.inr (Or.inr ⟨rfl, rfl⟩) | exact Or.inr (Or.inl ⟨rfl, rfl⟩) | refine dAt_o (fun r => ?_) | refine dArg_o (fun r => ?_) | refine dFit_o ?_ | refine dB_o (fun r => ?_) | refine dKeep_o (fun p t => ?_) | split
abbrev rL_isFalling : Room := { frames := 8, cells := 1, slots := 6, locals := 132 }
set_option maxRecDepth 100000 in
theorem tL_isFalling_x {l : Launch} {h : mH} {n : Nat} {S : cS} {row : Int32} {y : Int64} {s : Value} (C : cAt h S) (O : h 38 = .inr (.inr (5, [.long y, s]))) {E : String} {h1 : mH} {n1 : Nat} (hx : cNo (sp_isFalling S row).1 h n E h1 n1) : mTX l mL_isFalling rL_isFalling (mKo rL_isFalling (lOk (sp_isFalling S row).1 S (sp_isFalling S row) s h n) mNX) 3 [.ref 0, .int row, .ref 38, .double 0] E h1 n1 (0 + rX2_isFalling.cells) (0 + rX2_isFalling.slots) := by
  obtain ⟨hE, rfl, rfl⟩ := hx
  rcases hE with ⟨rfl, hk⟩ | ⟨rfl, hk⟩
  · refine mt_catch (nm := "java/lang/IndexOutOfBoundsException") (pre := []) (suf := []) (x := (0, 17, 20, 19)) rfl (fun z hz => by cases hz) _ rfl rfl (by decide) mw_397 mw_236 ?_
    show mT _ _ _ _ 20 [.ref 0, .int row, .ref 38, .double 0] [.float 0] _ _ _ _
    refine mp_astore_n dL_isFalling_20 (ls' := [.ref 0, .int row, .ref 38, .float 0]) rfl rfl (by decide) rfl ?_
    refine mt_iconst dL_isFalling_21 (v := nI 1) rfl ?_
    refine mt_ireturn dL_isFalling_22 rfl rfl (by simp only [rX2_isFalling, rL_isFalling]; omega) (by simp only [rX2_isFalling, rL_isFalling]; omega) ?_
    exact ⟨by rw [hk], rfl, by rw [if_neg (by rw [hk]; decide)]; exact C, ⟨_, O, fun z => absurd (hk.symm.trans z) (by decide)⟩, fun j j1 j2 => rfl⟩
  · have z := oi_isFalling (S := S) (row := row)
    rcases z with ⟨z, -⟩ | ⟨z, z2⟩ | ⟨z, z2⟩
    · rw [hk] at z; cases z
    · first | (rw [hk] at z; cases z; done) | cases z2
    · first | (rw [hk] at z; cases z; done) | cases z2
set_option maxRecDepth 100000 in
theorem kL_isFalling {l : Launch} (hl : l.stackTraces = false) {h : mH} {n : Nat} {S : cS} {row : Int32} {y : Int64} {s : Value} (C : cAt h S) (O : h 38 = .inr (.inr (5, [.long y, s]))) : mC l mL_isFalling rL_isFalling [.ref 0, .int row, .ref 38] h n (lOk (sp_isFalling S row).1 S (sp_isFalling S row) s h n) mNX := by
  refine mm_enterH hl (by decide +kernel) (by intro hh; cases hh) rfl rfl (Nat.le_of_ble_eq_true rfl) ?_
  show mT _ _ _ _ 0 [.ref 0, .int row, .ref 38, .double 0] [] _ _ 0 0
  refine mt_aload_n dL_isFalling_0 rfl rfl ?_
  refine mt_aload_n dL_isFalling_1 rfl rfl ?_
  refine mt_iload_n dL_isFalling_2 rfl ?_
  refine mt_callV (N := mX2_isFalling) (Rc := rX2_isFalling) (As := [.int row]) (st := [.ref 38]) dL_isFalling_3 (kX2_isFalling hl C) sX2_isFalling mw_909 mKX2 rfl C.1 rfl (Nat.le_of_ble_eq_true rfl) ⟨⟨Nat.le_of_ble_eq_true rfl, Nat.le_of_ble_eq_true rfl⟩, (by simp only [rX2_isFalling, rL_isFalling]; omega), (by simp only [rX2_isFalling, rL_isFalling]; omega)⟩ (fun v1 h2 n3 c4 => ?_) (fun E h9 n9 hx => tL_isFalling_x C O hx)
  obtain ⟨c40, c4a, c4b, c4c, c4d⟩ := c4
  have z := oi_isFalling (S := S) (row := row)
  obtain ⟨x, hx⟩ : vB (sp_isFalling S row).2.1 := by rcases z with ⟨-, z⟩ | ⟨z, -⟩ | ⟨z, -⟩ <;> first | exact z | (rw [c40] at z; cases z)
  rw [hx] at c4a; rw [c4a, c4b]
  show mT _ _ _ _ 6 [.ref 0, .int row, .ref 38, .double 0] [.int (mb (x)), .ref 38] _ _ _ _
  refine mt_if_eq dL_isFalling_6 (tgt := 13) rfl (fun q5 => ?_) (fun q5 => ?_)
  · have q5 : x = false := mb_0.mp q5
    refine mt_lconst dL_isFalling_13 (v := 0) rfl ?_
    refine mp_putfieldN mKX3 (i := 0) (fs' := [.long 0, s]) (by decide) mw_387 rfl dL_isFalling_14 ((c4d 38 (by omega)).trans O) (Nat.le_of_ble_eq_true rfl) rfl rfl (fun h6 e7 f8 => ?_)
    refine mt_goto dL_isFalling_17 (tgt := 23) rfl ?_
    refine mt_iconst dL_isFalling_23 (v := nI 0) rfl ?_
    refine mt_ireturn dL_isFalling_24 rfl rfl (by simp only [rX2_isFalling, rL_isFalling]; omega) (by simp only [rX2_isFalling, rL_isFalling]; omega) ?_
    exact ⟨by rw [c40], rfl, by rw [if_pos c40]; exact cAt.fr2 c4c (fun j hj => f8 j (by omega)), ⟨_, e7, fun _ x9 zx => by rw [hx] at zx; cases zx; rw [q5]; rfl⟩, fun j j1 j2 => (f8 j (by omega)).trans (c4d j j1)⟩
  · have q5 : x = true := mb_1.mp q5
    refine mt_lconst dL_isFalling_9 (v := 1) rfl ?_
    refine mt_goto dL_isFalling_10 (tgt := 14) rfl ?_
    refine mp_putfieldN mKX3 (i := 0) (fs' := [.long 1, s]) (by decide) mw_387 rfl dL_isFalling_14 ((c4d 38 (by omega)).trans O) (Nat.le_of_ble_eq_true rfl) rfl rfl (fun h9 e10 f11 => ?_)
    refine mt_goto dL_isFalling_17 (tgt := 23) rfl ?_
    refine mt_iconst dL_isFalling_23 (v := nI 0) rfl ?_
    refine mt_ireturn dL_isFalling_24 rfl rfl (by simp only [rX2_isFalling, rL_isFalling]; omega) (by simp only [rX2_isFalling, rL_isFalling]; omega) ?_
    exact ⟨by rw [c40], rfl, by rw [if_pos c40]; exact cAt.fr2 c4c (fun j hj => f11 j (by omega)), ⟨_, e10, fun _ x9 zx => by rw [hx] at zx; cases zx; rw [q5]; rfl⟩, fun j j1 j2 => (f11 j (by omega)).trans (c4d j j1)⟩
theorem oi_isKept {S : cS} {row : Int32} : oI vB true false (sp_isKept S row) := by
  unfold sp_isKept
  repeat' first | exact Or.inl ⟨rfl, _, rfl⟩ | exact Or.inr (Or.inr ⟨rfl, rfl⟩) | exact Or.inr (Or.inl ⟨rfl, rfl⟩) | refine dAt_o (fun r => ?_) | refine dArg_o (fun r => ?_) | refine dFit_o ?_ | refine dB_o (fun r => ?_) | refine dKeep_o (fun p t => ?_) | split
abbrev rL_isKept : Room := { frames := 8, cells := 1, slots := 6, locals := 132 }
set_option maxRecDepth 100000 in
theorem tL_isKept_x {l : Launch} {h : mH} {n : Nat} {S : cS} {row : Int32} {y : Int64} {s : Value} (C : cAt h S) (O : h 38 = .inr (.inr (5, [.long y, s]))) {E : String} {h1 : mH} {n1 : Nat} (hx : cNo (sp_isKept S row).1 h n E h1 n1) : mTX l mL_isKept rL_isKept (mKo rL_isKept (lOk (sp_isKept S row).1 S (sp_isKept S row) s h n) mNX) 3 [.ref 0, .int row, .ref 38, .double 0] E h1 n1 (0 + rX2_isKept.cells) (0 + rX2_isKept.slots) := by
  obtain ⟨hE, rfl, rfl⟩ := hx
  rcases hE with ⟨rfl, hk⟩ | ⟨rfl, hk⟩
  · refine mt_catch (nm := "java/lang/IndexOutOfBoundsException") (pre := []) (suf := []) (x := (0, 17, 20, 19)) rfl (fun z hz => by cases hz) _ rfl rfl (by decide) mw_397 mw_236 ?_
    show mT _ _ _ _ 20 [.ref 0, .int row, .ref 38, .double 0] [.float 0] _ _ _ _
    refine mp_astore_n dL_isKept_20 (ls' := [.ref 0, .int row, .ref 38, .float 0]) rfl rfl (by decide) rfl ?_
    refine mt_iconst dL_isKept_21 (v := nI 1) rfl ?_
    refine mt_ireturn dL_isKept_22 rfl rfl (by simp only [rX2_isKept, rL_isKept]; omega) (by simp only [rX2_isKept, rL_isKept]; omega) ?_
    exact ⟨by rw [hk], rfl, by rw [if_neg (by rw [hk]; decide)]; exact C, ⟨_, O, fun z => absurd (hk.symm.trans z) (by decide)⟩, fun j j1 j2 => rfl⟩
  · have z := oi_isKept (S := S) (row := row)
    rcases z with ⟨z, -⟩ | ⟨z, z2⟩ | ⟨z, z2⟩
    · rw [hk] at z; cases z
    · first | (rw [hk] at z; cases z; done) | cases z2
    · first | (rw [hk] at z; cases z; done) | cases z2
set_option maxRecDepth 100000 in
theorem kL_isKept {l : Launch} (hl : l.stackTraces = false) {h : mH} {n : Nat} {S : cS} {row : Int32} {y : Int64} {s : Value} (C : cAt h S) (O : h 38 = .inr (.inr (5, [.long y, s]))) : mC l mL_isKept rL_isKept [.ref 0, .int row, .ref 38] h n (lOk (sp_isKept S row).1 S (sp_isKept S row) s h n) mNX := by
  refine mm_enterH hl (by decide +kernel) (by intro hh; cases hh) rfl rfl (Nat.le_of_ble_eq_true rfl) ?_
  show mT _ _ _ _ 0 [.ref 0, .int row, .ref 38, .double 0] [] _ _ 0 0
  refine mt_aload_n dL_isKept_0 rfl rfl ?_
  refine mt_aload_n dL_isKept_1 rfl rfl ?_
  refine mt_iload_n dL_isKept_2 rfl ?_
  refine mt_callV (N := mX2_isKept) (Rc := rX2_isKept) (As := [.int row]) (st := [.ref 38]) dL_isKept_3 (kX2_isKept hl C) sX2_isKept mw_920 mKX2 rfl C.1 rfl (Nat.le_of_ble_eq_true rfl) ⟨⟨Nat.le_of_ble_eq_true rfl, Nat.le_of_ble_eq_true rfl⟩, (by simp only [rX2_isKept, rL_isKept]; omega), (by simp only [rX2_isKept, rL_isKept]; omega)⟩ (fun v1 h2 n3 c4 => ?_) (fun E h9 n9 hx => tL_isKept_x C O hx)
  obtain ⟨c40, c4a, c4b, c4c, c4d⟩ := c4
  have z := oi_isKept (S := S) (row := row)
  obtain ⟨x, hx⟩ : vB (sp_isKept S row).2.1 := by rcases z with ⟨-, z⟩ | ⟨z, -⟩ | ⟨z, -⟩ <;> first | exact z | (rw [c40] at z; cases z)
  rw [hx] at c4a; rw [c4a, c4b]
  show mT _ _ _ _ 6 [.ref 0, .int row, .ref 38, .double 0] [.int (mb (x)), .ref 38] _ _ _ _
  refine mt_if_eq dL_isKept_6 (tgt := 13) rfl (fun q5 => ?_) (fun q5 => ?_)
  · have q5 : x = false := mb_0.mp q5
    refine mt_lconst dL_isKept_13 (v := 0) rfl ?_
    refine mp_putfieldN mKX3 (i := 0) (fs' := [.long 0, s]) (by decide) mw_387 rfl dL_isKept_14 ((c4d 38 (by omega)).trans O) (Nat.le_of_ble_eq_true rfl) rfl rfl (fun h6 e7 f8 => ?_)
    refine mt_goto dL_isKept_17 (tgt := 23) rfl ?_
    refine mt_iconst dL_isKept_23 (v := nI 0) rfl ?_
    refine mt_ireturn dL_isKept_24 rfl rfl (by simp only [rX2_isKept, rL_isKept]; omega) (by simp only [rX2_isKept, rL_isKept]; omega) ?_
    exact ⟨by rw [c40], rfl, by rw [if_pos c40]; exact cAt.fr2 c4c (fun j hj => f8 j (by omega)), ⟨_, e7, fun _ x9 zx => by rw [hx] at zx; cases zx; rw [q5]; rfl⟩, fun j j1 j2 => (f8 j (by omega)).trans (c4d j j1)⟩
  · have q5 : x = true := mb_1.mp q5
    refine mt_lconst dL_isKept_9 (v := 1) rfl ?_
    refine mt_goto dL_isKept_10 (tgt := 14) rfl ?_
    refine mp_putfieldN mKX3 (i := 0) (fs' := [.long 1, s]) (by decide) mw_387 rfl dL_isKept_14 ((c4d 38 (by omega)).trans O) (Nat.le_of_ble_eq_true rfl) rfl rfl (fun h9 e10 f11 => ?_)
    refine mt_goto dL_isKept_17 (tgt := 23) rfl ?_
    refine mt_iconst dL_isKept_23 (v := nI 0) rfl ?_
    refine mt_ireturn dL_isKept_24 rfl rfl (by simp only [rX2_isKept, rL_isKept]; omega) (by simp only [rX2_isKept, rL_isKept]; omega) ?_
    exact ⟨by rw [c40], rfl, by rw [if_pos c40]; exact cAt.fr2 c4c (fun j hj => f11 j (by omega)), ⟨_, e10, fun _ x9 zx => by rw [hx] at zx; cases zx; rw [q5]; rfl⟩, fun j j1 j2 => (f11 j (by omega)).trans (c4d j j1)⟩
theorem oi_wrong {S : cS} {row : Int32} {how : Int32} : oI vI true true (sp_wrong S row how) := by
  unfold sp_wrong
  repeat' first | exact Or.inl ⟨rfl, _, rfl⟩ | exact Or.inr (Or.inr ⟨rfl, rfl⟩) | exact Or.inr (Or.inl ⟨rfl, rfl⟩) | refine dAt_o (fun r => ?_) | refine dArg_o (fun r => ?_) | refine dFit_o ?_ | refine dB_o (fun r => ?_) | refine dKeep_o (fun p t => ?_) | split
abbrev rL_wrong : Room := { frames := 8, cells := 2, slots := 12, locals := 146 }
set_option maxRecDepth 100000 in
theorem tL_wrong_x {l : Launch} {h : mH} {n : Nat} {S : cS} {row : Int32} {how : Int32} {y : Int64} {s : Value} (C : cAt h S) (O : h 38 = .inr (.inr (5, [.long y, s]))) {E : String} {h1 : mH} {n1 : Nat} (hx : cNo (sp_wrong S row how).1 h n E h1 n1) : mTX l mL_wrong rL_wrong (mKo rL_wrong (lOk (sp_wrong S row how).1 S (sp_wrong S row how) s h n) mNX) 4 [.ref 0, .int row, .int how, .ref 38, .double 0] E h1 n1 (0 + rX2_wrong.cells) (0 + rX2_wrong.slots) := by
  obtain ⟨hE, rfl, rfl⟩ := hx
  rcases hE with ⟨rfl, hk⟩ | ⟨rfl, hk⟩
  · refine mt_catch (nm := "java/lang/IndexOutOfBoundsException") (pre := []) (suf := [(0, 11, 18, 21)]) (x := (0, 11, 14, 19)) rfl (fun z hz => by cases hz) _ rfl rfl (by decide) mw_397 mw_236 ?_
    show mT _ _ _ _ 14 [.ref 0, .int row, .int how, .ref 38, .double 0] [.float 0] _ _ _ _
    refine mp_astore dL_wrong_14 (ls' := [.ref 0, .int row, .int how, .ref 38, .float 0]) rfl rfl (by decide) rfl ?_
    refine mt_iconst dL_wrong_16 (v := nI 1) rfl ?_
    refine mt_ireturn dL_wrong_17 rfl rfl (by simp only [rX2_wrong, rL_wrong]; omega) (by simp only [rX2_wrong, rL_wrong]; omega) ?_
    exact ⟨by rw [hk], rfl, by rw [if_neg (by rw [hk]; decide)]; exact C, ⟨_, O, fun z => absurd (hk.symm.trans z) (by decide)⟩, fun j j1 j2 => rfl⟩
  · refine mt_catch (nm := "java/lang/IllegalArgumentException") (pre := [(0, 11, 14, 19)]) (suf := []) (x := (0, 11, 18, 21)) rfl (fun z hz => by rw [List.mem_singleton.mp hz]; exact Or.inr ⟨by decide, mw_397, rfl⟩) _ rfl rfl (by decide) mw_398 mw_314 ?_
    show mT _ _ _ _ 18 [.ref 0, .int row, .int how, .ref 38, .double 0] [.float 0] _ _ _ _
    refine mp_astore dL_wrong_18 (ls' := [.ref 0, .int row, .int how, .ref 38, .float 0]) rfl rfl (by decide) rfl ?_
    refine mt_iconst dL_wrong_20 (v := nI 2) rfl ?_
    refine mt_ireturn dL_wrong_21 rfl rfl (by simp only [rX2_wrong, rL_wrong]; omega) (by simp only [rX2_wrong, rL_wrong]; omega) ?_
    exact ⟨by rw [hk], rfl, by rw [if_neg (by rw [hk]; decide)]; exact C, ⟨_, O, fun z => absurd (hk.symm.trans z) (by decide)⟩, fun j j1 j2 => rfl⟩
set_option maxRecDepth 100000 in
theorem kL_wrong {l : Launch} (hl : l.stackTraces = false) {h : mH} {n : Nat} {S : cS} {row : Int32} {how : Int32} {y : Int64} {s : Value} (C : cAt h S) (O : h 38 = .inr (.inr (5, [.long y, s]))) : mC l mL_wrong rL_wrong [.ref 0, .int row, .int how, .ref 38] h n (lOk (sp_wrong S row how).1 S (sp_wrong S row how) s h n) mNX := by
  refine mm_enterH hl (by decide +kernel) (by intro hh; cases hh) rfl rfl (Nat.le_of_ble_eq_true rfl) ?_
  show mT _ _ _ _ 0 [.ref 0, .int row, .int how, .ref 38, .double 0] [] _ _ 0 0
  refine mt_aload_n dL_wrong_0 rfl rfl ?_
  refine mt_aload_n dL_wrong_1 rfl rfl ?_
  refine mt_iload_n dL_wrong_2 rfl ?_
  refine mt_iload_n dL_wrong_3 rfl ?_
  refine mt_callV (N := mX2_wrong) (Rc := rX2_wrong) (As := [.int row, .int how]) (st := [.ref 38]) dL_wrong_4 (kX2_wrong hl C) sX2_wrong mw_931 mKX2 rfl C.1 rfl (Nat.le_of_ble_eq_true rfl) ⟨⟨Nat.le_of_ble_eq_true rfl, Nat.le_of_ble_eq_true rfl⟩, (by simp only [rX2_wrong, rL_wrong]; omega), (by simp only [rX2_wrong, rL_wrong]; omega)⟩ (fun v1 h2 n3 c4 => ?_) (fun E h9 n9 hx => tL_wrong_x C O hx)
  obtain ⟨c40, c4a, c4b, c4c, c4d⟩ := c4
  have z := oi_wrong (S := S) (row := row) (how := how)
  obtain ⟨x, hx⟩ : vI (sp_wrong S row how).2.1 := by rcases z with ⟨-, z⟩ | ⟨z, -⟩ | ⟨z, -⟩ <;> first | exact z | (rw [c40] at z; cases z)
  rw [hx] at c4a; rw [c4a, c4b]
  show mT _ _ _ _ 7 [.ref 0, .int row, .int how, .ref 38, .double 0] [.int x, .ref 38] _ _ _ _
  refine mt_i2l dL_wrong_7 ?_
  refine mp_putfieldN mKX3 (i := 0) (fs' := [.long ((x).toInt64), s]) (by decide) mw_387 rfl dL_wrong_8 ((c4d 38 (by omega)).trans O) (Nat.le_of_ble_eq_true rfl) rfl rfl (fun h5 e6 f7 => ?_)
  refine mt_goto dL_wrong_11 (tgt := 22) rfl ?_
  refine mt_iconst dL_wrong_22 (v := nI 0) rfl ?_
  refine mt_ireturn dL_wrong_23 rfl rfl (by simp only [rX2_wrong, rL_wrong]; omega) (by simp only [rX2_wrong, rL_wrong]; omega) ?_
  exact ⟨by rw [c40], rfl, by rw [if_pos c40]; exact cAt.fr2 c4c (fun j hj => f7 j (by omega)), ⟨_, e6, fun _ x9 zx => by rw [hx] at zx; cases zx; rfl⟩, fun j j1 j2 => (f7 j (by omega)).trans (c4d j j1)⟩
theorem oi_right {S : cS} {row : Int32} : oI vI true false (sp_right S row) := by
  unfold sp_right
  repeat' first | exact Or.inl ⟨rfl, _, rfl⟩ | exact Or.inr (Or.inr ⟨rfl, rfl⟩) | exact Or.inr (Or.inl ⟨rfl, rfl⟩) | refine dAt_o (fun r => ?_) | refine dArg_o (fun r => ?_) | refine dFit_o ?_ | refine dB_o (fun r => ?_) | refine dKeep_o (fun p t => ?_) | split
abbrev rL_right : Room := { frames := 8, cells := 1, slots := 6, locals := 132 }
set_option maxRecDepth 100000 in
theorem tL_right_x {l : Launch} {h : mH} {n : Nat} {S : cS} {row : Int32} {y : Int64} {s : Value} (C : cAt h S) (O : h 38 = .inr (.inr (5, [.long y, s]))) {E : String} {h1 : mH} {n1 : Nat} (hx : cNo (sp_right S row).1 h n E h1 n1) : mTX l mL_right rL_right (mKo rL_right (lOk (sp_right S row).1 S (sp_right S row) s h n) mNX) 3 [.ref 0, .int row, .ref 38, .double 0] E h1 n1 (0 + rX2_right.cells) (0 + rX2_right.slots) := by
  obtain ⟨hE, rfl, rfl⟩ := hx
  rcases hE with ⟨rfl, hk⟩ | ⟨rfl, hk⟩
  · refine mt_catch (nm := "java/lang/IndexOutOfBoundsException") (pre := []) (suf := []) (x := (0, 10, 13, 19)) rfl (fun z hz => by cases hz) _ rfl rfl (by decide) mw_397 mw_236 ?_
    show mT _ _ _ _ 13 [.ref 0, .int row, .ref 38, .double 0] [.float 0] _ _ _ _
    refine mp_astore_n dL_right_13 (ls' := [.ref 0, .int row, .ref 38, .float 0]) rfl rfl (by decide) rfl ?_
    refine mt_iconst dL_right_14 (v := nI 1) rfl ?_
    refine mt_ireturn dL_right_15 rfl rfl (by simp only [rX2_right, rL_right]; omega) (by simp only [rX2_right, rL_right]; omega) ?_
    exact ⟨by rw [hk], rfl, by rw [if_neg (by rw [hk]; decide)]; exact C, ⟨_, O, fun z => absurd (hk.symm.trans z) (by decide)⟩, fun j j1 j2 => rfl⟩
  · have z := oi_right (S := S) (row := row)
    rcases z with ⟨z, -⟩ | ⟨z, z2⟩ | ⟨z, z2⟩
    · rw [hk] at z; cases z
    · first | (rw [hk] at z; cases z; done) | cases z2
    · first | (rw [hk] at z; cases z; done) | cases z2
set_option maxRecDepth 100000 in
theorem kL_right {l : Launch} (hl : l.stackTraces = false) {h : mH} {n : Nat} {S : cS} {row : Int32} {y : Int64} {s : Value} (C : cAt h S) (O : h 38 = .inr (.inr (5, [.long y, s]))) : mC l mL_right rL_right [.ref 0, .int row, .ref 38] h n (lOk (sp_right S row).1 S (sp_right S row) s h n) mNX := by
  refine mm_enterH hl (by decide +kernel) (by intro hh; cases hh) rfl rfl (Nat.le_of_ble_eq_true rfl) ?_
  show mT _ _ _ _ 0 [.ref 0, .int row, .ref 38, .double 0] [] _ _ 0 0
  refine mt_aload_n dL_right_0 rfl rfl ?_
  refine mt_aload_n dL_right_1 rfl rfl ?_
  refine mt_iload_n dL_right_2 rfl ?_
  refine mt_callV (N := mX2_right) (Rc := rX2_right) (As := [.int row]) (st := [.ref 38]) dL_right_3 (kX2_right hl C) sX2_right mw_935 mKX2 rfl C.1 rfl (Nat.le_of_ble_eq_true rfl) ⟨⟨Nat.le_of_ble_eq_true rfl, Nat.le_of_ble_eq_true rfl⟩, (by simp only [rX2_right, rL_right]; omega), (by simp only [rX2_right, rL_right]; omega)⟩ (fun v1 h2 n3 c4 => ?_) (fun E h9 n9 hx => tL_right_x C O hx)
  obtain ⟨c40, c4a, c4b, c4c, c4d⟩ := c4
  have z := oi_right (S := S) (row := row)
  obtain ⟨x, hx⟩ : vI (sp_right S row).2.1 := by rcases z with ⟨-, z⟩ | ⟨z, -⟩ | ⟨z, -⟩ <;> first | exact z | (rw [c40] at z; cases z)
  rw [hx] at c4a; rw [c4a, c4b]
  show mT _ _ _ _ 6 [.ref 0, .int row, .ref 38, .double 0] [.int x, .ref 38] _ _ _ _
  refine mt_i2l dL_right_6 ?_
  refine mp_putfieldN mKX3 (i := 0) (fs' := [.long ((x).toInt64), s]) (by decide) mw_387 rfl dL_right_7 ((c4d 38 (by omega)).trans O) (Nat.le_of_ble_eq_true rfl) rfl rfl (fun h5 e6 f7 => ?_)
  refine mt_goto dL_right_10 (tgt := 16) rfl ?_
  refine mt_iconst dL_right_16 (v := nI 0) rfl ?_
  refine mt_ireturn dL_right_17 rfl rfl (by simp only [rX2_right, rL_right]; omega) (by simp only [rX2_right, rL_right]; omega) ?_
  exact ⟨by rw [c40], rfl, by rw [if_pos c40]; exact cAt.fr2 c4c (fun j hj => f7 j (by omega)), ⟨_, e6, fun _ x9 zx => by rw [hx] at zx; cases zx; rfl⟩, fun j j1 j2 => (f7 j (by omega)).trans (c4d j j1)⟩
theorem oi_ties {S : cS} {row : Int32} : oI vI true false (sp_ties S row) := by
  unfold sp_ties
  repeat' first | exact Or.inl ⟨rfl, _, rfl⟩ | exact Or.inr (Or.inr ⟨rfl, rfl⟩) | exact Or.inr (Or.inl ⟨rfl, rfl⟩) | refine dAt_o (fun r => ?_) | refine dArg_o (fun r => ?_) | refine dFit_o ?_ | refine dB_o (fun r => ?_) | refine dKeep_o (fun p t => ?_) | split
abbrev rL_ties : Room := { frames := 8, cells := 1, slots := 6, locals := 144 }
set_option maxRecDepth 100000 in
theorem tL_ties_x {l : Launch} {h : mH} {n : Nat} {S : cS} {row : Int32} {y : Int64} {s : Value} (C : cAt h S) (O : h 38 = .inr (.inr (5, [.long y, s]))) {E : String} {h1 : mH} {n1 : Nat} (hx : cNo (sp_ties S row).1 h n E h1 n1) : mTX l mL_ties rL_ties (mKo rL_ties (lOk (sp_ties S row).1 S (sp_ties S row) s h n) mNX) 3 [.ref 0, .int row, .ref 38, .double 0] E h1 n1 (0 + rX2_ties.cells) (0 + rX2_ties.slots) := by
  obtain ⟨hE, rfl, rfl⟩ := hx
  rcases hE with ⟨rfl, hk⟩ | ⟨rfl, hk⟩
  · refine mt_catch (nm := "java/lang/IndexOutOfBoundsException") (pre := []) (suf := []) (x := (0, 10, 13, 19)) rfl (fun z hz => by cases hz) _ rfl rfl (by decide) mw_397 mw_236 ?_
    show mT _ _ _ _ 13 [.ref 0, .int row, .ref 38, .double 0] [.float 0] _ _ _ _
    refine mp_astore_n dL_ties_13 (ls' := [.ref 0, .int row, .ref 38, .float 0]) rfl rfl (by decide) rfl ?_
    refine mt_iconst dL_ties_14 (v := nI 1) rfl ?_
    refine mt_ireturn dL_ties_15 rfl rfl (by simp only [rX2_ties, rL_ties]; omega) (by simp only [rX2_ties, rL_ties]; omega) ?_
    exact ⟨by rw [hk], rfl, by rw [if_neg (by rw [hk]; decide)]; exact C, ⟨_, O, fun z => absurd (hk.symm.trans z) (by decide)⟩, fun j j1 j2 => rfl⟩
  · have z := oi_ties (S := S) (row := row)
    rcases z with ⟨z, -⟩ | ⟨z, z2⟩ | ⟨z, z2⟩
    · rw [hk] at z; cases z
    · first | (rw [hk] at z; cases z; done) | cases z2
    · first | (rw [hk] at z; cases z; done) | cases z2
set_option maxRecDepth 100000 in
theorem kL_ties {l : Launch} (hl : l.stackTraces = false) {h : mH} {n : Nat} {S : cS} {row : Int32} {y : Int64} {s : Value} (C : cAt h S) (O : h 38 = .inr (.inr (5, [.long y, s]))) : mC l mL_ties rL_ties [.ref 0, .int row, .ref 38] h n (lOk (sp_ties S row).1 S (sp_ties S row) s h n) mNX := by
  refine mm_enterH hl (by decide +kernel) (by intro hh; cases hh) rfl rfl (Nat.le_of_ble_eq_true rfl) ?_
  show mT _ _ _ _ 0 [.ref 0, .int row, .ref 38, .double 0] [] _ _ 0 0
  refine mt_aload_n dL_ties_0 rfl rfl ?_
  refine mt_aload_n dL_ties_1 rfl rfl ?_
  refine mt_iload_n dL_ties_2 rfl ?_
  refine mt_callV (N := mX2_ties) (Rc := rX2_ties) (As := [.int row]) (st := [.ref 38]) dL_ties_3 (kX2_ties hl C) sX2_ties mw_942 mKX2 rfl C.1 rfl (Nat.le_of_ble_eq_true rfl) ⟨⟨Nat.le_of_ble_eq_true rfl, Nat.le_of_ble_eq_true rfl⟩, (by simp only [rX2_ties, rL_ties]; omega), (by simp only [rX2_ties, rL_ties]; omega)⟩ (fun v1 h2 n3 c4 => ?_) (fun E h9 n9 hx => tL_ties_x C O hx)
  obtain ⟨c40, c4a, c4b, c4c, c4d⟩ := c4
  have z := oi_ties (S := S) (row := row)
  obtain ⟨x, hx⟩ : vI (sp_ties S row).2.1 := by rcases z with ⟨-, z⟩ | ⟨z, -⟩ | ⟨z, -⟩ <;> first | exact z | (rw [c40] at z; cases z)
  rw [hx] at c4a; rw [c4a, c4b]
  show mT _ _ _ _ 6 [.ref 0, .int row, .ref 38, .double 0] [.int x, .ref 38] _ _ _ _
  refine mt_i2l dL_ties_6 ?_
  refine mp_putfieldN mKX3 (i := 0) (fs' := [.long ((x).toInt64), s]) (by decide) mw_387 rfl dL_ties_7 ((c4d 38 (by omega)).trans O) (Nat.le_of_ble_eq_true rfl) rfl rfl (fun h5 e6 f7 => ?_)
  refine mt_goto dL_ties_10 (tgt := 16) rfl ?_
  refine mt_iconst dL_ties_16 (v := nI 0) rfl ?_
  refine mt_ireturn dL_ties_17 rfl rfl (by simp only [rX2_ties, rL_ties]; omega) (by simp only [rX2_ties, rL_ties]; omega) ?_
  exact ⟨by rw [c40], rfl, by rw [if_pos c40]; exact cAt.fr2 c4c (fun j hj => f7 j (by omega)), ⟨_, e6, fun _ x9 zx => by rw [hx] at zx; cases zx; rfl⟩, fun j j1 j2 => (f7 j (by omega)).trans (c4d j j1)⟩
theorem oi_runs {S : cS} {row : Int32} : oI vI true false (sp_runs S row) := by
  unfold sp_runs
  repeat' first | exact Or.inl ⟨rfl, _, rfl⟩ | exact Or.inr (Or.inr ⟨rfl, rfl⟩) | exact Or.inr (Or.inl ⟨rfl, rfl⟩) | refine dAt_o (fun r => ?_) | refine dArg_o (fun r => ?_) | refine dFit_o ?_ | refine dB_o (fun r => ?_) | refine dKeep_o (fun p t => ?_) | split
abbrev rL_runs : Room := { frames := 8, cells := 1, slots := 6, locals := 132 }
set_option maxRecDepth 100000 in
theorem tL_runs_x {l : Launch} {h : mH} {n : Nat} {S : cS} {row : Int32} {y : Int64} {s : Value} (C : cAt h S) (O : h 38 = .inr (.inr (5, [.long y, s]))) {E : String} {h1 : mH} {n1 : Nat} (hx : cNo (sp_runs S row).1 h n E h1 n1) : mTX l mL_runs rL_runs (mKo rL_runs (lOk (sp_runs S row).1 S (sp_runs S row) s h n) mNX) 3 [.ref 0, .int row, .ref 38, .double 0] E h1 n1 (0 + rX2_runs.cells) (0 + rX2_runs.slots) := by
  obtain ⟨hE, rfl, rfl⟩ := hx
  rcases hE with ⟨rfl, hk⟩ | ⟨rfl, hk⟩
  · refine mt_catch (nm := "java/lang/IndexOutOfBoundsException") (pre := []) (suf := []) (x := (0, 10, 13, 19)) rfl (fun z hz => by cases hz) _ rfl rfl (by decide) mw_397 mw_236 ?_
    show mT _ _ _ _ 13 [.ref 0, .int row, .ref 38, .double 0] [.float 0] _ _ _ _
    refine mp_astore_n dL_runs_13 (ls' := [.ref 0, .int row, .ref 38, .float 0]) rfl rfl (by decide) rfl ?_
    refine mt_iconst dL_runs_14 (v := nI 1) rfl ?_
    refine mt_ireturn dL_runs_15 rfl rfl (by simp only [rX2_runs, rL_runs]; omega) (by simp only [rX2_runs, rL_runs]; omega) ?_
    exact ⟨by rw [hk], rfl, by rw [if_neg (by rw [hk]; decide)]; exact C, ⟨_, O, fun z => absurd (hk.symm.trans z) (by decide)⟩, fun j j1 j2 => rfl⟩
  · have z := oi_runs (S := S) (row := row)
    rcases z with ⟨z, -⟩ | ⟨z, z2⟩ | ⟨z, z2⟩
    · rw [hk] at z; cases z
    · first | (rw [hk] at z; cases z; done) | cases z2
    · first | (rw [hk] at z; cases z; done) | cases z2
set_option maxRecDepth 100000 in
theorem kL_runs {l : Launch} (hl : l.stackTraces = false) {h : mH} {n : Nat} {S : cS} {row : Int32} {y : Int64} {s : Value} (C : cAt h S) (O : h 38 = .inr (.inr (5, [.long y, s]))) : mC l mL_runs rL_runs [.ref 0, .int row, .ref 38] h n (lOk (sp_runs S row).1 S (sp_runs S row) s h n) mNX := by
  refine mm_enterH hl (by decide +kernel) (by intro hh; cases hh) rfl rfl (Nat.le_of_ble_eq_true rfl) ?_
  show mT _ _ _ _ 0 [.ref 0, .int row, .ref 38, .double 0] [] _ _ 0 0
  refine mt_aload_n dL_runs_0 rfl rfl ?_
  refine mt_aload_n dL_runs_1 rfl rfl ?_
  refine mt_iload_n dL_runs_2 rfl ?_
  refine mt_callV (N := mX2_runs) (Rc := rX2_runs) (As := [.int row]) (st := [.ref 38]) dL_runs_3 (kX2_runs hl C) sX2_runs mw_946 mKX2 rfl C.1 rfl (Nat.le_of_ble_eq_true rfl) ⟨⟨Nat.le_of_ble_eq_true rfl, Nat.le_of_ble_eq_true rfl⟩, (by simp only [rX2_runs, rL_runs]; omega), (by simp only [rX2_runs, rL_runs]; omega)⟩ (fun v1 h2 n3 c4 => ?_) (fun E h9 n9 hx => tL_runs_x C O hx)
  obtain ⟨c40, c4a, c4b, c4c, c4d⟩ := c4
  have z := oi_runs (S := S) (row := row)
  obtain ⟨x, hx⟩ : vI (sp_runs S row).2.1 := by rcases z with ⟨-, z⟩ | ⟨z, -⟩ | ⟨z, -⟩ <;> first | exact z | (rw [c40] at z; cases z)
  rw [hx] at c4a; rw [c4a, c4b]
  show mT _ _ _ _ 6 [.ref 0, .int row, .ref 38, .double 0] [.int x, .ref 38] _ _ _ _
  refine mt_i2l dL_runs_6 ?_
  refine mp_putfieldN mKX3 (i := 0) (fs' := [.long ((x).toInt64), s]) (by decide) mw_387 rfl dL_runs_7 ((c4d 38 (by omega)).trans O) (Nat.le_of_ble_eq_true rfl) rfl rfl (fun h5 e6 f7 => ?_)
  refine mt_goto dL_runs_10 (tgt := 16) rfl ?_
  refine mt_iconst dL_runs_16 (v := nI 0) rfl ?_
  refine mt_ireturn dL_runs_17 rfl rfl (by simp only [rX2_runs, rL_runs]; omega) (by simp only [rX2_runs, rL_runs]; omega) ?_
  exact ⟨by rw [c40], rfl, by rw [if_pos c40]; exact cAt.fr2 c4c (fun j hj => f7 j (by omega)), ⟨_, e6, fun _ x9 zx => by rw [hx] at zx; cases zx; rfl⟩, fun j j1 j2 => (f7 j (by omega)).trans (c4d j j1)⟩
theorem oi_longest {S : cS} {row : Int32} : oI vI true false (sp_longest S row) := by
  unfold sp_longest
  repeat' first | exact Or.inl ⟨rfl, _, rfl⟩ | exact Or.inr (Or.inr ⟨rfl, rfl⟩) | exact Or.inr (Or.inl ⟨rfl, rfl⟩) | refine dAt_o (fun r => ?_) | refine dArg_o (fun r => ?_) | refine dFit_o ?_ | refine dB_o (fun r => ?_) | refine dKeep_o (fun p t => ?_) | split
abbrev rL_longest : Room := { frames := 8, cells := 1, slots := 6, locals := 132 }
set_option maxRecDepth 100000 in
theorem tL_longest_x {l : Launch} {h : mH} {n : Nat} {S : cS} {row : Int32} {y : Int64} {s : Value} (C : cAt h S) (O : h 38 = .inr (.inr (5, [.long y, s]))) {E : String} {h1 : mH} {n1 : Nat} (hx : cNo (sp_longest S row).1 h n E h1 n1) : mTX l mL_longest rL_longest (mKo rL_longest (lOk (sp_longest S row).1 S (sp_longest S row) s h n) mNX) 3 [.ref 0, .int row, .ref 38, .double 0] E h1 n1 (0 + rX2_longest.cells) (0 + rX2_longest.slots) := by
  obtain ⟨hE, rfl, rfl⟩ := hx
  rcases hE with ⟨rfl, hk⟩ | ⟨rfl, hk⟩
  · refine mt_catch (nm := "java/lang/IndexOutOfBoundsException") (pre := []) (suf := []) (x := (0, 10, 13, 19)) rfl (fun z hz => by cases hz) _ rfl rfl (by decide) mw_397 mw_236 ?_
    show mT _ _ _ _ 13 [.ref 0, .int row, .ref 38, .double 0] [.float 0] _ _ _ _
    refine mp_astore_n dL_longest_13 (ls' := [.ref 0, .int row, .ref 38, .float 0]) rfl rfl (by decide) rfl ?_
    refine mt_iconst dL_longest_14 (v := nI 1) rfl ?_
    refine mt_ireturn dL_longest_15 rfl rfl (by simp only [rX2_longest, rL_longest]; omega) (by simp only [rX2_longest, rL_longest]; omega) ?_
    exact ⟨by rw [hk], rfl, by rw [if_neg (by rw [hk]; decide)]; exact C, ⟨_, O, fun z => absurd (hk.symm.trans z) (by decide)⟩, fun j j1 j2 => rfl⟩
  · have z := oi_longest (S := S) (row := row)
    rcases z with ⟨z, -⟩ | ⟨z, z2⟩ | ⟨z, z2⟩
    · rw [hk] at z; cases z
    · first | (rw [hk] at z; cases z; done) | cases z2
    · first | (rw [hk] at z; cases z; done) | cases z2
set_option maxRecDepth 100000 in
theorem kL_longest {l : Launch} (hl : l.stackTraces = false) {h : mH} {n : Nat} {S : cS} {row : Int32} {y : Int64} {s : Value} (C : cAt h S) (O : h 38 = .inr (.inr (5, [.long y, s]))) : mC l mL_longest rL_longest [.ref 0, .int row, .ref 38] h n (lOk (sp_longest S row).1 S (sp_longest S row) s h n) mNX := by
  refine mm_enterH hl (by decide +kernel) (by intro hh; cases hh) rfl rfl (Nat.le_of_ble_eq_true rfl) ?_
  show mT _ _ _ _ 0 [.ref 0, .int row, .ref 38, .double 0] [] _ _ 0 0
  refine mt_aload_n dL_longest_0 rfl rfl ?_
  refine mt_aload_n dL_longest_1 rfl rfl ?_
  refine mt_iload_n dL_longest_2 rfl ?_
  refine mt_callV (N := mX2_longest) (Rc := rX2_longest) (As := [.int row]) (st := [.ref 38]) dL_longest_3 (kX2_longest hl C) sX2_longest mw_950 mKX2 rfl C.1 rfl (Nat.le_of_ble_eq_true rfl) ⟨⟨Nat.le_of_ble_eq_true rfl, Nat.le_of_ble_eq_true rfl⟩, (by simp only [rX2_longest, rL_longest]; omega), (by simp only [rX2_longest, rL_longest]; omega)⟩ (fun v1 h2 n3 c4 => ?_) (fun E h9 n9 hx => tL_longest_x C O hx)
  obtain ⟨c40, c4a, c4b, c4c, c4d⟩ := c4
  have z := oi_longest (S := S) (row := row)
  obtain ⟨x, hx⟩ : vI (sp_longest S row).2.1 := by rcases z with ⟨-, z⟩ | ⟨z, -⟩ | ⟨z, -⟩ <;> first | exact z | (rw [c40] at z; cases z)
  rw [hx] at c4a; rw [c4a, c4b]
  show mT _ _ _ _ 6 [.ref 0, .int row, .ref 38, .double 0] [.int x, .ref 38] _ _ _ _
  refine mt_i2l dL_longest_6 ?_
  refine mp_putfieldN mKX3 (i := 0) (fs' := [.long ((x).toInt64), s]) (by decide) mw_387 rfl dL_longest_7 ((c4d 38 (by omega)).trans O) (Nat.le_of_ble_eq_true rfl) rfl rfl (fun h5 e6 f7 => ?_)
  refine mt_goto dL_longest_10 (tgt := 16) rfl ?_
  refine mt_iconst dL_longest_16 (v := nI 0) rfl ?_
  refine mt_ireturn dL_longest_17 rfl rfl (by simp only [rX2_longest, rL_longest]; omega) (by simp only [rX2_longest, rL_longest]; omega) ?_
  exact ⟨by rw [c40], rfl, by rw [if_pos c40]; exact cAt.fr2 c4c (fun j hj => f7 j (by omega)), ⟨_, e6, fun _ x9 zx => by rw [hx] at zx; cases zx; rfl⟩, fun j j1 j2 => (f7 j (by omega)).trans (c4d j j1)⟩
theorem oi_count {S : cS} {row : Int32} {key : Int32} : oI vI true true (sp_count S row key) := by
  unfold sp_count
  repeat' first | exact Or.inl ⟨rfl, _, rfl⟩ | exact Or.inr (Or.inr ⟨rfl, rfl⟩) | exact Or.inr (Or.inl ⟨rfl, rfl⟩) | refine dAt_o (fun r => ?_) | refine dArg_o (fun r => ?_) | refine dFit_o ?_ | refine dB_o (fun r => ?_) | refine dKeep_o (fun p t => ?_) | split
abbrev rL_count : Room := { frames := 9, cells := 2, slots := 12, locals := 153 }
set_option maxRecDepth 100000 in
theorem tL_count_x {l : Launch} {h : mH} {n : Nat} {S : cS} {row : Int32} {key : Int32} {y : Int64} {s : Value} (C : cAt h S) (O : h 38 = .inr (.inr (5, [.long y, s]))) {E : String} {h1 : mH} {n1 : Nat} (hx : cNo (sp_count S row key).1 h n E h1 n1) : mTX l mL_count rL_count (mKo rL_count (lOk (sp_count S row key).1 S (sp_count S row key) s h n) mNX) 4 [.ref 0, .int row, .int key, .ref 38, .double 0] E h1 n1 (0 + rX2_count.cells) (0 + rX2_count.slots) := by
  obtain ⟨hE, rfl, rfl⟩ := hx
  rcases hE with ⟨rfl, hk⟩ | ⟨rfl, hk⟩
  · refine mt_catch (nm := "java/lang/IndexOutOfBoundsException") (pre := []) (suf := [(0, 11, 18, 21)]) (x := (0, 11, 14, 19)) rfl (fun z hz => by cases hz) _ rfl rfl (by decide) mw_397 mw_236 ?_
    show mT _ _ _ _ 14 [.ref 0, .int row, .int key, .ref 38, .double 0] [.float 0] _ _ _ _
    refine mp_astore dL_count_14 (ls' := [.ref 0, .int row, .int key, .ref 38, .float 0]) rfl rfl (by decide) rfl ?_
    refine mt_iconst dL_count_16 (v := nI 1) rfl ?_
    refine mt_ireturn dL_count_17 rfl rfl (by simp only [rX2_count, rL_count]; omega) (by simp only [rX2_count, rL_count]; omega) ?_
    exact ⟨by rw [hk], rfl, by rw [if_neg (by rw [hk]; decide)]; exact C, ⟨_, O, fun z => absurd (hk.symm.trans z) (by decide)⟩, fun j j1 j2 => rfl⟩
  · refine mt_catch (nm := "java/lang/IllegalArgumentException") (pre := [(0, 11, 14, 19)]) (suf := []) (x := (0, 11, 18, 21)) rfl (fun z hz => by rw [List.mem_singleton.mp hz]; exact Or.inr ⟨by decide, mw_397, rfl⟩) _ rfl rfl (by decide) mw_398 mw_314 ?_
    show mT _ _ _ _ 18 [.ref 0, .int row, .int key, .ref 38, .double 0] [.float 0] _ _ _ _
    refine mp_astore dL_count_18 (ls' := [.ref 0, .int row, .int key, .ref 38, .float 0]) rfl rfl (by decide) rfl ?_
    refine mt_iconst dL_count_20 (v := nI 2) rfl ?_
    refine mt_ireturn dL_count_21 rfl rfl (by simp only [rX2_count, rL_count]; omega) (by simp only [rX2_count, rL_count]; omega) ?_
    exact ⟨by rw [hk], rfl, by rw [if_neg (by rw [hk]; decide)]; exact C, ⟨_, O, fun z => absurd (hk.symm.trans z) (by decide)⟩, fun j j1 j2 => rfl⟩
set_option maxRecDepth 100000 in
theorem kL_count {l : Launch} (hl : l.stackTraces = false) {h : mH} {n : Nat} {S : cS} {row : Int32} {key : Int32} {y : Int64} {s : Value} (C : cAt h S) (O : h 38 = .inr (.inr (5, [.long y, s]))) : mC l mL_count rL_count [.ref 0, .int row, .int key, .ref 38] h n (lOk (sp_count S row key).1 S (sp_count S row key) s h n) mNX := by
  refine mm_enterH hl (by decide +kernel) (by intro hh; cases hh) rfl rfl (Nat.le_of_ble_eq_true rfl) ?_
  show mT _ _ _ _ 0 [.ref 0, .int row, .int key, .ref 38, .double 0] [] _ _ 0 0
  refine mt_aload_n dL_count_0 rfl rfl ?_
  refine mt_aload_n dL_count_1 rfl rfl ?_
  refine mt_iload_n dL_count_2 rfl ?_
  refine mt_iload_n dL_count_3 rfl ?_
  refine mt_callV (N := mX2_count) (Rc := rX2_count) (As := [.int row, .int key]) (st := [.ref 38]) dL_count_4 (kX2_count hl C) sX2_count mw_954 mKX2 rfl C.1 rfl (Nat.le_of_ble_eq_true rfl) ⟨⟨Nat.le_of_ble_eq_true rfl, Nat.le_of_ble_eq_true rfl⟩, (by simp only [rX2_count, rL_count]; omega), (by simp only [rX2_count, rL_count]; omega)⟩ (fun v1 h2 n3 c4 => ?_) (fun E h9 n9 hx => tL_count_x C O hx)
  obtain ⟨c40, c4a, c4b, c4c, c4d⟩ := c4
  have z := oi_count (S := S) (row := row) (key := key)
  obtain ⟨x, hx⟩ : vI (sp_count S row key).2.1 := by rcases z with ⟨-, z⟩ | ⟨z, -⟩ | ⟨z, -⟩ <;> first | exact z | (rw [c40] at z; cases z)
  rw [hx] at c4a; rw [c4a, c4b]
  show mT _ _ _ _ 7 [.ref 0, .int row, .int key, .ref 38, .double 0] [.int x, .ref 38] _ _ _ _
  refine mt_i2l dL_count_7 ?_
  refine mp_putfieldN mKX3 (i := 0) (fs' := [.long ((x).toInt64), s]) (by decide) mw_387 rfl dL_count_8 ((c4d 38 (by omega)).trans O) (Nat.le_of_ble_eq_true rfl) rfl rfl (fun h5 e6 f7 => ?_)
  refine mt_goto dL_count_11 (tgt := 22) rfl ?_
  refine mt_iconst dL_count_22 (v := nI 0) rfl ?_
  refine mt_ireturn dL_count_23 rfl rfl (by simp only [rX2_count, rL_count]; omega) (by simp only [rX2_count, rL_count]; omega) ?_
  exact ⟨by rw [c40], rfl, by rw [if_pos c40]; exact cAt.fr2 c4c (fun j hj => f7 j (by omega)), ⟨_, e6, fun _ x9 zx => by rw [hx] at zx; cases zx; rfl⟩, fun j j1 j2 => (f7 j (by omega)).trans (c4d j j1)⟩
theorem oi_below {S : cS} {row : Int32} {key : Int32} : oI vI true true (sp_below S row key) := by
  unfold sp_below
  repeat' first | exact Or.inl ⟨rfl, _, rfl⟩ | exact Or.inr (Or.inr ⟨rfl, rfl⟩) | exact Or.inr (Or.inl ⟨rfl, rfl⟩) | refine dAt_o (fun r => ?_) | refine dArg_o (fun r => ?_) | refine dFit_o ?_ | refine dB_o (fun r => ?_) | refine dKeep_o (fun p t => ?_) | split
abbrev rL_below : Room := { frames := 9, cells := 2, slots := 12, locals := 153 }
set_option maxRecDepth 100000 in
theorem tL_below_x {l : Launch} {h : mH} {n : Nat} {S : cS} {row : Int32} {key : Int32} {y : Int64} {s : Value} (C : cAt h S) (O : h 38 = .inr (.inr (5, [.long y, s]))) {E : String} {h1 : mH} {n1 : Nat} (hx : cNo (sp_below S row key).1 h n E h1 n1) : mTX l mL_below rL_below (mKo rL_below (lOk (sp_below S row key).1 S (sp_below S row key) s h n) mNX) 4 [.ref 0, .int row, .int key, .ref 38, .double 0] E h1 n1 (0 + rX2_below.cells) (0 + rX2_below.slots) := by
  obtain ⟨hE, rfl, rfl⟩ := hx
  rcases hE with ⟨rfl, hk⟩ | ⟨rfl, hk⟩
  · refine mt_catch (nm := "java/lang/IndexOutOfBoundsException") (pre := []) (suf := [(0, 11, 18, 21)]) (x := (0, 11, 14, 19)) rfl (fun z hz => by cases hz) _ rfl rfl (by decide) mw_397 mw_236 ?_
    show mT _ _ _ _ 14 [.ref 0, .int row, .int key, .ref 38, .double 0] [.float 0] _ _ _ _
    refine mp_astore dL_below_14 (ls' := [.ref 0, .int row, .int key, .ref 38, .float 0]) rfl rfl (by decide) rfl ?_
    refine mt_iconst dL_below_16 (v := nI 1) rfl ?_
    refine mt_ireturn dL_below_17 rfl rfl (by simp only [rX2_below, rL_below]; omega) (by simp only [rX2_below, rL_below]; omega) ?_
    exact ⟨by rw [hk], rfl, by rw [if_neg (by rw [hk]; decide)]; exact C, ⟨_, O, fun z => absurd (hk.symm.trans z) (by decide)⟩, fun j j1 j2 => rfl⟩
  · refine mt_catch (nm := "java/lang/IllegalArgumentException") (pre := [(0, 11, 14, 19)]) (suf := []) (x := (0, 11, 18, 21)) rfl (fun z hz => by rw [List.mem_singleton.mp hz]; exact Or.inr ⟨by decide, mw_397, rfl⟩) _ rfl rfl (by decide) mw_398 mw_314 ?_
    show mT _ _ _ _ 18 [.ref 0, .int row, .int key, .ref 38, .double 0] [.float 0] _ _ _ _
    refine mp_astore dL_below_18 (ls' := [.ref 0, .int row, .int key, .ref 38, .float 0]) rfl rfl (by decide) rfl ?_
    refine mt_iconst dL_below_20 (v := nI 2) rfl ?_
    refine mt_ireturn dL_below_21 rfl rfl (by simp only [rX2_below, rL_below]; omega) (by simp only [rX2_below, rL_below]; omega) ?_
    exact ⟨by rw [hk], rfl, by rw [if_neg (by rw [hk]; decide)]; exact C, ⟨_, O, fun z => absurd (hk.symm.trans z) (by decide)⟩, fun j j1 j2 => rfl⟩
set_option maxRecDepth 100000 in
theorem kL_below {l : Launch} (hl : l.stackTraces = false) {h : mH} {n : Nat} {S : cS} {row : Int32} {key : Int32} {y : Int64} {s : Value} (C : cAt h S) (O : h 38 = .inr (.inr (5, [.long y, s]))) : mC l mL_below rL_below [.ref 0, .int row, .int key, .ref 38] h n (lOk (sp_below S row key).1 S (sp_below S row key) s h n) mNX := by
  refine mm_enterH hl (by decide +kernel) (by intro hh; cases hh) rfl rfl (Nat.le_of_ble_eq_true rfl) ?_
  show mT _ _ _ _ 0 [.ref 0, .int row, .int key, .ref 38, .double 0] [] _ _ 0 0
  refine mt_aload_n dL_below_0 rfl rfl ?_
  refine mt_aload_n dL_below_1 rfl rfl ?_
  refine mt_iload_n dL_below_2 rfl ?_
  refine mt_iload_n dL_below_3 rfl ?_
  refine mt_callV (N := mX2_below) (Rc := rX2_below) (As := [.int row, .int key]) (st := [.ref 38]) dL_below_4 (kX2_below hl C) sX2_below mw_965 mKX2 rfl C.1 rfl (Nat.le_of_ble_eq_true rfl) ⟨⟨Nat.le_of_ble_eq_true rfl, Nat.le_of_ble_eq_true rfl⟩, (by simp only [rX2_below, rL_below]; omega), (by simp only [rX2_below, rL_below]; omega)⟩ (fun v1 h2 n3 c4 => ?_) (fun E h9 n9 hx => tL_below_x C O hx)
  obtain ⟨c40, c4a, c4b, c4c, c4d⟩ := c4
  have z := oi_below (S := S) (row := row) (key := key)
  obtain ⟨x, hx⟩ : vI (sp_below S row key).2.1 := by rcases z with ⟨-, z⟩ | ⟨z, -⟩ | ⟨z, -⟩ <;> first | exact z | (rw [c40] at z; cases z)
  rw [hx] at c4a; rw [c4a, c4b]
  show mT _ _ _ _ 7 [.ref 0, .int row, .int key, .ref 38, .double 0] [.int x, .ref 38] _ _ _ _
  refine mt_i2l dL_below_7 ?_
  refine mp_putfieldN mKX3 (i := 0) (fs' := [.long ((x).toInt64), s]) (by decide) mw_387 rfl dL_below_8 ((c4d 38 (by omega)).trans O) (Nat.le_of_ble_eq_true rfl) rfl rfl (fun h5 e6 f7 => ?_)
  refine mt_goto dL_below_11 (tgt := 22) rfl ?_
  refine mt_iconst dL_below_22 (v := nI 0) rfl ?_
  refine mt_ireturn dL_below_23 rfl rfl (by simp only [rX2_below, rL_below]; omega) (by simp only [rX2_below, rL_below]; omega) ?_
  exact ⟨by rw [c40], rfl, by rw [if_pos c40]; exact cAt.fr2 c4c (fun j hj => f7 j (by omega)), ⟨_, e6, fun _ x9 zx => by rw [hx] at zx; cases zx; rfl⟩, fun j j1 j2 => (f7 j (by omega)).trans (c4d j j1)⟩
theorem oi_first {S : cS} {row : Int32} {key : Int32} {isLast : Bool} : oI vI true true (sp_first S row key isLast) := by
  unfold sp_first
  repeat' first | exact Or.inl ⟨rfl, _, rfl⟩ | exact Or.inr (Or.inr ⟨rfl, rfl⟩) | exact Or.inr (Or.inl ⟨rfl, rfl⟩) | refine dAt_o (fun r => ?_) | refine dArg_o (fun r => ?_) | refine dFit_o ?_ | refine dB_o (fun r => ?_) | refine dKeep_o (fun p t => ?_) | split
abbrev rL_first : Room := { frames := 9, cells := 2, slots := 12, locals := 154 }
set_option maxRecDepth 100000 in
theorem tL_first_x {l : Launch} {h : mH} {n : Nat} {S : cS} {row : Int32} {key : Int32} {isLast : Bool} {y : Int64} {s : Value} (C : cAt h S) (O : h 38 = .inr (.inr (5, [.long y, s]))) {E : String} {h1 : mH} {n1 : Nat} (hx : cNo (sp_first S row key isLast).1 h n E h1 n1) : mTX l mL_first rL_first (mKo rL_first (lOk (sp_first S row key isLast).1 S (sp_first S row key isLast) s h n) mNX) 6 [.ref 0, .int row, .int key, .int (mb (isLast)), .ref 38, .double 0] E h1 n1 (0 + rX2_first.cells) (0 + rX2_first.slots) := by
  obtain ⟨hE, rfl, rfl⟩ := hx
  rcases hE with ⟨rfl, hk⟩ | ⟨rfl, hk⟩
  · refine mt_catch (nm := "java/lang/IndexOutOfBoundsException") (pre := []) (suf := [(0, 13, 20, 21)]) (x := (0, 13, 16, 19)) rfl (fun z hz => by cases hz) _ rfl rfl (by decide) mw_397 mw_236 ?_
    show mT _ _ _ _ 16 [.ref 0, .int row, .int key, .int (mb (isLast)), .ref 38, .double 0] [.float 0] _ _ _ _
    refine mp_astore dL_first_16 (ls' := [.ref 0, .int row, .int key, .int (mb (isLast)), .ref 38, .float 0]) rfl rfl (by decide) rfl ?_
    refine mt_iconst dL_first_18 (v := nI 1) rfl ?_
    refine mt_ireturn dL_first_19 rfl rfl (by simp only [rX2_first, rL_first]; omega) (by simp only [rX2_first, rL_first]; omega) ?_
    exact ⟨by rw [hk], rfl, by rw [if_neg (by rw [hk]; decide)]; exact C, ⟨_, O, fun z => absurd (hk.symm.trans z) (by decide)⟩, fun j j1 j2 => rfl⟩
  · refine mt_catch (nm := "java/lang/IllegalArgumentException") (pre := [(0, 13, 16, 19)]) (suf := []) (x := (0, 13, 20, 21)) rfl (fun z hz => by rw [List.mem_singleton.mp hz]; exact Or.inr ⟨by decide, mw_397, rfl⟩) _ rfl rfl (by decide) mw_398 mw_314 ?_
    show mT _ _ _ _ 20 [.ref 0, .int row, .int key, .int (mb (isLast)), .ref 38, .double 0] [.float 0] _ _ _ _
    refine mp_astore dL_first_20 (ls' := [.ref 0, .int row, .int key, .int (mb (isLast)), .ref 38, .float 0]) rfl rfl (by decide) rfl ?_
    refine mt_iconst dL_first_22 (v := nI 2) rfl ?_
    refine mt_ireturn dL_first_23 rfl rfl (by simp only [rX2_first, rL_first]; omega) (by simp only [rX2_first, rL_first]; omega) ?_
    exact ⟨by rw [hk], rfl, by rw [if_neg (by rw [hk]; decide)]; exact C, ⟨_, O, fun z => absurd (hk.symm.trans z) (by decide)⟩, fun j j1 j2 => rfl⟩
set_option maxRecDepth 100000 in
theorem kL_first {l : Launch} (hl : l.stackTraces = false) {h : mH} {n : Nat} {S : cS} {row : Int32} {key : Int32} {isLast : Bool} {y : Int64} {s : Value} (C : cAt h S) (O : h 38 = .inr (.inr (5, [.long y, s]))) : mC l mL_first rL_first [.ref 0, .int row, .int key, .int (mb (isLast)), .ref 38] h n (lOk (sp_first S row key isLast).1 S (sp_first S row key isLast) s h n) mNX := by
  refine mm_enterH hl (by decide +kernel) (by intro hh; cases hh) rfl rfl (Nat.le_of_ble_eq_true rfl) ?_
  show mT _ _ _ _ 0 [.ref 0, .int row, .int key, .int (mb (isLast)), .ref 38, .double 0] [] _ _ 0 0
  refine mt_aload dL_first_0 rfl rfl ?_
  refine mt_aload_n dL_first_2 rfl rfl ?_
  refine mt_iload_n dL_first_3 rfl ?_
  refine mt_iload_n dL_first_4 rfl ?_
  refine mt_iload_n dL_first_5 rfl ?_
  refine mt_callV (N := mX2_first) (Rc := rX2_first) (As := [.int row, .int key, .int (mb (isLast))]) (st := [.ref 38]) dL_first_6 (kX2_first hl C) sX2_first mw_976 mKX2 rfl C.1 rfl (Nat.le_of_ble_eq_true rfl) ⟨⟨Nat.le_of_ble_eq_true rfl, Nat.le_of_ble_eq_true rfl⟩, (by simp only [rX2_first, rL_first]; omega), (by simp only [rX2_first, rL_first]; omega)⟩ (fun v1 h2 n3 c4 => ?_) (fun E h9 n9 hx => tL_first_x C O hx)
  obtain ⟨c40, c4a, c4b, c4c, c4d⟩ := c4
  have z := oi_first (S := S) (row := row) (key := key) (isLast := isLast)
  obtain ⟨x, hx⟩ : vI (sp_first S row key isLast).2.1 := by rcases z with ⟨-, z⟩ | ⟨z, -⟩ | ⟨z, -⟩ <;> first | exact z | (rw [c40] at z; cases z)
  rw [hx] at c4a; rw [c4a, c4b]
  show mT _ _ _ _ 9 [.ref 0, .int row, .int key, .int (mb (isLast)), .ref 38, .double 0] [.int x, .ref 38] _ _ _ _
  refine mt_i2l dL_first_9 ?_
  refine mp_putfieldN mKX3 (i := 0) (fs' := [.long ((x).toInt64), s]) (by decide) mw_387 rfl dL_first_10 ((c4d 38 (by omega)).trans O) (Nat.le_of_ble_eq_true rfl) rfl rfl (fun h5 e6 f7 => ?_)
  refine mt_goto dL_first_13 (tgt := 24) rfl ?_
  refine mt_iconst dL_first_24 (v := nI 0) rfl ?_
  refine mt_ireturn dL_first_25 rfl rfl (by simp only [rX2_first, rL_first]; omega) (by simp only [rX2_first, rL_first]; omega) ?_
  exact ⟨by rw [c40], rfl, by rw [if_pos c40]; exact cAt.fr2 c4c (fun j hj => f7 j (by omega)), ⟨_, e6, fun _ x9 zx => by rw [hx] at zx; cases zx; rfl⟩, fun j j1 j2 => (f7 j (by omega)).trans (c4d j j1)⟩
theorem oi_end {S : cS} {row : Int32} {isGreatest : Bool} : oI vI true false (sp_end S row isGreatest) := by
  unfold sp_end
  repeat' first | exact Or.inl ⟨rfl, _, rfl⟩ | exact Or.inr (Or.inr ⟨rfl, rfl⟩) | exact Or.inr (Or.inl ⟨rfl, rfl⟩) | refine dAt_o (fun r => ?_) | refine dArg_o (fun r => ?_) | refine dFit_o ?_ | refine dB_o (fun r => ?_) | refine dKeep_o (fun p t => ?_) | split
abbrev rL_end : Room := { frames := 8, cells := 1, slots := 6, locals := 134 }
set_option maxRecDepth 100000 in
theorem tL_end_x {l : Launch} {h : mH} {n : Nat} {S : cS} {row : Int32} {isGreatest : Bool} {y : Int64} {s : Value} (C : cAt h S) (O : h 38 = .inr (.inr (5, [.long y, s]))) {E : String} {h1 : mH} {n1 : Nat} (hx : cNo (sp_end S row isGreatest).1 h n E h1 n1) : mTX l mL_end rL_end (mKo rL_end (lOk (sp_end S row isGreatest).1 S (sp_end S row isGreatest) s h n) mNX) 4 [.ref 0, .int row, .int (mb (isGreatest)), .ref 38, .double 0] E h1 n1 (0 + rX2_end.cells) (0 + rX2_end.slots) := by
  obtain ⟨hE, rfl, rfl⟩ := hx
  rcases hE with ⟨rfl, hk⟩ | ⟨rfl, hk⟩
  · refine mt_catch (nm := "java/lang/IndexOutOfBoundsException") (pre := []) (suf := []) (x := (0, 11, 14, 19)) rfl (fun z hz => by cases hz) _ rfl rfl (by decide) mw_397 mw_236 ?_
    show mT _ _ _ _ 14 [.ref 0, .int row, .int (mb (isGreatest)), .ref 38, .double 0] [.float 0] _ _ _ _
    refine mp_astore dL_end_14 (ls' := [.ref 0, .int row, .int (mb (isGreatest)), .ref 38, .float 0]) rfl rfl (by decide) rfl ?_
    refine mt_iconst dL_end_16 (v := nI 1) rfl ?_
    refine mt_ireturn dL_end_17 rfl rfl (by simp only [rX2_end, rL_end]; omega) (by simp only [rX2_end, rL_end]; omega) ?_
    exact ⟨by rw [hk], rfl, by rw [if_neg (by rw [hk]; decide)]; exact C, ⟨_, O, fun z => absurd (hk.symm.trans z) (by decide)⟩, fun j j1 j2 => rfl⟩
  · have z := oi_end (S := S) (row := row) (isGreatest := isGreatest)
    rcases z with ⟨z, -⟩ | ⟨z, z2⟩ | ⟨z, z2⟩
    · rw [hk] at z; cases z
    · first | (rw [hk] at z; cases z; done) | cases z2
    · first | (rw [hk] at z; cases z; done) | cases z2
set_option maxRecDepth 100000 in
theorem kL_end {l : Launch} (hl : l.stackTraces = false) {h : mH} {n : Nat} {S : cS} {row : Int32} {isGreatest : Bool} {y : Int64} {s : Value} (C : cAt h S) (O : h 38 = .inr (.inr (5, [.long y, s]))) : mC l mL_end rL_end [.ref 0, .int row, .int (mb (isGreatest)), .ref 38] h n (lOk (sp_end S row isGreatest).1 S (sp_end S row isGreatest) s h n) mNX := by
  refine mm_enterH hl (by decide +kernel) (by intro hh; cases hh) rfl rfl (Nat.le_of_ble_eq_true rfl) ?_
  show mT _ _ _ _ 0 [.ref 0, .int row, .int (mb (isGreatest)), .ref 38, .double 0] [] _ _ 0 0
  refine mt_aload_n dL_end_0 rfl rfl ?_
  refine mt_aload_n dL_end_1 rfl rfl ?_
  refine mt_iload_n dL_end_2 rfl ?_
  refine mt_iload_n dL_end_3 rfl ?_
  refine mt_callV (N := mX2_end) (Rc := rX2_end) (As := [.int row, .int (mb (isGreatest))]) (st := [.ref 38]) dL_end_4 (kX2_end hl C) sX2_end mw_991 mKX2 rfl C.1 rfl (Nat.le_of_ble_eq_true rfl) ⟨⟨Nat.le_of_ble_eq_true rfl, Nat.le_of_ble_eq_true rfl⟩, (by simp only [rX2_end, rL_end]; omega), (by simp only [rX2_end, rL_end]; omega)⟩ (fun v1 h2 n3 c4 => ?_) (fun E h9 n9 hx => tL_end_x C O hx)
  obtain ⟨c40, c4a, c4b, c4c, c4d⟩ := c4
  have z := oi_end (S := S) (row := row) (isGreatest := isGreatest)
  obtain ⟨x, hx⟩ : vI (sp_end S row isGreatest).2.1 := by rcases z with ⟨-, z⟩ | ⟨z, -⟩ | ⟨z, -⟩ <;> first | exact z | (rw [c40] at z; cases z)
  rw [hx] at c4a; rw [c4a, c4b]
  show mT _ _ _ _ 7 [.ref 0, .int row, .int (mb (isGreatest)), .ref 38, .double 0] [.int x, .ref 38] _ _ _ _
  refine mt_i2l dL_end_7 ?_
  refine mp_putfieldN mKX3 (i := 0) (fs' := [.long ((x).toInt64), s]) (by decide) mw_387 rfl dL_end_8 ((c4d 38 (by omega)).trans O) (Nat.le_of_ble_eq_true rfl) rfl rfl (fun h5 e6 f7 => ?_)
  refine mt_goto dL_end_11 (tgt := 18) rfl ?_
  refine mt_iconst dL_end_18 (v := nI 0) rfl ?_
  refine mt_ireturn dL_end_19 rfl rfl (by simp only [rX2_end, rL_end]; omega) (by simp only [rX2_end, rL_end]; omega) ?_
  exact ⟨by rw [c40], rfl, by rw [if_pos c40]; exact cAt.fr2 c4c (fun j hj => f7 j (by omega)), ⟨_, e6, fun _ x9 zx => by rw [hx] at zx; cases zx; rfl⟩, fun j j1 j2 => (f7 j (by omega)).trans (c4d j j1)⟩
theorem oi_unlike {S : cS} {row : Int32} : oI vI true false (sp_unlike S row) := by
  unfold sp_unlike
  repeat' first | exact Or.inl ⟨rfl, _, rfl⟩ | exact Or.inr (Or.inr ⟨rfl, rfl⟩) | exact Or.inr (Or.inl ⟨rfl, rfl⟩) | refine dAt_o (fun r => ?_) | refine dArg_o (fun r => ?_) | refine dFit_o ?_ | refine dB_o (fun r => ?_) | refine dKeep_o (fun p t => ?_) | split
abbrev rL_unlike : Room := { frames := 8, cells := 1, slots := 6, locals := 144 }
set_option maxRecDepth 100000 in
theorem tL_unlike_x {l : Launch} {h : mH} {n : Nat} {S : cS} {row : Int32} {y : Int64} {s : Value} (C : cAt h S) (O : h 38 = .inr (.inr (5, [.long y, s]))) {E : String} {h1 : mH} {n1 : Nat} (hx : cNo (sp_unlike S row).1 h n E h1 n1) : mTX l mL_unlike rL_unlike (mKo rL_unlike (lOk (sp_unlike S row).1 S (sp_unlike S row) s h n) mNX) 3 [.ref 0, .int row, .ref 38, .double 0] E h1 n1 (0 + rX2_unlike.cells) (0 + rX2_unlike.slots) := by
  obtain ⟨hE, rfl, rfl⟩ := hx
  rcases hE with ⟨rfl, hk⟩ | ⟨rfl, hk⟩
  · refine mt_catch (nm := "java/lang/IndexOutOfBoundsException") (pre := []) (suf := []) (x := (0, 10, 13, 19)) rfl (fun z hz => by cases hz) _ rfl rfl (by decide) mw_397 mw_236 ?_
    show mT _ _ _ _ 13 [.ref 0, .int row, .ref 38, .double 0] [.float 0] _ _ _ _
    refine mp_astore_n dL_unlike_13 (ls' := [.ref 0, .int row, .ref 38, .float 0]) rfl rfl (by decide) rfl ?_
    refine mt_iconst dL_unlike_14 (v := nI 1) rfl ?_
    refine mt_ireturn dL_unlike_15 rfl rfl (by simp only [rX2_unlike, rL_unlike]; omega) (by simp only [rX2_unlike, rL_unlike]; omega) ?_
    exact ⟨by rw [hk], rfl, by rw [if_neg (by rw [hk]; decide)]; exact C, ⟨_, O, fun z => absurd (hk.symm.trans z) (by decide)⟩, fun j j1 j2 => rfl⟩
  · have z := oi_unlike (S := S) (row := row)
    rcases z with ⟨z, -⟩ | ⟨z, z2⟩ | ⟨z, z2⟩
    · rw [hk] at z; cases z
    · first | (rw [hk] at z; cases z; done) | cases z2
    · first | (rw [hk] at z; cases z; done) | cases z2
set_option maxRecDepth 100000 in
theorem kL_unlike {l : Launch} (hl : l.stackTraces = false) {h : mH} {n : Nat} {S : cS} {row : Int32} {y : Int64} {s : Value} (C : cAt h S) (O : h 38 = .inr (.inr (5, [.long y, s]))) : mC l mL_unlike rL_unlike [.ref 0, .int row, .ref 38] h n (lOk (sp_unlike S row).1 S (sp_unlike S row) s h n) mNX := by
  refine mm_enterH hl (by decide +kernel) (by intro hh; cases hh) rfl rfl (Nat.le_of_ble_eq_true rfl) ?_
  show mT _ _ _ _ 0 [.ref 0, .int row, .ref 38, .double 0] [] _ _ 0 0
  refine mt_aload_n dL_unlike_0 rfl rfl ?_
  refine mt_aload_n dL_unlike_1 rfl rfl ?_
  refine mt_iload_n dL_unlike_2 rfl ?_
  refine mt_callV (N := mX2_unlike) (Rc := rX2_unlike) (As := [.int row]) (st := [.ref 38]) dL_unlike_3 (kX2_unlike hl C) sX2_unlike mw_1007 mKX2 rfl C.1 rfl (Nat.le_of_ble_eq_true rfl) ⟨⟨Nat.le_of_ble_eq_true rfl, Nat.le_of_ble_eq_true rfl⟩, (by simp only [rX2_unlike, rL_unlike]; omega), (by simp only [rX2_unlike, rL_unlike]; omega)⟩ (fun v1 h2 n3 c4 => ?_) (fun E h9 n9 hx => tL_unlike_x C O hx)
  obtain ⟨c40, c4a, c4b, c4c, c4d⟩ := c4
  have z := oi_unlike (S := S) (row := row)
  obtain ⟨x, hx⟩ : vI (sp_unlike S row).2.1 := by rcases z with ⟨-, z⟩ | ⟨z, -⟩ | ⟨z, -⟩ <;> first | exact z | (rw [c40] at z; cases z)
  rw [hx] at c4a; rw [c4a, c4b]
  show mT _ _ _ _ 6 [.ref 0, .int row, .ref 38, .double 0] [.int x, .ref 38] _ _ _ _
  refine mt_i2l dL_unlike_6 ?_
  refine mp_putfieldN mKX3 (i := 0) (fs' := [.long ((x).toInt64), s]) (by decide) mw_387 rfl dL_unlike_7 ((c4d 38 (by omega)).trans O) (Nat.le_of_ble_eq_true rfl) rfl rfl (fun h5 e6 f7 => ?_)
  refine mt_goto dL_unlike_10 (tgt := 16) rfl ?_
  refine mt_iconst dL_unlike_16 (v := nI 0) rfl ?_
  refine mt_ireturn dL_unlike_17 rfl rfl (by simp only [rX2_unlike, rL_unlike]; omega) (by simp only [rX2_unlike, rL_unlike]; omega) ?_
  exact ⟨by rw [c40], rfl, by rw [if_pos c40]; exact cAt.fr2 c4c (fun j hj => f7 j (by omega)), ⟨_, e6, fun _ x9 zx => by rw [hx] at zx; cases zx; rfl⟩, fun j j1 j2 => (f7 j (by omega)).trans (c4d j j1)⟩
theorem oi_most {S : cS} {row : Int32} : oI vI true false (sp_most S row) := by
  unfold sp_most
  repeat' first | exact Or.inl ⟨rfl, _, rfl⟩ | exact Or.inr (Or.inr ⟨rfl, rfl⟩) | exact Or.inr (Or.inl ⟨rfl, rfl⟩) | refine dAt_o (fun r => ?_) | refine dArg_o (fun r => ?_) | refine dFit_o ?_ | refine dB_o (fun r => ?_) | refine dKeep_o (fun p t => ?_) | split
abbrev rL_most : Room := { frames := 8, cells := 1, slots := 6, locals := 144 }
set_option maxRecDepth 100000 in
theorem tL_most_x {l : Launch} {h : mH} {n : Nat} {S : cS} {row : Int32} {y : Int64} {s : Value} (C : cAt h S) (O : h 38 = .inr (.inr (5, [.long y, s]))) {E : String} {h1 : mH} {n1 : Nat} (hx : cNo (sp_most S row).1 h n E h1 n1) : mTX l mL_most rL_most (mKo rL_most (lOk (sp_most S row).1 S (sp_most S row) s h n) mNX) 3 [.ref 0, .int row, .ref 38, .double 0] E h1 n1 (0 + rX2_most.cells) (0 + rX2_most.slots) := by
  obtain ⟨hE, rfl, rfl⟩ := hx
  rcases hE with ⟨rfl, hk⟩ | ⟨rfl, hk⟩
  · refine mt_catch (nm := "java/lang/IndexOutOfBoundsException") (pre := []) (suf := []) (x := (0, 10, 13, 19)) rfl (fun z hz => by cases hz) _ rfl rfl (by decide) mw_397 mw_236 ?_
    show mT _ _ _ _ 13 [.ref 0, .int row, .ref 38, .double 0] [.float 0] _ _ _ _
    refine mp_astore_n dL_most_13 (ls' := [.ref 0, .int row, .ref 38, .float 0]) rfl rfl (by decide) rfl ?_
    refine mt_iconst dL_most_14 (v := nI 1) rfl ?_
    refine mt_ireturn dL_most_15 rfl rfl (by simp only [rX2_most, rL_most]; omega) (by simp only [rX2_most, rL_most]; omega) ?_
    exact ⟨by rw [hk], rfl, by rw [if_neg (by rw [hk]; decide)]; exact C, ⟨_, O, fun z => absurd (hk.symm.trans z) (by decide)⟩, fun j j1 j2 => rfl⟩
  · have z := oi_most (S := S) (row := row)
    rcases z with ⟨z, -⟩ | ⟨z, z2⟩ | ⟨z, z2⟩
    · rw [hk] at z; cases z
    · first | (rw [hk] at z; cases z; done) | cases z2
    · first | (rw [hk] at z; cases z; done) | cases z2
set_option maxRecDepth 100000 in
theorem kL_most {l : Launch} (hl : l.stackTraces = false) {h : mH} {n : Nat} {S : cS} {row : Int32} {y : Int64} {s : Value} (C : cAt h S) (O : h 38 = .inr (.inr (5, [.long y, s]))) : mC l mL_most rL_most [.ref 0, .int row, .ref 38] h n (lOk (sp_most S row).1 S (sp_most S row) s h n) mNX := by
  refine mm_enterH hl (by decide +kernel) (by intro hh; cases hh) rfl rfl (Nat.le_of_ble_eq_true rfl) ?_
  show mT _ _ _ _ 0 [.ref 0, .int row, .ref 38, .double 0] [] _ _ 0 0
  refine mt_aload_n dL_most_0 rfl rfl ?_
  refine mt_aload_n dL_most_1 rfl rfl ?_
  refine mt_iload_n dL_most_2 rfl ?_
  refine mt_callV (N := mX2_most) (Rc := rX2_most) (As := [.int row]) (st := [.ref 38]) dL_most_3 (kX2_most hl C) sX2_most mw_1011 mKX2 rfl C.1 rfl (Nat.le_of_ble_eq_true rfl) ⟨⟨Nat.le_of_ble_eq_true rfl, Nat.le_of_ble_eq_true rfl⟩, (by simp only [rX2_most, rL_most]; omega), (by simp only [rX2_most, rL_most]; omega)⟩ (fun v1 h2 n3 c4 => ?_) (fun E h9 n9 hx => tL_most_x C O hx)
  obtain ⟨c40, c4a, c4b, c4c, c4d⟩ := c4
  have z := oi_most (S := S) (row := row)
  obtain ⟨x, hx⟩ : vI (sp_most S row).2.1 := by rcases z with ⟨-, z⟩ | ⟨z, -⟩ | ⟨z, -⟩ <;> first | exact z | (rw [c40] at z; cases z)
  rw [hx] at c4a; rw [c4a, c4b]
  show mT _ _ _ _ 6 [.ref 0, .int row, .ref 38, .double 0] [.int x, .ref 38] _ _ _ _
  refine mt_i2l dL_most_6 ?_
  refine mp_putfieldN mKX3 (i := 0) (fs' := [.long ((x).toInt64), s]) (by decide) mw_387 rfl dL_most_7 ((c4d 38 (by omega)).trans O) (Nat.le_of_ble_eq_true rfl) rfl rfl (fun h5 e6 f7 => ?_)
  refine mt_goto dL_most_10 (tgt := 16) rfl ?_
  refine mt_iconst dL_most_16 (v := nI 0) rfl ?_
  refine mt_ireturn dL_most_17 rfl rfl (by simp only [rX2_most, rL_most]; omega) (by simp only [rX2_most, rL_most]; omega) ?_
  exact ⟨by rw [c40], rfl, by rw [if_pos c40]; exact cAt.fr2 c4c (fun j hj => f7 j (by omega)), ⟨_, e6, fun _ x9 zx => by rw [hx] at zx; cases zx; rfl⟩, fun j j1 j2 => (f7 j (by omega)).trans (c4d j j1)⟩
theorem oi_sum {S : cS} {row : Int32} : oI vI true false (sp_sum S row) := by
  unfold sp_sum
  repeat' first | exact Or.inl ⟨rfl, _, rfl⟩ | exact Or.inr (Or.inr ⟨rfl, rfl⟩) | exact Or.inr (Or.inl ⟨rfl, rfl⟩) | refine dAt_o (fun r => ?_) | refine dArg_o (fun r => ?_) | refine dFit_o ?_ | refine dB_o (fun r => ?_) | refine dKeep_o (fun p t => ?_) | split
abbrev rL_sum : Room := { frames := 8, cells := 1, slots := 6, locals := 132 }
set_option maxRecDepth 100000 in
theorem tL_sum_x {l : Launch} {h : mH} {n : Nat} {S : cS} {row : Int32} {y : Int64} {s : Value} (C : cAt h S) (O : h 38 = .inr (.inr (5, [.long y, s]))) {E : String} {h1 : mH} {n1 : Nat} (hx : cNo (sp_sum S row).1 h n E h1 n1) : mTX l mL_sum rL_sum (mKo rL_sum (lOk (sp_sum S row).1 S (sp_sum S row) s h n) mNX) 3 [.ref 0, .int row, .ref 38, .double 0] E h1 n1 (0 + rX2_sum.cells) (0 + rX2_sum.slots) := by
  obtain ⟨hE, rfl, rfl⟩ := hx
  rcases hE with ⟨rfl, hk⟩ | ⟨rfl, hk⟩
  · refine mt_catch (nm := "java/lang/IndexOutOfBoundsException") (pre := []) (suf := []) (x := (0, 10, 13, 19)) rfl (fun z hz => by cases hz) _ rfl rfl (by decide) mw_397 mw_236 ?_
    show mT _ _ _ _ 13 [.ref 0, .int row, .ref 38, .double 0] [.float 0] _ _ _ _
    refine mp_astore_n dL_sum_13 (ls' := [.ref 0, .int row, .ref 38, .float 0]) rfl rfl (by decide) rfl ?_
    refine mt_iconst dL_sum_14 (v := nI 1) rfl ?_
    refine mt_ireturn dL_sum_15 rfl rfl (by simp only [rX2_sum, rL_sum]; omega) (by simp only [rX2_sum, rL_sum]; omega) ?_
    exact ⟨by rw [hk], rfl, by rw [if_neg (by rw [hk]; decide)]; exact C, ⟨_, O, fun z => absurd (hk.symm.trans z) (by decide)⟩, fun j j1 j2 => rfl⟩
  · have z := oi_sum (S := S) (row := row)
    rcases z with ⟨z, -⟩ | ⟨z, z2⟩ | ⟨z, z2⟩
    · rw [hk] at z; cases z
    · first | (rw [hk] at z; cases z; done) | cases z2
    · first | (rw [hk] at z; cases z; done) | cases z2
set_option maxRecDepth 100000 in
theorem kL_sum {l : Launch} (hl : l.stackTraces = false) {h : mH} {n : Nat} {S : cS} {row : Int32} {y : Int64} {s : Value} (C : cAt h S) (O : h 38 = .inr (.inr (5, [.long y, s]))) : mC l mL_sum rL_sum [.ref 0, .int row, .ref 38] h n (lOk (sp_sum S row).1 S (sp_sum S row) s h n) mNX := by
  refine mm_enterH hl (by decide +kernel) (by intro hh; cases hh) rfl rfl (Nat.le_of_ble_eq_true rfl) ?_
  show mT _ _ _ _ 0 [.ref 0, .int row, .ref 38, .double 0] [] _ _ 0 0
  refine mt_aload_n dL_sum_0 rfl rfl ?_
  refine mt_aload_n dL_sum_1 rfl rfl ?_
  refine mt_iload_n dL_sum_2 rfl ?_
  refine mt_callV (N := mX2_sum) (Rc := rX2_sum) (As := [.int row]) (st := [.ref 38]) dL_sum_3 (kX2_sum hl C) sX2_sum mw_1022 mKX2 rfl C.1 rfl (Nat.le_of_ble_eq_true rfl) ⟨⟨Nat.le_of_ble_eq_true rfl, Nat.le_of_ble_eq_true rfl⟩, (by simp only [rX2_sum, rL_sum]; omega), (by simp only [rX2_sum, rL_sum]; omega)⟩ (fun v1 h2 n3 c4 => ?_) (fun E h9 n9 hx => tL_sum_x C O hx)
  obtain ⟨c40, c4a, c4b, c4c, c4d⟩ := c4
  have z := oi_sum (S := S) (row := row)
  obtain ⟨x, hx⟩ : vI (sp_sum S row).2.1 := by rcases z with ⟨-, z⟩ | ⟨z, -⟩ | ⟨z, -⟩ <;> first | exact z | (rw [c40] at z; cases z)
  rw [hx] at c4a; rw [c4a, c4b]
  show mT _ _ _ _ 6 [.ref 0, .int row, .ref 38, .double 0] [.int x, .ref 38] _ _ _ _
  refine mt_i2l dL_sum_6 ?_
  refine mp_putfieldN mKX3 (i := 0) (fs' := [.long ((x).toInt64), s]) (by decide) mw_387 rfl dL_sum_7 ((c4d 38 (by omega)).trans O) (Nat.le_of_ble_eq_true rfl) rfl rfl (fun h5 e6 f7 => ?_)
  refine mt_goto dL_sum_10 (tgt := 16) rfl ?_
  refine mt_iconst dL_sum_16 (v := nI 0) rfl ?_
  refine mt_ireturn dL_sum_17 rfl rfl (by simp only [rX2_sum, rL_sum]; omega) (by simp only [rX2_sum, rL_sum]; omega) ?_
  exact ⟨by rw [c40], rfl, by rw [if_pos c40]; exact cAt.fr2 c4c (fun j hj => f7 j (by omega)), ⟨_, e6, fun _ x9 zx => by rw [hx] at zx; cases zx; rfl⟩, fun j j1 j2 => (f7 j (by omega)).trans (c4d j j1)⟩
theorem oi_same {S : cS} {row : Int32} {other : Int32} : oI vB true false (sp_same S row other) := by
  unfold sp_same
  repeat' first | exact Or.inl ⟨rfl, _, rfl⟩ | exact Or.inr (Or.inr ⟨rfl, rfl⟩) | exact Or.inr (Or.inl ⟨rfl, rfl⟩) | refine dAt_o (fun r => ?_) | refine dArg_o (fun r => ?_) | refine dFit_o ?_ | refine dB_o (fun r => ?_) | refine dKeep_o (fun p t => ?_) | split
abbrev rL_same : Room := { frames := 8, cells := 2, slots := 12, locals := 135 }
set_option maxRecDepth 100000 in
theorem tL_same_x {l : Launch} {h : mH} {n : Nat} {S : cS} {row : Int32} {other : Int32} {y : Int64} {s : Value} (C : cAt h S) (O : h 38 = .inr (.inr (5, [.long y, s]))) {E : String} {h1 : mH} {n1 : Nat} (hx : cNo (sp_same S row other).1 h n E h1 n1) : mTX l mL_same rL_same (mKo rL_same (lOk (sp_same S row other).1 S (sp_same S row other) s h n) mNX) 4 [.ref 0, .int row, .int other, .ref 38, .double 0] E h1 n1 (0 + rX2_same.cells) (0 + rX2_same.slots) := by
  obtain ⟨hE, rfl, rfl⟩ := hx
  rcases hE with ⟨rfl, hk⟩ | ⟨rfl, hk⟩
  · refine mt_catch (nm := "java/lang/IndexOutOfBoundsException") (pre := []) (suf := []) (x := (0, 18, 21, 19)) rfl (fun z hz => by cases hz) _ rfl rfl (by decide) mw_397 mw_236 ?_
    show mT _ _ _ _ 21 [.ref 0, .int row, .int other, .ref 38, .double 0] [.float 0] _ _ _ _
    refine mp_astore dL_same_21 (ls' := [.ref 0, .int row, .int other, .ref 38, .float 0]) rfl rfl (by decide) rfl ?_
    refine mt_iconst dL_same_23 (v := nI 1) rfl ?_
    refine mt_ireturn dL_same_24 rfl rfl (by simp only [rX2_same, rL_same]; omega) (by simp only [rX2_same, rL_same]; omega) ?_
    exact ⟨by rw [hk], rfl, by rw [if_neg (by rw [hk]; decide)]; exact C, ⟨_, O, fun z => absurd (hk.symm.trans z) (by decide)⟩, fun j j1 j2 => rfl⟩
  · have z := oi_same (S := S) (row := row) (other := other)
    rcases z with ⟨z, -⟩ | ⟨z, z2⟩ | ⟨z, z2⟩
    · rw [hk] at z; cases z
    · first | (rw [hk] at z; cases z; done) | cases z2
    · first | (rw [hk] at z; cases z; done) | cases z2
set_option maxRecDepth 100000 in
theorem kL_same {l : Launch} (hl : l.stackTraces = false) {h : mH} {n : Nat} {S : cS} {row : Int32} {other : Int32} {y : Int64} {s : Value} (C : cAt h S) (O : h 38 = .inr (.inr (5, [.long y, s]))) : mC l mL_same rL_same [.ref 0, .int row, .int other, .ref 38] h n (lOk (sp_same S row other).1 S (sp_same S row other) s h n) mNX := by
  refine mm_enterH hl (by decide +kernel) (by intro hh; cases hh) rfl rfl (Nat.le_of_ble_eq_true rfl) ?_
  show mT _ _ _ _ 0 [.ref 0, .int row, .int other, .ref 38, .double 0] [] _ _ 0 0
  refine mt_aload_n dL_same_0 rfl rfl ?_
  refine mt_aload_n dL_same_1 rfl rfl ?_
  refine mt_iload_n dL_same_2 rfl ?_
  refine mt_iload_n dL_same_3 rfl ?_
  refine mt_callV (N := mX2_same) (Rc := rX2_same) (As := [.int row, .int other]) (st := [.ref 38]) dL_same_4 (kX2_same hl C) sX2_same mw_1026 mKX2 rfl C.1 rfl (Nat.le_of_ble_eq_true rfl) ⟨⟨Nat.le_of_ble_eq_true rfl, Nat.le_of_ble_eq_true rfl⟩, (by simp only [rX2_same, rL_same]; omega), (by simp only [rX2_same, rL_same]; omega)⟩ (fun v1 h2 n3 c4 => ?_) (fun E h9 n9 hx => tL_same_x C O hx)
  obtain ⟨c40, c4a, c4b, c4c, c4d⟩ := c4
  have z := oi_same (S := S) (row := row) (other := other)
  obtain ⟨x, hx⟩ : vB (sp_same S row other).2.1 := by rcases z with ⟨-, z⟩ | ⟨z, -⟩ | ⟨z, -⟩ <;> first | exact z | (rw [c40] at z; cases z)
  rw [hx] at c4a; rw [c4a, c4b]
  show mT _ _ _ _ 7 [.ref 0, .int row, .int other, .ref 38, .double 0] [.int (mb (x)), .ref 38] _ _ _ _
  refine mt_if_eq dL_same_7 (tgt := 14) rfl (fun q5 => ?_) (fun q5 => ?_)
  · have q5 : x = false := mb_0.mp q5
    refine mt_lconst dL_same_14 (v := 0) rfl ?_
    refine mp_putfieldN mKX3 (i := 0) (fs' := [.long 0, s]) (by decide) mw_387 rfl dL_same_15 ((c4d 38 (by omega)).trans O) (Nat.le_of_ble_eq_true rfl) rfl rfl (fun h6 e7 f8 => ?_)
    refine mt_goto dL_same_18 (tgt := 25) rfl ?_
    refine mt_iconst dL_same_25 (v := nI 0) rfl ?_
    refine mt_ireturn dL_same_26 rfl rfl (by simp only [rX2_same, rL_same]; omega) (by simp only [rX2_same, rL_same]; omega) ?_
    exact ⟨by rw [c40], rfl, by rw [if_pos c40]; exact cAt.fr2 c4c (fun j hj => f8 j (by omega)), ⟨_, e7, fun _ x9 zx => by rw [hx] at zx; cases zx; rw [q5]; rfl⟩, fun j j1 j2 => (f8 j (by omega)).trans (c4d j j1)⟩
  · have q5 : x = true := mb_1.mp q5
    refine mt_lconst dL_same_10 (v := 1) rfl ?_
    refine mt_goto dL_same_11 (tgt := 15) rfl ?_
    refine mp_putfieldN mKX3 (i := 0) (fs' := [.long 1, s]) (by decide) mw_387 rfl dL_same_15 ((c4d 38 (by omega)).trans O) (Nat.le_of_ble_eq_true rfl) rfl rfl (fun h9 e10 f11 => ?_)
    refine mt_goto dL_same_18 (tgt := 25) rfl ?_
    refine mt_iconst dL_same_25 (v := nI 0) rfl ?_
    refine mt_ireturn dL_same_26 rfl rfl (by simp only [rX2_same, rL_same]; omega) (by simp only [rX2_same, rL_same]; omega) ?_
    exact ⟨by rw [c40], rfl, by rw [if_pos c40]; exact cAt.fr2 c4c (fun j hj => f11 j (by omega)), ⟨_, e10, fun _ x9 zx => by rw [hx] at zx; cases zx; rw [q5]; rfl⟩, fun j j1 j2 => (f11 j (by omega)).trans (c4d j j1)⟩
theorem oi_bag {S : cS} {row : Int32} {other : Int32} : oI vB true false (sp_bag S row other) := by
  unfold sp_bag
  repeat' first | exact Or.inl ⟨rfl, _, rfl⟩ | exact Or.inr (Or.inr ⟨rfl, rfl⟩) | exact Or.inr (Or.inl ⟨rfl, rfl⟩) | refine dAt_o (fun r => ?_) | refine dArg_o (fun r => ?_) | refine dFit_o ?_ | refine dB_o (fun r => ?_) | refine dKeep_o (fun p t => ?_) | split
abbrev rL_bag : Room := { frames := 8, cells := 2, slots := 12, locals := 147 }
set_option maxRecDepth 100000 in
theorem tL_bag_x {l : Launch} {h : mH} {n : Nat} {S : cS} {row : Int32} {other : Int32} {y : Int64} {s : Value} (C : cAt h S) (O : h 38 = .inr (.inr (5, [.long y, s]))) {E : String} {h1 : mH} {n1 : Nat} (hx : cNo (sp_bag S row other).1 h n E h1 n1) : mTX l mL_bag rL_bag (mKo rL_bag (lOk (sp_bag S row other).1 S (sp_bag S row other) s h n) mNX) 4 [.ref 0, .int row, .int other, .ref 38, .double 0] E h1 n1 (0 + rX2_bag.cells) (0 + rX2_bag.slots) := by
  obtain ⟨hE, rfl, rfl⟩ := hx
  rcases hE with ⟨rfl, hk⟩ | ⟨rfl, hk⟩
  · refine mt_catch (nm := "java/lang/IndexOutOfBoundsException") (pre := []) (suf := []) (x := (0, 18, 21, 19)) rfl (fun z hz => by cases hz) _ rfl rfl (by decide) mw_397 mw_236 ?_
    show mT _ _ _ _ 21 [.ref 0, .int row, .int other, .ref 38, .double 0] [.float 0] _ _ _ _
    refine mp_astore dL_bag_21 (ls' := [.ref 0, .int row, .int other, .ref 38, .float 0]) rfl rfl (by decide) rfl ?_
    refine mt_iconst dL_bag_23 (v := nI 1) rfl ?_
    refine mt_ireturn dL_bag_24 rfl rfl (by simp only [rX2_bag, rL_bag]; omega) (by simp only [rX2_bag, rL_bag]; omega) ?_
    exact ⟨by rw [hk], rfl, by rw [if_neg (by rw [hk]; decide)]; exact C, ⟨_, O, fun z => absurd (hk.symm.trans z) (by decide)⟩, fun j j1 j2 => rfl⟩
  · have z := oi_bag (S := S) (row := row) (other := other)
    rcases z with ⟨z, -⟩ | ⟨z, z2⟩ | ⟨z, z2⟩
    · rw [hk] at z; cases z
    · first | (rw [hk] at z; cases z; done) | cases z2
    · first | (rw [hk] at z; cases z; done) | cases z2
set_option maxRecDepth 100000 in
theorem kL_bag {l : Launch} (hl : l.stackTraces = false) {h : mH} {n : Nat} {S : cS} {row : Int32} {other : Int32} {y : Int64} {s : Value} (C : cAt h S) (O : h 38 = .inr (.inr (5, [.long y, s]))) : mC l mL_bag rL_bag [.ref 0, .int row, .int other, .ref 38] h n (lOk (sp_bag S row other).1 S (sp_bag S row other) s h n) mNX := by
  refine mm_enterH hl (by decide +kernel) (by intro hh; cases hh) rfl rfl (Nat.le_of_ble_eq_true rfl) ?_
  show mT _ _ _ _ 0 [.ref 0, .int row, .int other, .ref 38, .double 0] [] _ _ 0 0
  refine mt_aload_n dL_bag_0 rfl rfl ?_
  refine mt_aload_n dL_bag_1 rfl rfl ?_
  refine mt_iload_n dL_bag_2 rfl ?_
  refine mt_iload_n dL_bag_3 rfl ?_
  refine mt_callV (N := mX2_bag) (Rc := rX2_bag) (As := [.int row, .int other]) (st := [.ref 38]) dL_bag_4 (kX2_bag hl C) sX2_bag mw_1033 mKX2 rfl C.1 rfl (Nat.le_of_ble_eq_true rfl) ⟨⟨Nat.le_of_ble_eq_true rfl, Nat.le_of_ble_eq_true rfl⟩, (by simp only [rX2_bag, rL_bag]; omega), (by simp only [rX2_bag, rL_bag]; omega)⟩ (fun v1 h2 n3 c4 => ?_) (fun E h9 n9 hx => tL_bag_x C O hx)
  obtain ⟨c40, c4a, c4b, c4c, c4d⟩ := c4
  have z := oi_bag (S := S) (row := row) (other := other)
  obtain ⟨x, hx⟩ : vB (sp_bag S row other).2.1 := by rcases z with ⟨-, z⟩ | ⟨z, -⟩ | ⟨z, -⟩ <;> first | exact z | (rw [c40] at z; cases z)
  rw [hx] at c4a; rw [c4a, c4b]
  show mT _ _ _ _ 7 [.ref 0, .int row, .int other, .ref 38, .double 0] [.int (mb (x)), .ref 38] _ _ _ _
  refine mt_if_eq dL_bag_7 (tgt := 14) rfl (fun q5 => ?_) (fun q5 => ?_)
  · have q5 : x = false := mb_0.mp q5
    refine mt_lconst dL_bag_14 (v := 0) rfl ?_
    refine mp_putfieldN mKX3 (i := 0) (fs' := [.long 0, s]) (by decide) mw_387 rfl dL_bag_15 ((c4d 38 (by omega)).trans O) (Nat.le_of_ble_eq_true rfl) rfl rfl (fun h6 e7 f8 => ?_)
    refine mt_goto dL_bag_18 (tgt := 25) rfl ?_
    refine mt_iconst dL_bag_25 (v := nI 0) rfl ?_
    refine mt_ireturn dL_bag_26 rfl rfl (by simp only [rX2_bag, rL_bag]; omega) (by simp only [rX2_bag, rL_bag]; omega) ?_
    exact ⟨by rw [c40], rfl, by rw [if_pos c40]; exact cAt.fr2 c4c (fun j hj => f8 j (by omega)), ⟨_, e7, fun _ x9 zx => by rw [hx] at zx; cases zx; rw [q5]; rfl⟩, fun j j1 j2 => (f8 j (by omega)).trans (c4d j j1)⟩
  · have q5 : x = true := mb_1.mp q5
    refine mt_lconst dL_bag_10 (v := 1) rfl ?_
    refine mt_goto dL_bag_11 (tgt := 15) rfl ?_
    refine mp_putfieldN mKX3 (i := 0) (fs' := [.long 1, s]) (by decide) mw_387 rfl dL_bag_15 ((c4d 38 (by omega)).trans O) (Nat.le_of_ble_eq_true rfl) rfl rfl (fun h9 e10 f11 => ?_)
    refine mt_goto dL_bag_18 (tgt := 25) rfl ?_
    refine mt_iconst dL_bag_25 (v := nI 0) rfl ?_
    refine mt_ireturn dL_bag_26 rfl rfl (by simp only [rX2_bag, rL_bag]; omega) (by simp only [rX2_bag, rL_bag]; omega) ?_
    exact ⟨by rw [c40], rfl, by rw [if_pos c40]; exact cAt.fr2 c4c (fun j hj => f11 j (by omega)), ⟨_, e10, fun _ x9 zx => by rw [hx] at zx; cases zx; rw [q5]; rfl⟩, fun j j1 j2 => (f11 j (by omega)).trans (c4d j j1)⟩
theorem oi_mark {S : cS} {row : Int32} {isStamps : Bool} : oI vI true false (sp_mark S row isStamps) := by
  unfold sp_mark
  repeat' first | exact Or.inl ⟨rfl, _, rfl⟩ | exact Or.inr (Or.inr ⟨rfl, rfl⟩) | exact Or.inr (Or.inl ⟨rfl, rfl⟩) | refine dAt_o (fun r => ?_) | refine dArg_o (fun r => ?_) | refine dFit_o ?_ | refine dB_o (fun r => ?_) | refine dKeep_o (fun p t => ?_) | split
abbrev rL_mark : Room := { frames := 8, cells := 1, slots := 6, locals := 136 }
set_option maxRecDepth 100000 in
theorem tL_mark_x {l : Launch} {h : mH} {n : Nat} {S : cS} {row : Int32} {isStamps : Bool} {y : Int64} {s : Value} (C : cAt h S) (O : h 38 = .inr (.inr (5, [.long y, s]))) {E : String} {h1 : mH} {n1 : Nat} (hx : cNo (sp_mark S row isStamps).1 h n E h1 n1) : mTX l mL_mark rL_mark (mKo rL_mark (lOk (sp_mark S row isStamps).1 S (sp_mark S row isStamps) s h n) mNX) 4 [.ref 0, .int row, .int (mb (isStamps)), .ref 38, .double 0] E h1 n1 (0 + rX2_mark.cells) (0 + rX2_mark.slots) := by
  obtain ⟨hE, rfl, rfl⟩ := hx
  rcases hE with ⟨rfl, hk⟩ | ⟨rfl, hk⟩
  · refine mt_catch (nm := "java/lang/IndexOutOfBoundsException") (pre := []) (suf := []) (x := (0, 11, 14, 19)) rfl (fun z hz => by cases hz) _ rfl rfl (by decide) mw_397 mw_236 ?_
    show mT _ _ _ _ 14 [.ref 0, .int row, .int (mb (isStamps)), .ref 38, .double 0] [.float 0] _ _ _ _
    refine mp_astore dL_mark_14 (ls' := [.ref 0, .int row, .int (mb (isStamps)), .ref 38, .float 0]) rfl rfl (by decide) rfl ?_
    refine mt_iconst dL_mark_16 (v := nI 1) rfl ?_
    refine mt_ireturn dL_mark_17 rfl rfl (by simp only [rX2_mark, rL_mark]; omega) (by simp only [rX2_mark, rL_mark]; omega) ?_
    exact ⟨by rw [hk], rfl, by rw [if_neg (by rw [hk]; decide)]; exact C, ⟨_, O, fun z => absurd (hk.symm.trans z) (by decide)⟩, fun j j1 j2 => rfl⟩
  · have z := oi_mark (S := S) (row := row) (isStamps := isStamps)
    rcases z with ⟨z, -⟩ | ⟨z, z2⟩ | ⟨z, z2⟩
    · rw [hk] at z; cases z
    · first | (rw [hk] at z; cases z; done) | cases z2
    · first | (rw [hk] at z; cases z; done) | cases z2
set_option maxRecDepth 100000 in
theorem kL_mark {l : Launch} (hl : l.stackTraces = false) {h : mH} {n : Nat} {S : cS} {row : Int32} {isStamps : Bool} {y : Int64} {s : Value} (C : cAt h S) (O : h 38 = .inr (.inr (5, [.long y, s]))) : mC l mL_mark rL_mark [.ref 0, .int row, .int (mb (isStamps)), .ref 38] h n (lOk (sp_mark S row isStamps).1 S (sp_mark S row isStamps) s h n) mNX := by
  refine mm_enterH hl (by decide +kernel) (by intro hh; cases hh) rfl rfl (Nat.le_of_ble_eq_true rfl) ?_
  show mT _ _ _ _ 0 [.ref 0, .int row, .int (mb (isStamps)), .ref 38, .double 0] [] _ _ 0 0
  refine mt_aload_n dL_mark_0 rfl rfl ?_
  refine mt_aload_n dL_mark_1 rfl rfl ?_
  refine mt_iload_n dL_mark_2 rfl ?_
  refine mt_iload_n dL_mark_3 rfl ?_
  refine mt_callV (N := mX2_mark) (Rc := rX2_mark) (As := [.int row, .int (mb (isStamps))]) (st := [.ref 38]) dL_mark_4 (kX2_mark hl C) sX2_mark mw_1040 mKX2 rfl C.1 rfl (Nat.le_of_ble_eq_true rfl) ⟨⟨Nat.le_of_ble_eq_true rfl, Nat.le_of_ble_eq_true rfl⟩, (by simp only [rX2_mark, rL_mark]; omega), (by simp only [rX2_mark, rL_mark]; omega)⟩ (fun v1 h2 n3 c4 => ?_) (fun E h9 n9 hx => tL_mark_x C O hx)
  obtain ⟨c40, c4a, c4b, c4c, c4d⟩ := c4
  have z := oi_mark (S := S) (row := row) (isStamps := isStamps)
  obtain ⟨x, hx⟩ : vI (sp_mark S row isStamps).2.1 := by rcases z with ⟨-, z⟩ | ⟨z, -⟩ | ⟨z, -⟩ <;> first | exact z | (rw [c40] at z; cases z)
  rw [hx] at c4a; rw [c4a, c4b]
  show mT _ _ _ _ 7 [.ref 0, .int row, .int (mb (isStamps)), .ref 38, .double 0] [.int x, .ref 38] _ _ _ _
  refine mt_i2l dL_mark_7 ?_
  refine mp_putfieldN mKX3 (i := 0) (fs' := [.long ((x).toInt64), s]) (by decide) mw_387 rfl dL_mark_8 ((c4d 38 (by omega)).trans O) (Nat.le_of_ble_eq_true rfl) rfl rfl (fun h5 e6 f7 => ?_)
  refine mt_goto dL_mark_11 (tgt := 18) rfl ?_
  refine mt_iconst dL_mark_18 (v := nI 0) rfl ?_
  refine mt_ireturn dL_mark_19 rfl rfl (by simp only [rX2_mark, rL_mark]; omega) (by simp only [rX2_mark, rL_mark]; omega) ?_
  exact ⟨by rw [c40], rfl, by rw [if_pos c40]; exact cAt.fr2 c4c (fun j hj => f7 j (by omega)), ⟨_, e6, fun _ x9 zx => by rw [hx] at zx; cases zx; rfl⟩, fun j j1 j2 => (f7 j (by omega)).trans (c4d j j1)⟩
theorem oi_house {S : cS} {what : Int32} : oI vI false true (sp_house S what) := by
  unfold sp_house
  repeat' first | exact Or.inl ⟨rfl, _, rfl⟩ | exact Or.inr (Or.inr ⟨rfl, rfl⟩) | exact Or.inr (Or.inl ⟨rfl, rfl⟩) | refine dAt_o (fun r => ?_) | refine dArg_o (fun r => ?_) | refine dFit_o ?_ | refine dB_o (fun r => ?_) | refine dKeep_o (fun p t => ?_) | split
abbrev rL_house : Room := { frames := 7, cells := 1, slots := 6, locals := 111 }
set_option maxRecDepth 100000 in
theorem tL_house_x {l : Launch} {h : mH} {n : Nat} {S : cS} {what : Int32} {y : Int64} {s : Value} (C : cAt h S) (O : h 38 = .inr (.inr (5, [.long y, s]))) {E : String} {h1 : mH} {n1 : Nat} (hx : cNo (sp_house S what).1 h n E h1 n1) : mTX l mL_house rL_house (mKo rL_house (lOk ((sp_house S what).1 / 2) S (sp_house S what) s h n) mNX) 3 [.ref 0, .int what, .ref 38, .double 0] E h1 n1 (0 + rX2_house.cells) (0 + rX2_house.slots) := by
  obtain ⟨hE, rfl, rfl⟩ := hx
  rcases hE with ⟨rfl, hk⟩ | ⟨rfl, hk⟩
  · have z := oi_house (S := S) (what := what)
    rcases z with ⟨z, -⟩ | ⟨z, z2⟩ | ⟨z, z2⟩
    · rw [hk] at z; cases z
    · first | (rw [hk] at z; cases z; done) | cases z2
    · first | (rw [hk] at z; cases z; done) | cases z2
  · refine mt_catch (nm := "java/lang/IllegalArgumentException") (pre := []) (suf := []) (x := (0, 10, 13, 21)) rfl (fun z hz => by cases hz) _ rfl rfl (by decide) mw_398 mw_314 ?_
    show mT _ _ _ _ 13 [.ref 0, .int what, .ref 38, .double 0] [.float 0] _ _ _ _
    refine mp_astore_n dL_house_13 (ls' := [.ref 0, .int what, .ref 38, .float 0]) rfl rfl (by decide) rfl ?_
    refine mt_iconst dL_house_14 (v := nI 1) rfl ?_
    refine mt_ireturn dL_house_15 rfl rfl (by simp only [rX2_house, rL_house]; omega) (by simp only [rX2_house, rL_house]; omega) ?_
    exact ⟨by rw [hk], rfl, by rw [if_neg (by rw [hk]; decide)]; exact C, ⟨_, O, fun z => absurd (hk.symm.trans z) (by decide)⟩, fun j j1 j2 => rfl⟩
set_option maxRecDepth 100000 in
theorem kL_house {l : Launch} (hl : l.stackTraces = false) {h : mH} {n : Nat} {S : cS} {what : Int32} {y : Int64} {s : Value} (C : cAt h S) (O : h 38 = .inr (.inr (5, [.long y, s]))) : mC l mL_house rL_house [.ref 0, .int what, .ref 38] h n (lOk ((sp_house S what).1 / 2) S (sp_house S what) s h n) mNX := by
  refine mm_enterH hl (by decide +kernel) (by intro hh; cases hh) rfl rfl (Nat.le_of_ble_eq_true rfl) ?_
  show mT _ _ _ _ 0 [.ref 0, .int what, .ref 38, .double 0] [] _ _ 0 0
  refine mt_aload_n dL_house_0 rfl rfl ?_
  refine mt_aload_n dL_house_1 rfl rfl ?_
  refine mt_iload_n dL_house_2 rfl ?_
  refine mt_callV (N := mX2_house) (Rc := rX2_house) (As := [.int what]) (st := [.ref 38]) dL_house_3 (kX2_house hl C) sX2_house mw_1044 mKX2 rfl C.1 rfl (Nat.le_of_ble_eq_true rfl) ⟨⟨Nat.le_of_ble_eq_true rfl, Nat.le_of_ble_eq_true rfl⟩, (by simp only [rX2_house, rL_house]; omega), (by simp only [rX2_house, rL_house]; omega)⟩ (fun v1 h2 n3 c4 => ?_) (fun E h9 n9 hx => tL_house_x C O hx)
  obtain ⟨c40, c4a, c4b, c4c, c4d⟩ := c4
  have z := oi_house (S := S) (what := what)
  obtain ⟨x, hx⟩ : vI (sp_house S what).2.1 := by rcases z with ⟨-, z⟩ | ⟨z, -⟩ | ⟨z, -⟩ <;> first | exact z | (rw [c40] at z; cases z)
  rw [hx] at c4a; rw [c4a, c4b]
  show mT _ _ _ _ 6 [.ref 0, .int what, .ref 38, .double 0] [.int x, .ref 38] _ _ _ _
  refine mt_i2l dL_house_6 ?_
  refine mp_putfieldN mKX3 (i := 0) (fs' := [.long ((x).toInt64), s]) (by decide) mw_387 rfl dL_house_7 ((c4d 38 (by omega)).trans O) (Nat.le_of_ble_eq_true rfl) rfl rfl (fun h5 e6 f7 => ?_)
  refine mt_goto dL_house_10 (tgt := 16) rfl ?_
  refine mt_iconst dL_house_16 (v := nI 0) rfl ?_
  refine mt_ireturn dL_house_17 rfl rfl (by simp only [rX2_house, rL_house]; omega) (by simp only [rX2_house, rL_house]; omega) ?_
  exact ⟨by rw [c40], rfl, by rw [if_pos c40]; exact cAt.fr2 c4c (fun j hj => f7 j (by omega)), ⟨_, e6, fun _ x9 zx => by rw [hx] at zx; cases zx; rfl⟩, fun j j1 j2 => (f7 j (by omega)).trans (c4d j j1)⟩
