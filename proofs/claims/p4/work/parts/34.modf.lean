/-! ===== the reference as it begins ===== -/
abbrev rX4_init : Room := { frames := 1, cells := 10, slots := 8, locals := 20 }
/-- the reference as it begins, but for the cell of Out -/
def mBeg (h : mH) : Prop := h 27 = mObj cS0 (nI 0) ∧ (∃ g : Nat → Option Nat, h 28 = .inr (.inl (3, 4, g)) ∧ ∀ r, r < 4 → g r = some (29 + r)) ∧ (∃ g : Nat → Option Nat, h 33 = .inr (.inl (3, 4, g)) ∧ ∀ r, r < 4 → g r = some (34 + r)) ∧ (∀ i, i < 4 → h (29 + i) = .inl (0, 0, fun _ => 0)) ∧ (∀ i, i < 4 → h (34 + i) = .inl (0, 0, fun _ => 0))
theorem mBeg.at {h : mH} (H : mBeg h) : mAt h 39 cS0 (nI 0) := by
  obtain ⟨c0, ⟨g1, c1, c2⟩, ⟨g2, c3, c4⟩, c5, c6⟩ := H
  refine ⟨c0, by omega, fun r => 29 + r, fun r => 34 + r, ⟨g1, c1, c2⟩, ⟨g2, c3, c4⟩, fun r hr => ?_, fun r hr => ?_, fun r q hr hq => ?_, fun r q hr hq hne => ?_, fun r hr => Nat.zero_le _⟩
  · exact ⟨(by omega : 28 < 29 + r ∧ 29 + r ≠ 33 ∧ 29 + r ≠ 38 ∧ 29 + r < 39), _, c5 r hr, fun i hi => absurd hi (Nat.not_lt_zero _)⟩
  · exact ⟨(by omega : 28 < 34 + r ∧ 34 + r ≠ 33 ∧ 34 + r ≠ 38 ∧ 34 + r < 39), _, c6 r hr, fun i hi => absurd hi (Nat.not_lt_zero _)⟩
  · show 29 + r ≠ 34 + q; omega
  · exact ⟨by show 29 + r ≠ 29 + q; omega, by show 34 + r ≠ 34 + q; omega⟩
set_option maxRecDepth 100000 in
set_option maxHeartbeats 2000000 in
theorem kX4_init {l : Launch} (hl : l.stackTraces = false) {h : mH} (H : h 27 = .inr (.inr (6, [.null, .null, .int (nI 0), .int (nI 0), .int (nI 0), .int (nI 0), .int (nI 0)]))) : mC l mX4_init rX4_init [.ref 27] h 28 (fun v h' n' => v = none ∧ n' = 38 ∧ h' 27 = mObj cS0 (nI 0) ∧ (∃ g : Nat → Option Nat, h' 28 = .inr (.inl (3, 4, g)) ∧ ∀ r, r < 4 → g r = some (29 + r)) ∧ (∃ g : Nat → Option Nat, h' 33 = .inr (.inl (3, 4, g)) ∧ ∀ r, r < 4 → g r = some (34 + r)) ∧ (∀ i, i < 4 → h' (29 + i) = .inl (0, 0, fun _ => 0)) ∧ (∀ i, i < 4 → h' (34 + i) = .inl (0, 0, fun _ => 0)) ∧ ∀ j, j < 27 → h' j = h j) (mNX) := by
  refine mm_enter hl (by decide +kernel) rfl rfl rfl (Nat.le_of_ble_eq_true rfl) ?_
  show mT _ _ _ _ 0 [.ref 27] [] _ _ 0 0
  refine mt_aload_n dX4_init_0 rfl rfl ?_
  refine mt_objInit dX4_init_1 mw_1050 mw_58 mw_59 (Nat.le_of_ble_eq_true rfl) ⟨Nat.le_of_ble_eq_true rfl, Nat.le_of_ble_eq_true rfl⟩ ?_
  refine mt_aload_n dX4_init_4 rfl rfl ?_
  refine mt_iconst dX4_init_5 (v := nI 4) rfl ?_
  refine mt_iconst dX4_init_6 (v := nI 0) rfl ?_
  refine mp_mna dX4_init_7 mw_1051 mw_87 (Nat.le_of_ble_eq_true rfl) (Nat.le_of_ble_eq_true rfl) (fun h1 e2 e3 f4 => ?_)
  refine mp_putfinal mKX4 (i := 0) (fs' := [.ref 28, .null, .int (nI 0), .int (nI 0), .int (nI 0), .int (nI 0), .int (nI 0)]) (by decide) mw_1053 rfl rfl rfl dX4_init_11 ((f4 (27) (by omega)).trans H) (Nat.le_of_ble_eq_true rfl) rfl rfl (fun h5 e6 f7 => ?_)
  refine mt_aload_n dX4_init_14 rfl rfl ?_
  refine mt_iconst dX4_init_15 (v := nI 4) rfl ?_
  refine mt_iconst dX4_init_16 (v := nI 0) rfl ?_
  refine mp_mna dX4_init_17 mw_1051 mw_87 (Nat.le_of_ble_eq_true rfl) (Nat.le_of_ble_eq_true rfl) (fun h8 e9 e10 f11 => ?_)
  refine mp_putfinal mKX4 (i := 1) (fs' := [.ref 28, .ref 33, .int (nI 0), .int (nI 0), .int (nI 0), .int (nI 0), .int (nI 0)]) (by decide) mw_1054 rfl rfl rfl dX4_init_21 ((f11 (27) (by omega)).trans e6) (Nat.le_of_ble_eq_true rfl) rfl rfl (fun h12 e13 f14 => ?_)
  refine mt_return dX4_init_24 rfl (Nat.le_of_ble_eq_true rfl) (Nat.le_of_ble_eq_true rfl) ?_
  have g4 : ∀ i, i < 4 → h12 (29 + i) = .inl (0, 0, fun _ => 0) := fun i hi => by
      obtain rfl | rfl | rfl | rfl : i = 0 ∨ i = 1 ∨ i = 2 ∨ i = 3 := by omega
      · exact (f14 (29) (by omega)).trans ((f11 (29) (by omega)).trans ((f7 (29) (by omega)).trans (e3 0 (by omega))))
      · exact (f14 (30) (by omega)).trans ((f11 (30) (by omega)).trans ((f7 (30) (by omega)).trans (e3 1 (by omega))))
      · exact (f14 (31) (by omega)).trans ((f11 (31) (by omega)).trans ((f7 (31) (by omega)).trans (e3 2 (by omega))))
      · exact (f14 (32) (by omega)).trans ((f11 (32) (by omega)).trans ((f7 (32) (by omega)).trans (e3 3 (by omega))))
  have g5 : ∀ i, i < 4 → h12 (34 + i) = .inl (0, 0, fun _ => 0) := fun i hi => by
      obtain rfl | rfl | rfl | rfl : i = 0 ∨ i = 1 ∨ i = 2 ∨ i = 3 := by omega
      · exact (f14 (34) (by omega)).trans (e10 0 (by omega))
      · exact (f14 (35) (by omega)).trans (e10 1 (by omega))
      · exact (f14 (36) (by omega)).trans (e10 2 (by omega))
      · exact (f14 (37) (by omega)).trans (e10 3 (by omega))
  exact ⟨rfl, rfl, e13, ⟨_, (f14 (28) (by omega)).trans ((f11 (28) (by omega)).trans ((f7 (28) (by omega)).trans e2)), fun r hr => if_pos hr⟩, ⟨_, (f14 (33) (by omega)).trans e9, fun r hr => if_pos hr⟩, g4, g5, fun j hj => (f14 j (by omega)).trans ((f11 j (by omega)).trans ((f7 j (by omega)).trans (f4 j (by omega))))⟩
