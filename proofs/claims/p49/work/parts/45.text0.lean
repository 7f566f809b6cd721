/-! ===== the empty text ===== -/
theorem uJ4_length_8abf5 : mU mJ4_length_8abf5 0 := ⟨mw_784, mw_783, mw_27, ⟨by decide +kernel, by decide +kernel, by decide +kernel⟩, rfl⟩
theorem uJ5_getValue_6d5f1 : mU mJ5_getValue_6d5f1 0 := ⟨mw_778, mw_775, mw_26, ⟨by decide +kernel, by decide +kernel, by decide +kernel⟩, rfl⟩
theorem uJ5_isLatin1_aae02 : mU mJ5_isLatin1_aae02 0 := ⟨mw_678, mw_675, mw_26, ⟨by decide +kernel, by decide +kernel, by decide +kernel⟩, rfl⟩
theorem uJ5_length_8abf5 : mU mJ5_length_8abf5 0 := ⟨mw_786, mw_780, mw_26, ⟨by decide +kernel, by decide +kernel, by decide +kernel⟩, rfl⟩
/-- a StringBuilder at cell a, of c bytes in an array of at least k; its cells are lo or later ones -/
def sbA (h : mH) (lo n a c k : Nat) : Prop := ∃ (v cap : Nat) (f : Nat → Int32) (ml : Int32), h a = .inr (.inr (1, [.ref v, .int (nI 0), .int ml, .int (nI c)])) ∧ h v = .inl (1, cap, f) ∧ bFit f ∧ k ≤ cap ∧ cap ≤ 700 ∧ lo ≤ a ∧ lo ≤ v ∧ a ≠ v ∧ a < n ∧ v < n
abbrev rJ5_isLatin1_aae02 : Room := { frames := 0, cells := 0, slots := 0, locals := 0 }
set_option maxRecDepth 100000 in
set_option maxHeartbeats 2000000 in
theorem kJ5_isLatin1_aae02 {l : Launch} (hl : l.stackTraces = false) {h : mH} {n : Nat} {a v c : Nat} {ml : Int32} (E : h a = .inr (.inr (1, [.ref v, .int (nI 0), .int ml, .int (nI c)]))) : mC l mJ5_isLatin1_aae02 rJ5_isLatin1_aae02 [.ref a] h n (mRi (nI 1) h n) (mNX) := by
  refine mm_enter hl (by decide +kernel) rfl rfl rfl (Nat.le_of_ble_eq_true rfl) ?_
  show mT _ _ _ _ 0 [.ref a] [] _ _ 0 0
  refine mt_getsC dJ5_isLatin1_aae02_0 mw_616 ?_
  refine mt_if_eq dJ5_isLatin1_aae02_3 (tgt := 17) rfl (fun q1 => ?_) (fun q1 => ?_)
  · have q1 := (mI_eq0 (by omega)).mp q1
    exact absurd q1 (by decide)
  · have q1 := (not_congr (mI_eq0 (by omega))).mp q1
    refine mt_aload_n dJ5_isLatin1_aae02_6 rfl rfl ?_
    refine mt_getfield mKJ4 (i := 1) (by decide) mw_626 dJ5_isLatin1_aae02_7 E rfl ?_
    refine mt_if_ne dJ5_isLatin1_aae02_10 (tgt := 17) rfl (fun q2 => ?_) (fun q2 => ?_)
    · have q2 := (not_congr (mI_eq0 (by omega))).mp q2
      exact absurd q2 (by decide)
    · have q2 := (mI_eq0 (by omega)).mp q2
      refine mt_iconst dJ5_isLatin1_aae02_13 (v := nI 1) rfl ?_
      refine mt_goto dJ5_isLatin1_aae02_14 (tgt := 18) rfl ?_
      refine mt_ireturn dJ5_isLatin1_aae02_18 rfl rfl (Nat.le_of_ble_eq_true rfl) (Nat.le_of_ble_eq_true rfl) ?_
      exact ⟨rfl, rfl, rfl⟩
abbrev rJ5_getValue_6d5f1 : Room := { frames := 0, cells := 0, slots := 0, locals := 0 }
set_option maxRecDepth 100000 in
set_option maxHeartbeats 2000000 in
theorem kJ5_getValue_6d5f1 {l : Launch} (hl : l.stackTraces = false) {h : mH} {n : Nat} {a v c : Nat} {ml : Int32} (E : h a = .inr (.inr (1, [.ref v, .int (nI 0), .int ml, .int (nI c)]))) : mC l mJ5_getValue_6d5f1 rJ5_getValue_6d5f1 [.ref a] h n (fun r h' n' => r = some (.ref v) ∧ h' = h ∧ n' = n) (mNX) := by
  refine mm_enter hl (by decide +kernel) rfl rfl rfl (Nat.le_of_ble_eq_true rfl) ?_
  show mT _ _ _ _ 0 [.ref a] [] _ _ 0 0
  refine mt_aload_n dJ5_getValue_6d5f1_0 rfl rfl ?_
  refine mt_getfield mKJ4 (i := 0) (by decide) mw_625 dJ5_getValue_6d5f1_1 E rfl ?_
  refine mt_areturn dJ5_getValue_6d5f1_4 rfl (by first | exact Or.inl ⟨_, rfl⟩ | exact Or.inr ⟨_, rfl⟩) rfl (Nat.le_of_ble_eq_true rfl) (Nat.le_of_ble_eq_true rfl) ?_
  exact ⟨rfl, rfl, rfl⟩
abbrev rJ5_length_8abf5 : Room := { frames := 0, cells := 0, slots := 0, locals := 0 }
set_option maxRecDepth 100000 in
set_option maxHeartbeats 2000000 in
theorem kJ5_length_8abf5 {l : Launch} (hl : l.stackTraces = false) {h : mH} {n : Nat} {a v c : Nat} {ml : Int32} (E : h a = .inr (.inr (1, [.ref v, .int (nI 0), .int ml, .int (nI c)]))) : mC l mJ5_length_8abf5 rJ5_length_8abf5 [.ref a] h n (mRi (nI c) h n) (mNX) := by
  refine mm_enter hl (by decide +kernel) rfl rfl rfl (Nat.le_of_ble_eq_true rfl) ?_
  show mT _ _ _ _ 0 [.ref a] [] _ _ 0 0
  refine mt_aload_n dJ5_length_8abf5_0 rfl rfl ?_
  refine mt_getfield mKJ4 (i := 3) (by decide) mw_628 dJ5_length_8abf5_1 E rfl ?_
  refine mt_ireturn dJ5_length_8abf5_4 rfl rfl (Nat.le_of_ble_eq_true rfl) (Nat.le_of_ble_eq_true rfl) ?_
  exact ⟨rfl, rfl, rfl⟩
abbrev rJ4_length_8abf5 : Room := { frames := 1, cells := 0, slots := 0, locals := 20 }
set_option maxRecDepth 100000 in
set_option maxHeartbeats 2000000 in
theorem kJ4_length_8abf5 {l : Launch} (hl : l.stackTraces = false) {h : mH} {n : Nat} {a v c : Nat} {ml : Int32} (E : h a = .inr (.inr (1, [.ref v, .int (nI 0), .int ml, .int (nI c)]))) : mC l mJ4_length_8abf5 rJ4_length_8abf5 [.ref a] h n (mRi (nI c) h n) (mNX) := by
  refine mm_enter hl (by decide +kernel) rfl rfl rfl (Nat.le_of_ble_eq_true rfl) ?_
  show mT _ _ _ _ 0 [.ref a] [] _ _ 0 0
  refine mt_aload_n dJ4_length_8abf5_0 rfl rfl ?_
  refine mt_callSU (N := mJ5_length_8abf5) (Rc := rJ5_length_8abf5) (As := []) (st := []) dJ4_length_8abf5_1 (kJ5_length_8abf5 hl E) uJ5_length_8abf5 (by decide) mw_785 mw_781 mw_637 mKJ4 E rfl (Nat.le_of_ble_eq_true rfl) ⟨⟨Nat.le_of_ble_eq_true rfl, Nat.le_of_ble_eq_true rfl⟩, Nat.le_of_ble_eq_true rfl, Nat.le_of_ble_eq_true rfl⟩ (fun v1 h2 n3 c4 => ?_) (fun _ _ _ hx => hx.elim)
  obtain ⟨c4a, c4b, c4c⟩ := c4
  rw [c4a, c4b, c4c]
  show mT _ _ _ _ 4 [.ref a] [.int (nI c)] _ _ _ _
  refine mt_ireturn dJ4_length_8abf5_4 rfl rfl (Nat.le_of_ble_eq_true rfl) (Nat.le_of_ble_eq_true rfl) ?_
  exact ⟨rfl, rfl, rfl⟩
abbrev rJ5_init_d00df : Room := { frames := 1, cells := 1, slots := 16, locals := 30 }
set_option maxRecDepth 100000 in
set_option maxHeartbeats 2000000 in
theorem kJ5_init_d00df {l : Launch} (hl : l.stackTraces = false) {h : mH} {n : Nat} {a : Nat} (E : h a = .inr (.inr (1, [.null, .int (nI 0), .int (nI 0), .int (nI 0)]))) (an : a < n) : mC l mJ5_init_d00df rJ5_init_d00df [.ref a, .int (nI 16)] h n (fun r h' n' => r = none ∧ n ≤ n' ∧ sbA h' a n' a 0 0 ∧ ∀ j, j < a → h' j = h j) (mNX) := by
  refine mm_enter hl (by decide +kernel) rfl rfl rfl (Nat.le_of_ble_eq_true rfl) ?_
  show mT _ _ _ _ 0 [.ref a, .int (nI 16)] [] _ _ 0 0
  refine mt_aload_n dJ5_init_d00df_0 rfl rfl ?_
  refine mt_objInit dJ5_init_d00df_1 mw_615 mw_41 mw_42 (Nat.le_of_ble_eq_true rfl) ⟨Nat.le_of_ble_eq_true rfl, Nat.le_of_ble_eq_true rfl⟩ ?_
  refine mt_getsC dJ5_init_d00df_4 mw_616 ?_
  refine mt_if_eq dJ5_init_d00df_7 (tgt := 25) rfl (fun q1 => ?_) (fun q1 => ?_)
  · have q1 := (mI_eq0 (by omega)).mp q1
    exact absurd q1 (by decide)
  · have q1 := (not_congr (mI_eq0 (by omega))).mp q1
    refine mt_aload_n dJ5_init_d00df_10 rfl rfl ?_
    refine mt_iload_n dJ5_init_d00df_11 rfl ?_
    refine mp_newarrayB dJ5_init_d00df_12 mw_287 (by omega) (Nat.le_of_ble_eq_true rfl) (Nat.le_of_ble_eq_true rfl) (fun h2 e3 f4 => ?_)
    refine mp_putfield mKJ4 (i := 0) (fs' := [.ref n, .int (nI 0), .int (nI 0), .int (nI 0)]) (by decide) mw_625 rfl dJ5_init_d00df_14 ((f4 (a) (by omega)).trans E) (Nat.le_of_ble_eq_true rfl) rfl rfl (fun h5 e6 f7 => ?_)
    refine mt_aload_n dJ5_init_d00df_17 rfl rfl ?_
    refine mt_iconst dJ5_init_d00df_18 (v := nI 0) rfl ?_
    refine mp_putI mKJ4 (i := 1) (fs' := [.ref n, .int (nI 0), .int (nI 0), .int (nI 0)]) (by decide) mw_626 rfl dJ5_init_d00df_19 e6 (Nat.le_of_ble_eq_true rfl) rfl rfl rfl (fun h8 e9 f10 => ?_)
    refine mt_goto dJ5_init_d00df_22 (tgt := 38) rfl ?_
    refine mt_return dJ5_init_d00df_38 rfl (Nat.le_of_ble_eq_true rfl) (Nat.le_of_ble_eq_true rfl) ?_
    exact ⟨rfl, by omega, ⟨n, 16, _, nI 0, e9, (f10 (n) (by omega)).trans ((f7 (n) (by omega)).trans e3), bFit0, by omega, by omega, Nat.le_refl _, by omega, by omega, by omega, by omega⟩, fun j hj => (f10 j (by omega)).trans ((f7 j (by omega)).trans (f4 j (by omega)))⟩
abbrev rJ4_init_da8c8 : Room := { frames := 2, cells := 1, slots := 16, locals := 51 }
set_option maxRecDepth 100000 in
set_option maxHeartbeats 2000000 in
theorem kJ4_init_da8c8 {l : Launch} (hl : l.stackTraces = false) {h : mH} {n : Nat} {a : Nat} (E : h a = .inr (.inr (1, [.null, .int (nI 0), .int (nI 0), .int (nI 0)]))) (an : a < n) : mC l mJ4_init_da8c8 rJ4_init_da8c8 [.ref a] h n (fun r h' n' => r = none ∧ n ≤ n' ∧ sbA h' a n' a 0 0 ∧ ∀ j, j < a → h' j = h j) (mNX) := by
  refine mm_enter hl (by decide +kernel) rfl rfl rfl (Nat.le_of_ble_eq_true rfl) ?_
  show mT _ _ _ _ 0 [.ref a] [] _ _ 0 0
  refine mt_aload_n dJ4_init_da8c8_0 rfl rfl ?_
  refine mt_bipush dJ4_init_da8c8_1 (v := nI 16) (by decide) ?_
  refine mt_callI (N := mJ5_init_d00df) (Rc := rJ5_init_d00df) (As := [.int (nI 16)]) (st := []) dJ4_init_da8c8_3 (kJ5_init_d00df hl E (by omega)) sJ5_init_d00df mw_612 rfl (Nat.le_of_ble_eq_true rfl) ⟨⟨Nat.le_of_ble_eq_true rfl, Nat.le_of_ble_eq_true rfl⟩, Nat.le_of_ble_eq_true rfl, Nat.le_of_ble_eq_true rfl⟩ (fun v1 h2 n3 c4 => ?_)
  obtain ⟨c4a, c4b, c4c, c4d⟩ := c4
  rw [c4a]
  obtain ⟨vz5, cz5, fz5, mz5, ez5, -⟩ := id c4c
  show mT _ _ _ _ 6 [.ref a] [] _ _ _ _
  refine mt_return dJ4_init_da8c8_6 rfl (Nat.le_of_ble_eq_true rfl) (Nat.le_of_ble_eq_true rfl) ?_
  exact ⟨rfl, c4b, c4c, c4d⟩
abbrev rJ7_checkLength_df160 : Room := { frames := 0, cells := 0, slots := 0, locals := 0 }
set_option maxRecDepth 100000 in
set_option maxHeartbeats 2000000 in
theorem kJ7_checkLength_df160 {l : Launch} (hl : l.stackTraces = false) {h : mH} {n : Nat} {c : Nat} (c7 : c ≤ 700) : mC l mJ7_checkLength_df160 rJ7_checkLength_df160 [.int (nI 0), .int (nI c)] h n (fun r h' n' => r = none ∧ h' = h ∧ n' = n) (mNX) := by
  refine mm_enter hl (by decide +kernel) rfl rfl rfl (Nat.le_of_ble_eq_true rfl) ?_
  show mT _ _ _ _ 0 [.int (nI 0), .int (nI c)] [] _ _ 0 0
  refine mt_iload_n dJ7_checkLength_df160_0 rfl ?_
  refine mt_iload_n dJ7_checkLength_df160_1 rfl ?_
  refine mt_icmp_ge dJ7_checkLength_df160_2 (tgt := 37) rfl (fun q1 => ?_) (fun q1 => ?_)
  · have q1 := Int32.not_lt.mpr q1
    have q1 := (not_congr (nI_ltI (by omega) (by omega))).mp q1
    refine mt_return dJ7_checkLength_df160_37 rfl (Nat.le_of_ble_eq_true rfl) (Nat.le_of_ble_eq_true rfl) ?_
    exact ⟨rfl, rfl, rfl⟩
  · have q1 := Int32.not_le.mp q1
    have q1 := (nI_ltI (by omega) (by omega)).mp q1
    exfalso
    omega
abbrev rJ7_copyOfRangeByte_39247 : Room := { frames := 1, cells := 1, slots := 700, locals := 30 }
set_option maxRecDepth 100000 in
set_option maxHeartbeats 2000000 in
theorem kJ7_copyOfRangeByte_39247 {l : Launch} (hl : l.stackTraces = false) {h : mH} {n : Nat} {v c cap : Nat} {f : Nat → Int32} (B : h v = .inl (1, cap, f)) (hf : bFit f) (hv : v < n) (ck : c ≤ cap) (c7 : cap ≤ 700) : mC l mJ7_copyOfRangeByte_39247 rJ7_copyOfRangeByte_39247 [.ref v, .int (nI 0), .int (nI c)] h n (fun r h' n' => r = some (.ref n) ∧ n' = n + 1 ∧ (∃ g, h' n = .inl (1, c, g)) ∧ ∀ j, j ≠ n → h' j = h j) (mNX) := by
  refine mm_enter hl (by decide +kernel) rfl rfl rfl (Nat.le_of_ble_eq_true rfl) ?_
  show mT _ _ _ _ 0 [.ref v, .int (nI 0), .int (nI c), .double 0, .double 0] [] _ _ 0 0
  refine mt_iload_n dJ7_copyOfRangeByte_39247_0 rfl ?_
  refine mt_iload_n dJ7_copyOfRangeByte_39247_1 rfl ?_
  refine mt_callS (N := mJ7_checkLength_df160) (Rc := rJ7_checkLength_df160) (As := [.int (nI 0), .int (nI c)]) (st := []) dJ7_copyOfRangeByte_39247_2 (kJ7_checkLength_df160 hl (by omega)) sJ7_checkLength_df160 mw_794 rfl (Nat.le_of_ble_eq_true rfl) ⟨⟨Nat.le_of_ble_eq_true rfl, Nat.le_of_ble_eq_true rfl⟩, Nat.le_of_ble_eq_true rfl, Nat.le_of_ble_eq_true rfl⟩ (fun v1 h2 n3 c4 => ?_) (fun _ _ _ hx => hx.elim)
  obtain ⟨c4a, c4b, c4c⟩ := c4
  rw [c4a, c4b, c4c]
  show mT _ _ _ _ 5 [.ref v, .int (nI 0), .int (nI c), .double 0, .double 0] [] _ _ _ _
  refine mt_iload_n dJ7_copyOfRangeByte_39247_5 rfl ?_
  refine mt_iload_n dJ7_copyOfRangeByte_39247_6 rfl ?_
  refine mp_isub dJ7_copyOfRangeByte_39247_7 (v := nI (c - 0)) (pk_sub (by omega)) ?_
  refine mp_istore_n dJ7_copyOfRangeByte_39247_8 (ls' := [.ref v, .int (nI 0), .int (nI c), .int (nI (c - 0)), .double 0]) rfl (by decide) rfl ?_
  refine mt_iload_n dJ7_copyOfRangeByte_39247_9 rfl ?_
  refine mp_newarrayB dJ7_copyOfRangeByte_39247_10 mw_287 (by omega) (by simp only [rJ7_copyOfRangeByte_39247]; omega) (by simp only [rJ7_copyOfRangeByte_39247]; omega) (fun h5 e6 f7 => ?_)
  refine mp_astore dJ7_copyOfRangeByte_39247_12 (ls' := [.ref v, .int (nI 0), .int (nI c), .int (nI (c - 0)), .ref n]) rfl rfl (by decide) rfl ?_
  refine mt_aload_n dJ7_copyOfRangeByte_39247_14 rfl rfl ?_
  refine mt_iload_n dJ7_copyOfRangeByte_39247_15 rfl ?_
  refine mt_aload dJ7_copyOfRangeByte_39247_16 rfl rfl ?_
  refine mt_iconst dJ7_copyOfRangeByte_39247_18 (v := nI 0) rfl ?_
  refine mt_aload_n dJ7_copyOfRangeByte_39247_19 rfl rfl ?_
  refine mt_alen dJ7_copyOfRangeByte_39247_20 ((f7 (v) (by omega)).trans B) (by decide) ?_
  refine mt_iload_n dJ7_copyOfRangeByte_39247_21 rfl ?_
  refine mp_isub dJ7_copyOfRangeByte_39247_22 (v := nI (cap - 0)) (pk_sub (by omega)) ?_
  refine mt_iload_n dJ7_copyOfRangeByte_39247_23 rfl ?_
  refine mt_mmin dJ7_copyOfRangeByte_39247_24 mw_672 mw_131 mw_24 (mw_min) (Nat.le_of_ble_eq_true rfl) ⟨Nat.le_of_ble_eq_true rfl, Nat.le_of_ble_eq_true rfl⟩ (by simp only [rJ7_copyOfRangeByte_39247]; omega) (by simp only [rJ7_copyOfRangeByte_39247]; omega) (v := nI (min (cap - 0) (c - 0))) (mI_min (by omega) (by omega)) ?_
  refine mp_acopyB dJ7_copyOfRangeByte_39247_27 mw_673 mw_135 mw_134 mw_25 ((f7 (v) (by omega)).trans B) e6 hf (by omega) (by omega) (by omega) (by omega) (Nat.le_of_ble_eq_true rfl) ⟨Nat.le_of_ble_eq_true rfl, Nat.le_of_ble_eq_true rfl⟩ (fun h8 e9 f10 => ?_)
  refine mt_aload dJ7_copyOfRangeByte_39247_30 rfl rfl ?_
  refine mt_areturn dJ7_copyOfRangeByte_39247_32 rfl (by first | exact Or.inl ⟨_, rfl⟩ | exact Or.inr ⟨_, rfl⟩) rfl (by simp only [rJ7_copyOfRangeByte_39247]; omega) (by simp only [rJ7_copyOfRangeByte_39247]; omega) ?_
  exact ⟨rfl, rfl, ⟨_, e9⟩, fun j hj => (f10 j (by omega)).trans (f7 j (by omega))⟩
abbrev rJ7_copyOfRange_39247 : Room := { frames := 2, cells := 1, slots := 700, locals := 54 }
set_option maxRecDepth 100000 in
set_option maxHeartbeats 2000000 in
theorem kJ7_copyOfRange_39247 {l : Launch} (hl : l.stackTraces = false) {h : mH} {n : Nat} {v c cap : Nat} {f : Nat → Int32} (B : h v = .inl (1, cap, f)) (hf : bFit f) (hv : v < n) (ck : c ≤ cap) (c7 : cap ≤ 700) : mC l mJ7_copyOfRange_39247 rJ7_copyOfRange_39247 [.ref v, .int (nI 0), .int (nI c)] h n (fun r h' n' => r = some (.ref n) ∧ n' = n + 1 ∧ (∃ g, h' n = .inl (1, c, g)) ∧ ∀ j, j ≠ n → h' j = h j) (mNX) := by
  refine mm_enter hl (by decide +kernel) rfl rfl rfl (Nat.le_of_ble_eq_true rfl) ?_
  show mT _ _ _ _ 0 [.ref v, .int (nI 0), .int (nI c)] [] _ _ 0 0
  refine mt_iload_n dJ7_copyOfRange_39247_0 rfl ?_
  refine mt_if_ne dJ7_copyOfRange_39247_1 (tgt := 10) rfl (fun q1 => ?_) (fun q1 => ?_)
  · have q1 := (not_congr (mI_eq0 (by omega))).mp q1
    exact absurd q1 (by decide)
  · have q1 := (mI_eq0 (by omega)).mp q1
    refine mt_iload_n dJ7_copyOfRange_39247_4 rfl ?_
    refine mt_aload_n dJ7_copyOfRange_39247_5 rfl rfl ?_
    refine mt_alen dJ7_copyOfRange_39247_6 B (by decide) ?_
    refine mt_icmp_eq dJ7_copyOfRange_39247_7 (tgt := 17) rfl (fun q2 => ?_) (fun q2 => ?_)
    · have q2 := (nI_eq (by omega) (by omega)).mp q2
      have hcc : c = cap := q2
      refine mt_aload_n dJ7_copyOfRange_39247_17 rfl rfl ?_
      refine mp_cloneB dJ7_copyOfRange_39247_18 mw_665 B hf (Nat.le_of_ble_eq_true rfl) ⟨Nat.le_of_ble_eq_true rfl, Nat.le_of_ble_eq_true rfl⟩ (by simp only [rJ7_copyOfRange_39247]; omega) (by simp only [rJ7_copyOfRange_39247]; omega) (fun h3 e4 f5 => ?_)
      refine mt_castB dJ7_copyOfRange_39247_21 mw_671 e4 ?_
      refine mt_areturn dJ7_copyOfRange_39247_24 rfl (by first | exact Or.inl ⟨_, rfl⟩ | exact Or.inr ⟨_, rfl⟩) rfl (by simp only [rJ7_copyOfRange_39247]; omega) (by simp only [rJ7_copyOfRange_39247]; omega) ?_
      exact ⟨rfl, rfl, ⟨_, by first | exact e4 | (rw [hcc]; exact e4)⟩, fun j hj => f5 j (by omega)⟩
    · have q2 := (not_congr (nI_eq (by omega) (by omega))).mp q2
      refine mt_aload_n dJ7_copyOfRange_39247_10 rfl rfl ?_
      refine mt_iload_n dJ7_copyOfRange_39247_11 rfl ?_
      refine mt_iload_n dJ7_copyOfRange_39247_12 rfl ?_
      refine mt_callS (N := mJ7_copyOfRangeByte_39247) (Rc := rJ7_copyOfRangeByte_39247) (As := [.ref v, .int (nI 0), .int (nI c)]) (st := []) dJ7_copyOfRange_39247_13 (kJ7_copyOfRangeByte_39247 hl B hf hv ck c7) sJ7_copyOfRangeByte_39247 mw_791 rfl (Nat.le_of_ble_eq_true rfl) ⟨⟨Nat.le_of_ble_eq_true rfl, Nat.le_of_ble_eq_true rfl⟩, Nat.le_of_ble_eq_true rfl, Nat.le_of_ble_eq_true rfl⟩ (fun v6 h7 n8 c9 => ?_) (fun _ _ _ hx => hx.elim)
      obtain ⟨c9a, c9b, ⟨gc9, c9c⟩, c9e⟩ := c9
      rw [c9a, c9b]
      show mT _ _ _ _ 16 [.ref v, .int (nI 0), .int (nI c)] [.ref n] _ _ _ _
      refine mt_areturn dJ7_copyOfRange_39247_16 rfl (by first | exact Or.inl ⟨_, rfl⟩ | exact Or.inr ⟨_, rfl⟩) rfl (Nat.le_of_ble_eq_true rfl) (Nat.le_of_ble_eq_true rfl) ?_
      exact ⟨rfl, rfl, ⟨_, by first | exact c9c | (rw [hcc]; exact c9c)⟩, fun j hj => c9e j (by omega)⟩
abbrev rJ0_init_db425 : Room := { frames := 3, cells := 1, slots := 700, locals := 76 }
set_option maxRecDepth 100000 in
set_option maxHeartbeats 2000000 in
theorem kJ0_init_db425 {l : Launch} (hl : l.stackTraces = false) {h : mH} {n : Nat} {b a v c cap : Nat} {ml : Int32} {f : Nat → Int32} (Es : h b = .inr (.inr (0, [.null, .int (nI 0), .int (nI 0), .int (nI 0)]))) (E : h a = .inr (.inr (1, [.ref v, .int (nI 0), .int ml, .int (nI c)]))) (B : h v = .inl (1, cap, f)) (hf : bFit f) (ab : a < b) (vb : v < b) (bn : b < n) (ck : c ≤ cap) (c7 : cap ≤ 700) : mC l mJ0_init_db425 rJ0_init_db425 [.ref b, .ref a, .null] h n (fun r h' n' => r = none ∧ n ≤ n' ∧ (∃ k g x y, h' b = .inr (.inr (0, [.ref k, .int (nI 0), x, y])) ∧ h' k = .inl (1, c, g)) ∧ ∀ j, j < b → h' j = h j) (mNX) := by
  refine mm_enter hl (by decide +kernel) rfl rfl rfl (Nat.le_of_ble_eq_true rfl) ?_
  show mT _ _ _ _ 0 [.ref b, .ref a, .null, .double 0, .double 0] [] _ _ 0 0
  refine mt_aload_n dJ0_init_db425_0 rfl rfl ?_
  refine mt_objInit dJ0_init_db425_1 mw_773 mw_41 mw_42 (Nat.le_of_ble_eq_true rfl) ⟨Nat.le_of_ble_eq_true rfl, Nat.le_of_ble_eq_true rfl⟩ ?_
  refine mt_aload_n dJ0_init_db425_4 rfl rfl ?_
  refine mt_callU (N := mJ5_getValue_6d5f1) (Rc := rJ5_getValue_6d5f1) (As := []) (st := []) dJ0_init_db425_5 (kJ5_getValue_6d5f1 hl E) uJ5_getValue_6d5f1 mw_777 mw_774 mKJ4 E rfl (Nat.le_of_ble_eq_true rfl) ⟨⟨Nat.le_of_ble_eq_true rfl, Nat.le_of_ble_eq_true rfl⟩, Nat.le_of_ble_eq_true rfl, Nat.le_of_ble_eq_true rfl⟩ (fun v1 h2 n3 c4 => ?_) (fun _ _ _ hx => hx.elim)
  obtain ⟨c4a, c4b, c4c⟩ := c4
  rw [c4a, c4b, c4c]
  show mT _ _ _ _ 8 [.ref b, .ref a, .null, .double 0, .double 0] [.ref v] _ _ _ _
  refine mp_astore_n dJ0_init_db425_8 (ls' := [.ref b, .ref a, .null, .ref v, .double 0]) rfl rfl (by decide) rfl ?_
  refine mt_aload_n dJ0_init_db425_9 rfl rfl ?_
  refine mt_callO (N := mJ4_length_8abf5) (Rc := rJ4_length_8abf5) (As := []) (st := []) dJ0_init_db425_10 (kJ4_length_8abf5 hl E) uJ4_length_8abf5 mw_782 mw_779 mw_781 mw_780 mw_786 rfl ⟨by decide, by decide⟩ mKJ4 E rfl (Nat.le_of_ble_eq_true rfl) ⟨⟨Nat.le_of_ble_eq_true rfl, Nat.le_of_ble_eq_true rfl⟩, Nat.le_of_ble_eq_true rfl, Nat.le_of_ble_eq_true rfl⟩ (fun v5 h6 n7 c8 => ?_) (fun _ _ _ hx => hx.elim)
  obtain ⟨c8a, c8b, c8c⟩ := c8
  rw [c8a, c8b, c8c]
  show mT _ _ _ _ 13 [.ref b, .ref a, .null, .ref v, .double 0] [.int (nI c)] _ _ _ _
  refine mp_istore dJ0_init_db425_13 (ls' := [.ref b, .ref a, .null, .ref v, .int (nI c)]) rfl (by decide) rfl ?_
  refine mt_aload_n dJ0_init_db425_15 rfl rfl ?_
  refine mt_callU (N := mJ5_isLatin1_aae02) (Rc := rJ5_isLatin1_aae02) (As := []) (st := []) dJ0_init_db425_16 (kJ5_isLatin1_aae02 hl E) uJ5_isLatin1_aae02 mw_677 mw_787 mKJ4 E rfl (Nat.le_of_ble_eq_true rfl) ⟨⟨Nat.le_of_ble_eq_true rfl, Nat.le_of_ble_eq_true rfl⟩, Nat.le_of_ble_eq_true rfl, Nat.le_of_ble_eq_true rfl⟩ (fun v9 h10 n11 c12 => ?_) (fun _ _ _ hx => hx.elim)
  obtain ⟨c12a, c12b, c12c⟩ := c12
  rw [c12a, c12b, c12c]
  show mT _ _ _ _ 19 [.ref b, .ref a, .null, .ref v, .int (nI c)] [.int (nI 1)] _ _ _ _
  refine mt_if_eq dJ0_init_db425_19 (tgt := 41) rfl (fun q13 => ?_) (fun q13 => ?_)
  · have q13 := (mI_eq0 (by omega)).mp q13
    exact absurd q13 (by decide)
  · have q13 := (not_congr (mI_eq0 (by omega))).mp q13
    refine mt_aload_n dJ0_init_db425_22 rfl rfl ?_
    refine mt_iconst dJ0_init_db425_23 (v := nI 0) rfl ?_
    refine mp_putFI mKJ0 (i := 1) (fs' := [.null, .int (nI 0), .int (nI 0), .int (nI 0)]) (by decide) mw_856 rfl rfl rfl dJ0_init_db425_24 Es (Nat.le_of_ble_eq_true rfl) rfl rfl rfl (fun h14 e15 f16 => ?_)
    refine mt_aload_n dJ0_init_db425_27 rfl rfl ?_
    refine mt_aload_n dJ0_init_db425_28 rfl rfl ?_
    refine mt_iconst dJ0_init_db425_29 (v := nI 0) rfl ?_
    refine mt_iload dJ0_init_db425_30 rfl ?_
    refine mt_callS (N := mJ7_copyOfRange_39247) (Rc := rJ7_copyOfRange_39247) (As := [.ref v, .int (nI 0), .int (nI c)]) (st := [.ref b]) dJ0_init_db425_32 (kJ7_copyOfRange_39247 hl ((f16 (v) (by omega)).trans B) hf (by omega) (by omega) (by omega)) sJ7_copyOfRange_39247 mw_788 rfl (Nat.le_of_ble_eq_true rfl) ⟨⟨Nat.le_of_ble_eq_true rfl, Nat.le_of_ble_eq_true rfl⟩, Nat.le_of_ble_eq_true rfl, Nat.le_of_ble_eq_true rfl⟩ (fun v17 h18 n19 c20 => ?_) (fun _ _ _ hx => hx.elim)
    obtain ⟨c20a, c20b, ⟨gc20, c20c⟩, c20e⟩ := c20
    rw [c20a, c20b]
    show mT _ _ _ _ 35 [.ref b, .ref a, .null, .ref v, .int (nI c)] [.ref n, .ref b] _ _ _ _
    refine mp_putfinal mKJ0 (i := 0) (fs' := [.ref n, .int (nI 0), .int (nI 0), .int (nI 0)]) (by decide) mw_855 rfl rfl rfl dJ0_init_db425_35 ((c20e (b) (by omega)).trans e15) (Nat.le_of_ble_eq_true rfl) rfl rfl (fun h21 e22 f23 => ?_)
    refine mt_goto dJ0_init_db425_38 (tgt := 97) rfl ?_
    refine mt_return dJ0_init_db425_97 rfl (Nat.le_of_ble_eq_true rfl) (Nat.le_of_ble_eq_true rfl) ?_
    exact ⟨rfl, by omega, ⟨n, _, _, _, e22, (f23 (n) (by omega)).trans c20c⟩, fun j hj => (f23 j (by omega)).trans ((c20e j (by omega)).trans (f16 j (by omega)))⟩
abbrev rJ0_init_81219 : Room := { frames := 4, cells := 1, slots := 700, locals := 100 }
set_option maxRecDepth 100000 in
set_option maxHeartbeats 2000000 in
theorem kJ0_init_81219 {l : Launch} (hl : l.stackTraces = false) {h : mH} {n : Nat} {b a v c cap : Nat} {ml : Int32} {f : Nat → Int32} (Es : h b = .inr (.inr (0, [.null, .int (nI 0), .int (nI 0), .int (nI 0)]))) (E : h a = .inr (.inr (1, [.ref v, .int (nI 0), .int ml, .int (nI c)]))) (B : h v = .inl (1, cap, f)) (hf : bFit f) (ab : a < b) (vb : v < b) (bn : b < n) (ck : c ≤ cap) (c7 : cap ≤ 700) : mC l mJ0_init_81219 rJ0_init_81219 [.ref b, .ref a] h n (fun r h' n' => r = none ∧ n ≤ n' ∧ (∃ k g x y, h' b = .inr (.inr (0, [.ref k, .int (nI 0), x, y])) ∧ h' k = .inl (1, c, g)) ∧ ∀ j, j < b → h' j = h j) (mNX) := by
  refine mm_enter hl (by decide +kernel) rfl rfl rfl (Nat.le_of_ble_eq_true rfl) ?_
  show mT _ _ _ _ 0 [.ref b, .ref a] [] _ _ 0 0
  refine mt_aload_n dJ0_init_81219_0 rfl rfl ?_
  refine mt_aload_n dJ0_init_81219_1 rfl rfl ?_
  refine mt_aconst_null dJ0_init_81219_2 ?_
  refine mt_callI (N := mJ0_init_db425) (Rc := rJ0_init_db425) (As := [.ref a, .null]) (st := []) dJ0_init_81219_3 (kJ0_init_db425 hl Es E B hf (by omega) (by omega) (by omega) (by omega) (by omega)) sJ0_init_db425 mw_770 rfl (Nat.le_of_ble_eq_true rfl) ⟨⟨Nat.le_of_ble_eq_true rfl, Nat.le_of_ble_eq_true rfl⟩, Nat.le_of_ble_eq_true rfl, Nat.le_of_ble_eq_true rfl⟩ (fun v1 h2 n3 c4 => ?_)
  obtain ⟨c4a, c4b, c4c, c4d⟩ := c4
  rw [c4a]
  show mT _ _ _ _ 6 [.ref b, .ref a] [] _ _ _ _
  refine mt_return dJ0_init_81219_6 rfl (Nat.le_of_ble_eq_true rfl) (Nat.le_of_ble_eq_true rfl) ?_
  exact ⟨rfl, by omega, c4c, fun j hj => c4d j (by omega)⟩
abbrev rJ4_toString_0e30d : Room := { frames := 5, cells := 2, slots := 704, locals := 121 }
set_option maxRecDepth 100000 in
set_option maxHeartbeats 2000000 in
theorem kJ4_toString_0e30d {l : Launch} (hl : l.stackTraces = false) {h : mH} {n : Nat} {lo a c : Nat} (A : sbA h lo n a c c) : mC l mJ4_toString_0e30d rJ4_toString_0e30d [.ref a] h n (fun r h' n' => r = some (.ref n) ∧ n ≤ n' ∧ (∃ k g x y, h' n = .inr (.inr (0, [.ref k, .int (nI 0), x, y])) ∧ h' k = .inl (1, c, g)) ∧ ∀ j, j < n → h' j = h j) (mNX) := by
  obtain ⟨v, cap, f, ml, E, B, hf, ck, c7, la, lv, ne, an, vn⟩ := id A
  refine mm_enter hl (by decide +kernel) rfl rfl rfl (Nat.le_of_ble_eq_true rfl) ?_
  show mT _ _ _ _ 0 [.ref a] [] _ _ 0 0
  refine mp_new mKJ0 dJ4_toString_0e30d_0 mw_765 mw_766 mw_28 (fs := [.null, .int (nI 0), .int (nI 0), .int (nI 0)]) mDJ0 (mdf_ok rfl) (Nat.le_of_ble_eq_true rfl) (Nat.le_of_ble_eq_true rfl) (fun h1 e2 f3 => ?_)
  refine mt_dup dJ4_toString_0e30d_3 rfl ?_
  refine mt_aload_n dJ4_toString_0e30d_4 rfl rfl ?_
  refine mt_callI (N := mJ0_init_81219) (Rc := rJ0_init_81219) (As := [.ref a]) (st := [.ref n]) dJ4_toString_0e30d_5 (kJ0_init_81219 hl e2 ((f3 (a) (by omega)).trans E) ((f3 (v) (by omega)).trans B) hf (by omega) (by omega) (by omega) (by omega) (by omega)) sJ0_init_81219 mw_767 rfl (Nat.le_of_ble_eq_true rfl) ⟨⟨Nat.le_of_ble_eq_true rfl, Nat.le_of_ble_eq_true rfl⟩, Nat.le_of_ble_eq_true rfl, Nat.le_of_ble_eq_true rfl⟩ (fun v4 h5 n6 c7 => ?_)
  obtain ⟨c7a, c7b, c7c, c7d⟩ := c7
  rw [c7a]
  show mT _ _ _ _ 8 [.ref a] [.ref n] _ _ _ _
  refine mt_areturn dJ4_toString_0e30d_8 rfl (by first | exact Or.inl ⟨_, rfl⟩ | exact Or.inr ⟨_, rfl⟩) rfl (Nat.le_of_ble_eq_true rfl) (Nat.le_of_ble_eq_true rfl) ?_
  exact ⟨rfl, by omega, c7c, fun j hj => (c7d j (by omega)).trans (f3 j (by omega))⟩
abbrev rJ0_isEmpty_aae02 : Room := { frames := 0, cells := 0, slots := 0, locals := 0 }
set_option maxRecDepth 100000 in
set_option maxHeartbeats 2000000 in
theorem kJ0_isEmpty_aae02 {l : Launch} (hl : l.stackTraces = false) {h : mH} {n : Nat} {a k : Nat} {g : Nat → Int32} {x y : Value} (E : h a = .inr (.inr (0, [.ref k, .int (nI 0), x, y]))) (B : h k = .inl (1, 0, g)) : mC l mJ0_isEmpty_aae02 rJ0_isEmpty_aae02 [.ref a] h n (mRi (nI 1) h n) (mNX) := by
  refine mm_enter hl (by decide +kernel) rfl rfl rfl (Nat.le_of_ble_eq_true rfl) ?_
  show mT _ _ _ _ 0 [.ref a] [] _ _ 0 0
  refine mt_aload_n dJ0_isEmpty_aae02_0 rfl rfl ?_
  refine mt_getfield mKJ0 (i := 0) (by decide) mw_855 dJ0_isEmpty_aae02_1 E rfl ?_
  refine mt_alen dJ0_isEmpty_aae02_4 B (by decide) ?_
  refine mt_if_ne dJ0_isEmpty_aae02_5 (tgt := 12) rfl (fun q1 => ?_) (fun q1 => ?_)
  · have q1 := (not_congr (mI_eq0 (by omega))).mp q1
    exact absurd q1 (by decide)
  · have q1 := (mI_eq0 (by omega)).mp q1
    refine mt_iconst dJ0_isEmpty_aae02_8 (v := nI 1) rfl ?_
    refine mt_goto dJ0_isEmpty_aae02_9 (tgt := 13) rfl ?_
    refine mt_ireturn dJ0_isEmpty_aae02_13 rfl rfl (Nat.le_of_ble_eq_true rfl) (Nat.le_of_ble_eq_true rfl) ?_
    exact ⟨rfl, rfl, rfl⟩
