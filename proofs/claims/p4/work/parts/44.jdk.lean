/-! ===== text: the JDK methods, safety alone ===== -/
theorem uJ4_length_8abf5 : mU mJ4_length_8abf5 0 := ⟨mw_817, mw_816, mw_44, ⟨by decide +kernel, by decide +kernel, by decide +kernel⟩, rfl⟩
theorem uJ5_append_3fe6f : mU mJ5_append_3fe6f 1 := ⟨mw_677, mw_676, mw_43, ⟨by decide +kernel, by decide +kernel, by decide +kernel⟩, rfl⟩
theorem uJ5_append_c97b9 : mU mJ5_append_c97b9 1 := ⟨mw_766, mw_765, mw_43, ⟨by decide +kernel, by decide +kernel, by decide +kernel⟩, rfl⟩
theorem uJ5_append_cf1ce : mU mJ5_append_cf1ce 1 := ⟨mw_841, mw_840, mw_43, ⟨by decide +kernel, by decide +kernel, by decide +kernel⟩, rfl⟩
theorem uJ5_ensureCapacityInternal_d00df : mU mJ5_ensureCapacityInternal_d00df 1 := ⟨mw_681, mw_680, mw_43, ⟨by decide +kernel, by decide +kernel, by decide +kernel⟩, rfl⟩
theorem uJ5_getValue_6d5f1 : mU mJ5_getValue_6d5f1 0 := ⟨mw_811, mw_808, mw_43, ⟨by decide +kernel, by decide +kernel, by decide +kernel⟩, rfl⟩
theorem uJ5_inflateIfNeededFor_a7421 : mU mJ5_inflateIfNeededFor_a7421 1 := ⟨mw_865, mw_864, mw_43, ⟨by decide +kernel, by decide +kernel, by decide +kernel⟩, rfl⟩
theorem uJ5_isLatin1_aae02 : mU mJ5_isLatin1_aae02 0 := ⟨mw_711, mw_708, mw_43, ⟨by decide +kernel, by decide +kernel, by decide +kernel⟩, rfl⟩
theorem uJ5_length_8abf5 : mU mJ5_length_8abf5 0 := ⟨mw_819, mw_813, mw_43, ⟨by decide +kernel, by decide +kernel, by decide +kernel⟩, rfl⟩
theorem uJ5_newCapacity_0f7a4 : mU mJ5_newCapacity_0f7a4 1 := ⟨mw_685, mw_684, mw_43, ⟨by decide +kernel, by decide +kernel, by decide +kernel⟩, rfl⟩
theorem uJ5_putStringAt_47b60 : mU mJ5_putStringAt_47b60 2 := ⟨mw_861, mw_860, mw_43, ⟨by decide +kernel, by decide +kernel, by decide +kernel⟩, rfl⟩
/-- a StringBuilder at cell a, of c bytes in an array of at least k; its cells are lo or later ones -/
def sbA (h : mH) (lo n a c k : Nat) : Prop := ∃ (v cap : Nat) (f : Nat → Int32) (ml : Int32), h a = .inr (.inr (1, [.ref v, .int (nI 0), .int ml, .int (nI c)])) ∧ h v = .inl (1, cap, f) ∧ bFit f ∧ k ≤ cap ∧ cap ≤ 700 ∧ lo ≤ a ∧ lo ≤ v ∧ a ≠ v ∧ a < n ∧ v < n
theorem sub_gt0 {a b : Nat} (ha : a < 2 ^ 30) (hb : b < 2 ^ 30) : 0 < nI a - nI b ↔ b < a := by
  rw [Int32.lt_iff_toInt_lt, pk_sub_toInt ha hb]
  have h0 : (0 : Int32).toInt = 0 := by decide
  omega
/-- the digits of a number fit d places -/
def cFit (x : Int32) (d : Nat) : Prop := (∃ u m, x = nI u ∧ u < 2 ^ 31 ∧ u < 10 ^ m ∧ 1 ≤ m ∧ m ≤ d) ∨ (∃ u m, x = -nI u ∧ 0 < u ∧ u ≤ 2 ^ 31 ∧ u < 10 ^ m ∧ 1 ≤ m ∧ m + 1 ≤ d)
theorem ng_neg0 {u : Nat} (h0 : 0 < u) (hu : u ≤ 2 ^ 31) : -nI u < 0 := by
  rw [Int32.lt_iff_toInt_lt, ngT hu]
  have h0 : (0 : Int32).toInt = 0 := by decide
  omega
theorem p10 {i : Nat} (h : i < 10) : 10 ^ i ≤ 2 ^ 31 := Nat.le_trans (Nat.pow_le_pow_right (by decide) (show i ≤ 9 by omega)) (by decide)
theorem p10s {i : Nat} {p : Int32} (h : p = -nI (10 ^ i)) : nI 10 * p = -nI (10 ^ (i + 1)) := by
  rw [h, Int32.mul_neg, mI_mul, Nat.pow_succ, Nat.mul_comm]
theorem dg_step {u m : Nat} (h1 : 100 ≤ u) (hu : u < 10 ^ m) : ∃ m', m = m' + 2 ∧ 1 ≤ m' ∧ u / 100 < 10 ^ m' := by
  match m, hu with
  | 0, hu => exact absurd hu (by omega)
  | 1, hu => exact absurd hu (by omega)
  | 2, hu => exact absurd hu (by omega)
  | m + 3, hu =>
    refine ⟨m + 1, rfl, by omega, ?_⟩
    rw [show m + 3 = m + 1 + 1 + 1 from rfl, Nat.pow_succ, Nat.pow_succ] at hu
    omega
theorem dg_two {u m : Nat} (h1 : 9 < u) (hu : u < 10 ^ m) : 2 ≤ m := by
  match m, hu with
  | 0, hu => exact absurd hu (by omega)
  | 1, hu => exact absurd hu (by omega)
  | m + 2, _ => omega
abbrev rJ5_isLatin1_aae02 : Room := { frames := 0, cells := 0, slots := 0, locals := 0 }
set_option maxRecDepth 100000 in
set_option maxHeartbeats 2000000 in
theorem kJ5_isLatin1_aae02 {l : Launch} (hl : l.stackTraces = false) {h : mH} {n : Nat} {a v c : Nat} {ml : Int32} (E : h a = .inr (.inr (1, [.ref v, .int (nI 0), .int ml, .int (nI c)]))) : mC l mJ5_isLatin1_aae02 rJ5_isLatin1_aae02 [.ref a] h n (mRi (nI 1) h n) (mNX) := by
  refine mm_enter hl (by decide +kernel) rfl rfl rfl (Nat.le_of_ble_eq_true rfl) ?_
  show mT _ _ _ _ 0 [.ref a] [] _ _ 0 0
  refine mt_getsC dJ5_isLatin1_aae02_0 mw_649 ?_
  refine mt_if_eq dJ5_isLatin1_aae02_3 (tgt := 17) rfl (fun q1 => ?_) (fun q1 => ?_)
  · have q1 := (mI_eq0 (by omega)).mp q1
    exact absurd q1 (by decide)
  · have q1 := (not_congr (mI_eq0 (by omega))).mp q1
    refine mt_aload_n dJ5_isLatin1_aae02_6 rfl rfl ?_
    refine mt_getfield mKJ4 (i := 1) (by decide) mw_659 dJ5_isLatin1_aae02_7 E rfl ?_
    refine mt_if_ne dJ5_isLatin1_aae02_10 (tgt := 17) rfl (fun q2 => ?_) (fun q2 => ?_)
    · have q2 := (not_congr (mI_eq0 (by omega))).mp q2
      exact absurd q2 (by decide)
    · have q2 := (mI_eq0 (by omega)).mp q2
      refine mt_iconst dJ5_isLatin1_aae02_13 (v := nI 1) rfl ?_
      refine mt_goto dJ5_isLatin1_aae02_14 (tgt := 18) rfl ?_
      refine mt_ireturn dJ5_isLatin1_aae02_18 rfl rfl (Nat.le_of_ble_eq_true rfl) (Nat.le_of_ble_eq_true rfl) ?_
      exact ⟨rfl, rfl, rfl⟩
abbrev rJ5_getValue_6d5f1 : Room := { frames := 0, cells := 0, slots := 0, locals := 0 }
set_option maxRecDepth 100000 in
set_option maxHeartbeats 2000000 in
theorem kJ5_getValue_6d5f1 {l : Launch} (hl : l.stackTraces = false) {h : mH} {n : Nat} {a v c : Nat} {ml : Int32} (E : h a = .inr (.inr (1, [.ref v, .int (nI 0), .int ml, .int (nI c)]))) : mC l mJ5_getValue_6d5f1 rJ5_getValue_6d5f1 [.ref a] h n (fun r h' n' => r = some (.ref v) ∧ h' = h ∧ n' = n) (mNX) := by
  refine mm_enter hl (by decide +kernel) rfl rfl rfl (Nat.le_of_ble_eq_true rfl) ?_
  show mT _ _ _ _ 0 [.ref a] [] _ _ 0 0
  refine mt_aload_n dJ5_getValue_6d5f1_0 rfl rfl ?_
  refine mt_getfield mKJ4 (i := 0) (by decide) mw_658 dJ5_getValue_6d5f1_1 E rfl ?_
  refine mt_areturn dJ5_getValue_6d5f1_4 rfl (by first | exact Or.inl ⟨_, rfl⟩ | exact Or.inr ⟨_, rfl⟩) rfl (Nat.le_of_ble_eq_true rfl) (Nat.le_of_ble_eq_true rfl) ?_
  exact ⟨rfl, rfl, rfl⟩
abbrev rJ5_length_8abf5 : Room := { frames := 0, cells := 0, slots := 0, locals := 0 }
set_option maxRecDepth 100000 in
set_option maxHeartbeats 2000000 in
theorem kJ5_length_8abf5 {l : Launch} (hl : l.stackTraces = false) {h : mH} {n : Nat} {a v c : Nat} {ml : Int32} (E : h a = .inr (.inr (1, [.ref v, .int (nI 0), .int ml, .int (nI c)]))) : mC l mJ5_length_8abf5 rJ5_length_8abf5 [.ref a] h n (mRi (nI c) h n) (mNX) := by
  refine mm_enter hl (by decide +kernel) rfl rfl rfl (Nat.le_of_ble_eq_true rfl) ?_
  show mT _ _ _ _ 0 [.ref a] [] _ _ 0 0
  refine mt_aload_n dJ5_length_8abf5_0 rfl rfl ?_
  refine mt_getfield mKJ4 (i := 3) (by decide) mw_661 dJ5_length_8abf5_1 E rfl ?_
  refine mt_ireturn dJ5_length_8abf5_4 rfl rfl (Nat.le_of_ble_eq_true rfl) (Nat.le_of_ble_eq_true rfl) ?_
  exact ⟨rfl, rfl, rfl⟩
abbrev rJ4_length_8abf5 : Room := { frames := 1, cells := 0, slots := 0, locals := 20 }
set_option maxRecDepth 100000 in
set_option maxHeartbeats 2000000 in
theorem kJ4_length_8abf5 {l : Launch} (hl : l.stackTraces = false) {h : mH} {n : Nat} {a v c : Nat} {ml : Int32} (E : h a = .inr (.inr (1, [.ref v, .int (nI 0), .int ml, .int (nI c)]))) : mC l mJ4_length_8abf5 rJ4_length_8abf5 [.ref a] h n (mRi (nI c) h n) (mNX) := by
  refine mm_enter hl (by decide +kernel) rfl rfl rfl (Nat.le_of_ble_eq_true rfl) ?_
  show mT _ _ _ _ 0 [.ref a] [] _ _ 0 0
  refine mt_aload_n dJ4_length_8abf5_0 rfl rfl ?_
  refine mt_callSU (N := mJ5_length_8abf5) (Rc := rJ5_length_8abf5) (As := []) (st := []) dJ4_length_8abf5_1 (kJ5_length_8abf5 hl E) uJ5_length_8abf5 (by decide) mw_818 mw_814 mw_670 mKJ4 E rfl (Nat.le_of_ble_eq_true rfl) ⟨⟨Nat.le_of_ble_eq_true rfl, Nat.le_of_ble_eq_true rfl⟩, Nat.le_of_ble_eq_true rfl, Nat.le_of_ble_eq_true rfl⟩ (fun v1 h2 n3 c4 => ?_) (fun _ _ _ hx => hx.elim)
  obtain ⟨c4a, c4b, c4c⟩ := c4
  rw [c4a, c4b, c4c]
  show mT _ _ _ _ 4 [.ref a] [.int (nI c)] _ _ _ _
  refine mt_ireturn dJ4_length_8abf5_4 rfl rfl (Nat.le_of_ble_eq_true rfl) (Nat.le_of_ble_eq_true rfl) ?_
  exact ⟨rfl, rfl, rfl⟩
abbrev rJ1_canEncode_fc78d : Room := { frames := 0, cells := 0, slots := 0, locals := 0 }
set_option maxRecDepth 100000 in
set_option maxHeartbeats 2000000 in
theorem kJ1_canEncode_fc78d {l : Launch} (hl : l.stackTraces = false) {h : mH} {n : Nat}   : mC l mJ1_canEncode_fc78d rJ1_canEncode_fc78d [.int (nI 32)] h n (mRi (nI 1) h n) (mNX) := by
  refine mm_enter hl (by decide +kernel) rfl rfl rfl (Nat.le_of_ble_eq_true rfl) ?_
  show mT _ _ _ _ 0 [.int (nI 32)] [] _ _ 0 0
  refine mt_iload_n dJ1_canEncode_fc78d_0 rfl ?_
  refine mt_sipush dJ1_canEncode_fc78d_1 (v := nI 255) (by decide) ?_
  refine mt_icmp_gt dJ1_canEncode_fc78d_4 (tgt := 11) rfl (fun q1 => ?_) (fun q1 => ?_)
  · have q1 := (nI_ltI (by omega) (by omega)).mp q1
    exact absurd q1 (by decide)
  · have q1 := (not_congr (nI_ltI (by omega) (by omega))).mp q1
    refine mt_iconst dJ1_canEncode_fc78d_7 (v := nI 1) rfl ?_
    refine mt_goto dJ1_canEncode_fc78d_8 (tgt := 12) rfl ?_
    refine mt_ireturn dJ1_canEncode_fc78d_12 rfl rfl (Nat.le_of_ble_eq_true rfl) (Nat.le_of_ble_eq_true rfl) ?_
    exact ⟨rfl, rfl, rfl⟩
abbrev rJ0_coder_7d493 : Room := { frames := 0, cells := 0, slots := 0, locals := 0 }
set_option maxRecDepth 100000 in
set_option maxHeartbeats 2000000 in
theorem kJ0_coder_7d493 {l : Launch} (hl : l.stackTraces = false) {h : mH} {n : Nat}   : mC l mJ0_coder_7d493 rJ0_coder_7d493 [.retAddr 1] h n (mRi (nI 0) h n) (mNX) := by
  refine mm_enter hl (by decide +kernel) rfl rfl rfl (Nat.le_of_ble_eq_true rfl) ?_
  show mT _ _ _ _ 0 [.retAddr 1] [] _ _ 0 0
  refine mt_getsC dJ0_coder_7d493_0 mw_857 ?_
  refine mt_if_eq dJ0_coder_7d493_3 (tgt := 13) rfl (fun q1 => ?_) (fun q1 => ?_)
  · have q1 := (mI_eq0 (by omega)).mp q1
    exact absurd q1 (by decide)
  · have q1 := (not_congr (mI_eq0 (by omega))).mp q1
    refine mt_aload_n dJ0_coder_7d493_6 rfl rfl ?_
    refine mt_xcoder dJ0_coder_7d493_7 mw_889 ?_
    refine mt_goto dJ0_coder_7d493_10 (tgt := 14) rfl ?_
    refine mt_ireturn dJ0_coder_7d493_14 rfl rfl (Nat.le_of_ble_eq_true rfl) (Nat.le_of_ble_eq_true rfl) ?_
    exact ⟨rfl, rfl, rfl⟩
abbrev rJ0_length_8abf5 : Room := { frames := 1, cells := 0, slots := 0, locals := 20 }
set_option maxRecDepth 100000 in
set_option maxHeartbeats 2000000 in
theorem kJ0_length_8abf5 {l : Launch} (hl : l.stackTraces = false) {h : mH} {n : Nat}   : mC l mJ0_length_8abf5 rJ0_length_8abf5 [.retAddr 1] h n (mRi (nI 1) h n) (mNX) := by
  refine mm_enter hl (by decide +kernel) rfl rfl rfl (Nat.le_of_ble_eq_true rfl) ?_
  show mT _ _ _ _ 0 [.retAddr 1] [] _ _ 0 0
  refine mt_aload_n dJ0_length_8abf5_0 rfl rfl ?_
  refine mt_xvalue dJ0_length_8abf5_1 mw_888 ?_
  refine mt_xlenB dJ0_length_8abf5_4 ?_
  refine mt_aload_n dJ0_length_8abf5_5 rfl rfl ?_
  refine mt_callX (N := mJ0_coder_7d493) (Rc := rJ0_coder_7d493) (As := []) (st := [.int (nI 1)]) dJ0_length_8abf5_6 (kJ0_coder_7d493 hl) sJ0_coder_7d493 mw_853 rfl rfl (Nat.le_of_ble_eq_true rfl) ⟨⟨Nat.le_of_ble_eq_true rfl, Nat.le_of_ble_eq_true rfl⟩, Nat.le_of_ble_eq_true rfl, Nat.le_of_ble_eq_true rfl⟩ (fun v1 h2 n3 c4 => ?_) (fun _ _ _ hx => hx.elim)
  obtain ⟨c4a, c4b, c4c⟩ := c4
  rw [c4a, c4b, c4c]
  show mT _ _ _ _ 9 [.retAddr 1] [.int (nI 0), .int (nI 1)] _ _ _ _
  refine mt_ishr0 dJ0_length_8abf5_9 ?_
  refine mt_ireturn dJ0_length_8abf5_10 rfl rfl (Nat.le_of_ble_eq_true rfl) (Nat.le_of_ble_eq_true rfl) ?_
  exact ⟨rfl, rfl, rfl⟩
abbrev rJ8_newLength_cabcc : Room := { frames := 1, cells := 0, slots := 0, locals := 30 }
set_option maxRecDepth 100000 in
set_option maxHeartbeats 2000000 in
theorem kJ8_newLength_cabcc {l : Launch} (hl : l.stackTraces = false) {h : mH} {n : Nat} {old g p : Nat} (hs : old + max g p < 1000000) (h0 : 0 < old + max g p) : mC l mJ8_newLength_cabcc rJ8_newLength_cabcc [.int (nI old), .int (nI g), .int (nI p)] h n (mRi (nI (old + max g p)) h n) (mNX) := by
  refine mm_enter hl (by decide +kernel) rfl rfl rfl (Nat.le_of_ble_eq_true rfl) ?_
  show mT _ _ _ _ 0 [.int (nI old), .int (nI g), .int (nI p), .double 0] [] _ _ 0 0
  refine mt_iload_n dJ8_newLength_cabcc_0 rfl ?_
  refine mt_iload_n dJ8_newLength_cabcc_1 rfl ?_
  refine mt_iload_n dJ8_newLength_cabcc_2 rfl ?_
  refine mt_mmax dJ8_newLength_cabcc_3 mw_689 mw_349 mw_41 (mw_max) (Nat.le_of_ble_eq_true rfl) ⟨Nat.le_of_ble_eq_true rfl, Nat.le_of_ble_eq_true rfl⟩ (Nat.le_of_ble_eq_true rfl) (Nat.le_of_ble_eq_true rfl) (v := nI (max g p)) (mI_max (by omega) (by omega)) ?_
  refine mp_iadd dJ8_newLength_cabcc_6 (v := nI (old + (max g p))) (nI_add _ _) ?_
  refine mp_istore_n dJ8_newLength_cabcc_7 (ls' := [.int (nI old), .int (nI g), .int (nI p), .int (nI (old + (max g p)))]) rfl (by decide) rfl ?_
  refine mt_iconst dJ8_newLength_cabcc_8 (v := nI 0) rfl ?_
  refine mt_iload_n dJ8_newLength_cabcc_9 rfl ?_
  refine mt_icmp_ge dJ8_newLength_cabcc_10 (tgt := 21) rfl (fun q1 => ?_) (fun q1 => ?_)
  · have q1 := Int32.not_lt.mpr q1
    have q1 := (not_congr (nI_ltI (by omega) (by omega))).mp q1
    exfalso
    omega
  · have q1 := Int32.not_le.mp q1
    have q1 := (nI_ltI (by omega) (by omega)).mp q1
    refine mt_iload_n dJ8_newLength_cabcc_13 rfl ?_
    refine mt_ldc (v := nI 2147483639) dJ8_newLength_cabcc_14 mw_690 ?_
    refine mt_icmp_gt dJ8_newLength_cabcc_16 (tgt := 21) rfl (fun q2 => ?_) (fun q2 => ?_)
    · have q2 := (nI_ltI (by omega) (by omega)).mp q2
      exfalso
      omega
    · have q2 := (not_congr (nI_ltI (by omega) (by omega))).mp q2
      refine mt_iload_n dJ8_newLength_cabcc_19 rfl ?_
      refine mt_ireturn dJ8_newLength_cabcc_20 rfl rfl (Nat.le_of_ble_eq_true rfl) (Nat.le_of_ble_eq_true rfl) ?_
      exact ⟨rfl, rfl, rfl⟩
abbrev rJ5_newCapacity_0f7a4 : Room := { frames := 2, cells := 0, slots := 0, locals := 53 }
set_option maxRecDepth 100000 in
set_option maxHeartbeats 2000000 in
theorem kJ5_newCapacity_0f7a4 {l : Launch} (hl : l.stackTraces = false) {h : mH} {n : Nat} {a v c cap min : Nat} {ml : Int32} {f : Nat → Int32} (E : h a = .inr (.inr (1, [.ref v, .int (nI 0), .int ml, .int (nI c)]))) (B : h v = .inl (1, cap, f)) (q1 : cap < min) (q2 : min ≤ 300) : mC l mJ5_newCapacity_0f7a4 rJ5_newCapacity_0f7a4 [.ref a, .int (nI min)] h n (mRi (nI (cap + max (min - cap) (cap + 2))) h n) (mNX) := by
  refine mm_enter hl (by decide +kernel) rfl rfl rfl (Nat.le_of_ble_eq_true rfl) ?_
  show mT _ _ _ _ 0 [.ref a, .int (nI min), .double 0, .double 0, .double 0, .double 0] [] _ _ 0 0
  refine mt_aload_n dJ5_newCapacity_0f7a4_0 rfl rfl ?_
  refine mt_getfield mKJ4 (i := 0) (by decide) mw_658 dJ5_newCapacity_0f7a4_1 E rfl ?_
  refine mt_alen dJ5_newCapacity_0f7a4_4 B (by decide) ?_
  refine mp_istore_n dJ5_newCapacity_0f7a4_5 (ls' := [.ref a, .int (nI min), .int (nI cap), .double 0, .double 0, .double 0]) rfl (by decide) rfl ?_
  refine mt_iload_n dJ5_newCapacity_0f7a4_6 rfl ?_
  refine mt_aload_n dJ5_newCapacity_0f7a4_7 rfl rfl ?_
  refine mt_getfield mKJ4 (i := 1) (by decide) mw_659 dJ5_newCapacity_0f7a4_8 E rfl ?_
  refine mt_ishl0 dJ5_newCapacity_0f7a4_11 ?_
  refine mp_istore_n dJ5_newCapacity_0f7a4_12 (ls' := [.ref a, .int (nI min), .int (nI cap), .int (nI min), .double 0, .double 0]) rfl (by decide) rfl ?_
  refine mt_iload_n dJ5_newCapacity_0f7a4_13 rfl ?_
  refine mt_iload_n dJ5_newCapacity_0f7a4_14 rfl ?_
  refine mp_isub dJ5_newCapacity_0f7a4_15 (v := nI (min - cap)) (pk_sub (by omega)) ?_
  refine mp_istore dJ5_newCapacity_0f7a4_16 (ls' := [.ref a, .int (nI min), .int (nI cap), .int (nI min), .int (nI (min - cap)), .double 0]) rfl (by decide) rfl ?_
  refine mt_iload_n dJ5_newCapacity_0f7a4_18 rfl ?_
  refine mt_iload dJ5_newCapacity_0f7a4_19 rfl ?_
  refine mt_iload_n dJ5_newCapacity_0f7a4_21 rfl ?_
  refine mt_iconst dJ5_newCapacity_0f7a4_22 (v := nI 2) rfl ?_
  refine mt_aload_n dJ5_newCapacity_0f7a4_23 rfl rfl ?_
  refine mt_getfield mKJ4 (i := 1) (by decide) mw_659 dJ5_newCapacity_0f7a4_24 E rfl ?_
  refine mt_ishl0 dJ5_newCapacity_0f7a4_27 ?_
  refine mp_iadd dJ5_newCapacity_0f7a4_28 (v := nI (cap + 2)) (nI_add _ _) ?_
  refine mt_callS (N := mJ8_newLength_cabcc) (Rc := rJ8_newLength_cabcc) (As := [.int (nI cap), .int (nI (min - cap)), .int (nI (cap + 2))]) (st := []) dJ5_newCapacity_0f7a4_29 (kJ8_newLength_cabcc hl (by omega) (by omega)) sJ8_newLength_cabcc mw_686 rfl (Nat.le_of_ble_eq_true rfl) ⟨⟨Nat.le_of_ble_eq_true rfl, Nat.le_of_ble_eq_true rfl⟩, Nat.le_of_ble_eq_true rfl, Nat.le_of_ble_eq_true rfl⟩ (fun v1 h2 n3 c4 => ?_) (fun _ _ _ hx => hx.elim)
  obtain ⟨c4a, c4b, c4c⟩ := c4
  rw [c4a, c4b, c4c]
  show mT _ _ _ _ 32 [.ref a, .int (nI min), .int (nI cap), .int (nI min), .int (nI (min - cap)), .double 0] [.int (nI (cap + max (min - cap) (cap + 2)))] _ _ _ _
  refine mp_istore dJ5_newCapacity_0f7a4_32 (ls' := [.ref a, .int (nI min), .int (nI cap), .int (nI min), .int (nI (min - cap)), .int (nI (cap + max (min - cap) (cap + 2)))]) rfl (by decide) rfl ?_
  refine mt_iload dJ5_newCapacity_0f7a4_34 rfl ?_
  refine mt_ldc (v := nI 2147483647) dJ5_newCapacity_0f7a4_36 mw_694 ?_
  refine mt_icmp_ne dJ5_newCapacity_0f7a4_38 (tgt := 51) rfl (fun q5 => ?_) (fun q5 => ?_)
  · have q5 := (not_congr (nI_eq (by omega) (by omega))).mp q5
    refine mt_iload dJ5_newCapacity_0f7a4_51 rfl ?_
    refine mt_aload_n dJ5_newCapacity_0f7a4_53 rfl rfl ?_
    refine mt_getfield mKJ4 (i := 1) (by decide) mw_659 dJ5_newCapacity_0f7a4_54 E rfl ?_
    refine mt_ishr0 dJ5_newCapacity_0f7a4_57 ?_
    refine mt_ireturn dJ5_newCapacity_0f7a4_58 rfl rfl (Nat.le_of_ble_eq_true rfl) (Nat.le_of_ble_eq_true rfl) ?_
    exact ⟨rfl, rfl, rfl⟩
  · have q5 := (nI_eq (by omega) (by omega)).mp q5
    exfalso
    omega
abbrev rJ7_copyOf_9075b : Room := { frames := 1, cells := 1, slots := 700, locals := 30 }
set_option maxRecDepth 100000 in
set_option maxHeartbeats 2000000 in
theorem kJ7_copyOf_9075b {l : Launch} (hl : l.stackTraces = false) {h : mH} {n : Nat} {v len k : Nat} {f : Nat → Int32} (B : h v = .inl (1, len, f)) (hf : bFit f) (hv : v < n) (q1 : len < k) (q2 : k ≤ 700) : mC l mJ7_copyOf_9075b rJ7_copyOf_9075b [.ref v, .int (nI k)] h n (fun r h' n' => r = some (.ref n) ∧ n' = n + 1 ∧ (∃ g, h' n = .inl (1, k, g) ∧ bFit g) ∧ ∀ j, j ≠ n → h' j = h j) (mNX) := by
  refine mm_enter hl (by decide +kernel) rfl rfl rfl (Nat.le_of_ble_eq_true rfl) ?_
  show mT _ _ _ _ 0 [.ref v, .int (nI k), .double 0] [] _ _ 0 0
  refine mt_iload_n dJ7_copyOf_9075b_0 rfl ?_
  refine mt_aload_n dJ7_copyOf_9075b_1 rfl rfl ?_
  refine mt_alen dJ7_copyOf_9075b_2 B (by decide) ?_
  refine mt_icmp_ne dJ7_copyOf_9075b_3 (tgt := 14) rfl (fun q1 => ?_) (fun q1 => ?_)
  · have q1 := (not_congr (nI_eq (by omega) (by omega))).mp q1
    refine mt_iload_n dJ7_copyOf_9075b_14 rfl ?_
    refine mp_newarrayB dJ7_copyOf_9075b_15 mw_300 (by omega) (by simp only [rJ7_copyOf_9075b]; omega) (by simp only [rJ7_copyOf_9075b]; omega) (fun h2 e3 f4 => ?_)
    refine mp_astore_n dJ7_copyOf_9075b_17 (ls' := [.ref v, .int (nI k), .ref n]) rfl rfl (by decide) rfl ?_
    refine mt_aload_n dJ7_copyOf_9075b_18 rfl rfl ?_
    refine mt_iconst dJ7_copyOf_9075b_19 (v := nI 0) rfl ?_
    refine mt_aload_n dJ7_copyOf_9075b_20 rfl rfl ?_
    refine mt_iconst dJ7_copyOf_9075b_21 (v := nI 0) rfl ?_
    refine mt_aload_n dJ7_copyOf_9075b_22 rfl rfl ?_
    refine mt_alen dJ7_copyOf_9075b_23 ((f4 (v) (by omega)).trans B) (by decide) ?_
    refine mt_iload_n dJ7_copyOf_9075b_24 rfl ?_
    refine mt_mmin dJ7_copyOf_9075b_25 mw_705 mw_152 mw_41 (mw_min) (Nat.le_of_ble_eq_true rfl) ⟨Nat.le_of_ble_eq_true rfl, Nat.le_of_ble_eq_true rfl⟩ (by simp only [rJ7_copyOf_9075b]; omega) (by simp only [rJ7_copyOf_9075b]; omega) (v := nI (min len k)) (mI_min (by omega) (by omega)) ?_
    refine mp_acopyB dJ7_copyOf_9075b_28 mw_706 mw_156 mw_155 mw_42 ((f4 (v) (by omega)).trans B) e3 hf (by omega) (by omega) (by omega) (by omega) (Nat.le_of_ble_eq_true rfl) ⟨Nat.le_of_ble_eq_true rfl, Nat.le_of_ble_eq_true rfl⟩ (fun h5 e6 f7 => ?_)
    refine mt_aload_n dJ7_copyOf_9075b_31 rfl rfl ?_
    refine mt_areturn dJ7_copyOf_9075b_32 rfl (by first | exact Or.inl ⟨_, rfl⟩ | exact Or.inr ⟨_, rfl⟩) rfl (by simp only [rJ7_copyOf_9075b]; omega) (by simp only [rJ7_copyOf_9075b]; omega) ?_
    exact ⟨rfl, rfl, ⟨_, e6, (hf).c bFit0⟩, fun j hj => (f7 j (by omega)).trans (f4 j (by omega))⟩
  · have q1 := (nI_eq (by omega) (by omega)).mp q1
    exfalso
    omega
abbrev rJ5_ensureCapacityInternal_d00df : Room := { frames := 3, cells := 1, slots := 700, locals := 78 }
set_option maxRecDepth 100000 in
set_option maxHeartbeats 2000000 in
theorem kJ5_ensureCapacityInternal_d00df {l : Launch} (hl : l.stackTraces = false) {h : mH} {n : Nat} {lo a c k min : Nat} (A : sbA h lo n a c k) (q2 : min ≤ 300) : mC l mJ5_ensureCapacityInternal_d00df rJ5_ensureCapacityInternal_d00df [.ref a, .int (nI min)] h n (fun r h' n' => r = none ∧ n ≤ n' ∧ sbA h' lo n' a c min ∧ ∀ j, j < lo → h' j = h j) (mNX) := by
  obtain ⟨v, cap, f, ml, E, B, hf, ck, c7, la, lv, ne, an, vn⟩ := A
  refine mm_enter hl (by decide +kernel) rfl rfl rfl (Nat.le_of_ble_eq_true rfl) ?_
  show mT _ _ _ _ 0 [.ref a, .int (nI min), .double 0] [] _ _ 0 0
  refine mt_aload_n dJ5_ensureCapacityInternal_d00df_0 rfl rfl ?_
  refine mt_getfield mKJ4 (i := 0) (by decide) mw_658 dJ5_ensureCapacityInternal_d00df_1 E rfl ?_
  refine mt_alen dJ5_ensureCapacityInternal_d00df_4 B (by decide) ?_
  refine mt_aload_n dJ5_ensureCapacityInternal_d00df_5 rfl rfl ?_
  refine mt_getfield mKJ4 (i := 1) (by decide) mw_659 dJ5_ensureCapacityInternal_d00df_6 E rfl ?_
  refine mt_ishr0 dJ5_ensureCapacityInternal_d00df_9 ?_
  refine mp_istore_n dJ5_ensureCapacityInternal_d00df_10 (ls' := [.ref a, .int (nI min), .int (nI cap)]) rfl (by decide) rfl ?_
  refine mt_iload_n dJ5_ensureCapacityInternal_d00df_11 rfl ?_
  refine mt_iload_n dJ5_ensureCapacityInternal_d00df_12 rfl ?_
  refine mp_isub dJ5_ensureCapacityInternal_d00df_13 (v := (nI min) - (nI cap)) rfl ?_
  refine mt_if_le dJ5_ensureCapacityInternal_d00df_14 (tgt := 38) rfl (fun q1 => ?_) (fun q1 => ?_)
  · have q1 := Int32.not_lt.mpr q1
    have q9 : ¬ cap < min := fun z => q1 ((sub_gt0 (by omega) (by omega)).mpr z)
    refine mt_return dJ5_ensureCapacityInternal_d00df_38 rfl (Nat.le_of_ble_eq_true rfl) (Nat.le_of_ble_eq_true rfl) ?_
    exact ⟨rfl, Nat.le_refl _, ⟨v, cap, f, ml, E, B, hf, by omega, c7, la, lv, ne, an, vn⟩, fun _ _ => rfl⟩
  · have q1 := Int32.not_le.mp q1
    have q9 : cap < min := (sub_gt0 (by omega) (by omega)).mp q1
    refine mt_aload_n dJ5_ensureCapacityInternal_d00df_17 rfl rfl ?_
    refine mt_aload_n dJ5_ensureCapacityInternal_d00df_18 rfl rfl ?_
    refine mt_getfield mKJ4 (i := 0) (by decide) mw_658 dJ5_ensureCapacityInternal_d00df_19 E rfl ?_
    refine mt_aload_n dJ5_ensureCapacityInternal_d00df_22 rfl rfl ?_
    refine mt_iload_n dJ5_ensureCapacityInternal_d00df_23 rfl ?_
    refine mt_callU (N := mJ5_newCapacity_0f7a4) (Rc := rJ5_newCapacity_0f7a4) (As := [.int (nI min)]) (st := [.ref v, .ref a]) dJ5_ensureCapacityInternal_d00df_24 (kJ5_newCapacity_0f7a4 hl E B (by omega) (by omega)) uJ5_newCapacity_0f7a4 mw_1382 mw_682 mKJ4 E rfl (Nat.le_of_ble_eq_true rfl) ⟨⟨Nat.le_of_ble_eq_true rfl, Nat.le_of_ble_eq_true rfl⟩, Nat.le_of_ble_eq_true rfl, Nat.le_of_ble_eq_true rfl⟩ (fun v2 h3 n4 c5 => ?_) (fun _ _ _ hx => hx.elim)
    obtain ⟨c5a, c5b, c5c⟩ := c5
    rw [c5a, c5b, c5c]
    show mT _ _ _ _ 27 [.ref a, .int (nI min), .int (nI cap)] [.int (nI (cap + max (min - cap) (cap + 2))), .ref v, .ref a] _ _ _ _
    refine mt_aload_n dJ5_ensureCapacityInternal_d00df_27 rfl rfl ?_
    refine mt_getfield mKJ4 (i := 1) (by decide) mw_659 dJ5_ensureCapacityInternal_d00df_28 E rfl ?_
    refine mt_ishl0 dJ5_ensureCapacityInternal_d00df_31 ?_
    refine mt_callS (N := mJ7_copyOf_9075b) (Rc := rJ7_copyOf_9075b) (As := [.ref v, .int (nI (cap + max (min - cap) (cap + 2)))]) (st := [.ref a]) dJ5_ensureCapacityInternal_d00df_32 (kJ7_copyOf_9075b hl B hf (by omega) (by omega) (by omega)) sJ7_copyOf_9075b mw_695 rfl (Nat.le_of_ble_eq_true rfl) ⟨⟨Nat.le_of_ble_eq_true rfl, Nat.le_of_ble_eq_true rfl⟩, Nat.le_of_ble_eq_true rfl, Nat.le_of_ble_eq_true rfl⟩ (fun v6 h7 n8 c9 => ?_) (fun _ _ _ hx => hx.elim)
    obtain ⟨c9a, c9b, ⟨gc9, c9c, c9d⟩, c9e⟩ := c9
    rw [c9a, c9b]
    show mT _ _ _ _ 35 [.ref a, .int (nI min), .int (nI cap)] [.ref n, .ref a] _ _ _ _
    refine mp_putfield mKJ4 (i := 0) (fs' := [.ref n, .int (nI 0), .int ml, .int (nI c)]) (by decide) mw_658 rfl dJ5_ensureCapacityInternal_d00df_35 ((c9e (a) (by omega)).trans E) (Nat.le_of_ble_eq_true rfl) rfl rfl (fun h10 e11 f12 => ?_)
    refine mt_return dJ5_ensureCapacityInternal_d00df_38 rfl (Nat.le_of_ble_eq_true rfl) (Nat.le_of_ble_eq_true rfl) ?_
    exact ⟨rfl, by omega, ⟨n, _, _, ml, e11, (f12 (n) (by omega)).trans c9c, c9d, by omega, by omega, la, by omega, by omega, by omega, by omega⟩, fun j hj => (f12 j (by omega)).trans (c9e j (by omega))⟩
abbrev rJ6_stringSize_0f7a4 : Room := { frames := 0, cells := 0, slots := 0, locals := 0 }
set_option maxRecDepth 100000 in
set_option maxHeartbeats 2000000 in
theorem tJ6_stringSize_0f7a4_16 {l : Launch} {R : Room} {K : mK} {cc sc : Nat} {h : mH} {n : Nat} {u sg : Nat} (hu : u ≤ 2 ^ 31) (kk0 : ∀ (p : Int32) (i : Nat), (u < 10 ^ i) → (1 ≤ i ∧ i ≤ 10) → mT l mJ6_stringSize_0f7a4 R K 27 [.int (-nI u), .int (nI sg), .int p, .int (nI i)] [] h n cc sc) (kk1 : ∀ (p : Int32) (i : Nat), (1 ≤ i ∧ i ≤ 10) → mT l mJ6_stringSize_0f7a4 R K 42 [.int (-nI u), .int (nI sg), .int p, .int (nI i)] [] h n cc sc) : ∀ (N0 : Nat) (p : Int32) (i : Nat), (10 - i) < N0 → (1 ≤ i ∧ i ≤ 10) → (i < 10 → p = -nI (10 ^ i)) → mT l mJ6_stringSize_0f7a4 R K 16 [.int (-nI u), .int (nI sg), .int p, .int (nI i)] [] h n cc sc := by
  intro N0
  induction N0 with
  | zero => intro p i hm; exact absurd hm (Nat.not_lt_zero _)
  | succ N0 ih =>
    intro p i hm hi hp
    refine mt_iload_n dJ6_stringSize_0f7a4_16 rfl ?_
    refine mt_bipush dJ6_stringSize_0f7a4_17 (v := nI 10) (by decide) ?_
    refine mt_icmp_ge dJ6_stringSize_0f7a4_19 (tgt := 42) rfl (fun q1 => ?_) (fun q1 => ?_)
    · have q1 := Int32.not_lt.mpr q1
      have q1 := (not_congr (nI_ltI (by omega) (by omega))).mp q1
      exact kk1 p i hi
    · have q1 := Int32.not_le.mp q1
      have q1 := (nI_ltI (by omega) (by omega)).mp q1
      refine mt_iload_n dJ6_stringSize_0f7a4_22 rfl ?_
      refine mt_iload_n dJ6_stringSize_0f7a4_23 rfl ?_
      refine mt_icmp_le dJ6_stringSize_0f7a4_24 (tgt := 31) rfl (fun q2 => ?_) (fun q2 => ?_)
      · have q2 := Int32.not_lt.mpr q2
        refine mt_bipush dJ6_stringSize_0f7a4_31 (v := nI 10) (by decide) ?_
        refine mt_iload_n dJ6_stringSize_0f7a4_33 rfl ?_
        refine mp_imul dJ6_stringSize_0f7a4_34 (v := (nI 10) * p) rfl ?_
        refine mp_istore_n dJ6_stringSize_0f7a4_35 (ls' := [.int (-nI u), .int (nI sg), .int ((nI 10) * p), .int (nI i)]) rfl (by decide) rfl ?_
        refine mp_iinc dJ6_stringSize_0f7a4_36 rfl (v := nI (i + 1)) mI_inc (ls' := [.int (-nI u), .int (nI sg), .int ((nI 10) * p), .int (nI (i + 1))]) rfl (by decide) rfl ?_
        refine mt_goto dJ6_stringSize_0f7a4_39 (tgt := 16) rfl ?_
        exact ih ((nI 10) * p) (i + 1) (by omega) (⟨by omega, by omega⟩) (fun z => p10s (hp (by omega)))
      · have q2 := Int32.not_le.mp q2
        exact kk0 p i ((ng_lt (p10 (by omega)) hu).mp (by rw [← hp (by omega)]; exact q2)) hi
set_option maxRecDepth 100000 in
set_option maxHeartbeats 2000000 in
theorem kJ6_stringSize_0f7a4 {l : Launch} (hl : l.stackTraces = false) {h : mH} {n : Nat} {x : Int32}  : mC l mJ6_stringSize_0f7a4 rJ6_stringSize_0f7a4 [.int x] h n (fun r h' n' => ∃ d, r = some (.int (nI d)) ∧ 1 ≤ d ∧ d ≤ 11 ∧ cFit x d ∧ h' = h ∧ n' = n) (mNX) := by
  refine mm_enter hl (by decide +kernel) rfl rfl rfl (Nat.le_of_ble_eq_true rfl) ?_
  show mT _ _ _ _ 0 [.int x, .double 0, .double 0, .double 0] [] _ _ 0 0
  refine mt_iconst dJ6_stringSize_0f7a4_0 (v := nI 1) rfl ?_
  refine mp_istore_n dJ6_stringSize_0f7a4_1 (ls' := [.int x, .int (nI 1), .double 0, .double 0]) rfl (by decide) rfl ?_
  refine mt_iload_n dJ6_stringSize_0f7a4_2 rfl ?_
  refine mt_if_lt dJ6_stringSize_0f7a4_3 (tgt := 11) rfl (fun q1 => ?_) (fun q1 => ?_)
  · obtain ⟨u, u0, hu, rfl⟩ := ng_of q1
    refine mt_bipush dJ6_stringSize_0f7a4_11 (v := -10) (by decide) ?_
    refine mp_istore_n dJ6_stringSize_0f7a4_13 (ls' := [.int (-nI u), .int (nI 1), .int (-10), .double 0]) rfl (by decide) rfl ?_
    refine mt_iconst dJ6_stringSize_0f7a4_14 (v := nI 1) rfl ?_
    refine mp_istore_n dJ6_stringSize_0f7a4_15 (ls' := [.int (-nI u), .int (nI 1), .int (-10), .int (nI 1)]) rfl (by decide) rfl ?_
    refine tJ6_stringSize_0f7a4_16 hu (fun p_2 i_3 z4 z5 => ?_) (fun p_6 i_7 z8 => ?_) _ (-10) 1 (Nat.lt_succ_self _) (⟨by omega, by omega⟩) (fun _ => by decide)
    · refine mt_iload_n dJ6_stringSize_0f7a4_27 rfl ?_
      refine mt_iload_n dJ6_stringSize_0f7a4_28 rfl ?_
      refine mp_iadd dJ6_stringSize_0f7a4_29 (v := nI (i_3 + 1)) (nI_add _ _) ?_
      refine mt_ireturn dJ6_stringSize_0f7a4_30 rfl rfl (Nat.le_of_ble_eq_true rfl) (Nat.le_of_ble_eq_true rfl) ?_
      exact ⟨_, rfl, by omega, by omega, Or.inr ⟨u, i_3, rfl, u0, hu, z4, by omega, by omega⟩, rfl, rfl⟩
    · refine mt_bipush dJ6_stringSize_0f7a4_42 (v := nI 10) (by decide) ?_
      refine mt_iload_n dJ6_stringSize_0f7a4_44 rfl ?_
      refine mp_iadd dJ6_stringSize_0f7a4_45 (v := nI (10 + 1)) (nI_add _ _) ?_
      refine mt_ireturn dJ6_stringSize_0f7a4_46 rfl rfl (Nat.le_of_ble_eq_true rfl) (Nat.le_of_ble_eq_true rfl) ?_
      exact ⟨_, rfl, by omega, by omega, Or.inr ⟨u, 10, rfl, u0, hu, (by omega), by omega, by omega⟩, rfl, rfl⟩
  · obtain ⟨u, u1, rfl⟩ := nI_of q1
    have hu : u ≤ 2 ^ 31 := by omega
    refine mt_iconst dJ6_stringSize_0f7a4_6 (v := nI 0) rfl ?_
    refine mp_istore_n dJ6_stringSize_0f7a4_7 (ls' := [.int (nI u), .int (nI 0), .double 0, .double 0]) rfl (by decide) rfl ?_
    refine mt_iload_n dJ6_stringSize_0f7a4_8 rfl ?_
    refine mt_ineg dJ6_stringSize_0f7a4_9 ?_
    refine mp_istore_n dJ6_stringSize_0f7a4_10 (ls' := [.int (-nI u), .int (nI 0), .double 0, .double 0]) rfl (by decide) rfl ?_
    refine mt_bipush dJ6_stringSize_0f7a4_11 (v := -10) (by decide) ?_
    refine mp_istore_n dJ6_stringSize_0f7a4_13 (ls' := [.int (-nI u), .int (nI 0), .int (-10), .double 0]) rfl (by decide) rfl ?_
    refine mt_iconst dJ6_stringSize_0f7a4_14 (v := nI 1) rfl ?_
    refine mp_istore_n dJ6_stringSize_0f7a4_15 (ls' := [.int (-nI u), .int (nI 0), .int (-10), .int (nI 1)]) rfl (by decide) rfl ?_
    refine tJ6_stringSize_0f7a4_16 hu (fun p_9 i_10 z11 z12 => ?_) (fun p_13 i_14 z15 => ?_) _ (-10) 1 (Nat.lt_succ_self _) (⟨by omega, by omega⟩) (fun _ => by decide)
    · refine mt_iload_n dJ6_stringSize_0f7a4_27 rfl ?_
      refine mt_iload_n dJ6_stringSize_0f7a4_28 rfl ?_
      refine mp_iadd dJ6_stringSize_0f7a4_29 (v := nI (i_10 + 0)) (nI_add _ _) ?_
      refine mt_ireturn dJ6_stringSize_0f7a4_30 rfl rfl (Nat.le_of_ble_eq_true rfl) (Nat.le_of_ble_eq_true rfl) ?_
      exact ⟨_, rfl, by omega, by omega, Or.inl ⟨u, i_10, rfl, u1, z11, by omega, by omega⟩, rfl, rfl⟩
    · refine mt_bipush dJ6_stringSize_0f7a4_42 (v := nI 10) (by decide) ?_
      refine mt_iload_n dJ6_stringSize_0f7a4_44 rfl ?_
      refine mp_iadd dJ6_stringSize_0f7a4_45 (v := nI (10 + 0)) (nI_add _ _) ?_
      refine mt_ireturn dJ6_stringSize_0f7a4_46 rfl rfl (Nat.le_of_ble_eq_true rfl) (Nat.le_of_ble_eq_true rfl) ?_
      exact ⟨_, rfl, by omega, by omega, Or.inl ⟨u, 10, rfl, u1, (by omega), by omega, by omega⟩, rfl, rfl⟩
abbrev rJ6_getChars_ba4f3 : Room := { frames := 0, cells := 0, slots := 0, locals := 0 }
set_option maxRecDepth 100000 in
set_option maxHeartbeats 2000000 in
theorem tJ6_getChars_ba4f3_22 {l : Launch} {R : Room} {K : mK} {cc sc : Nat} {n v index cap sg : Nat} {h0 : mH} (c7 : cap ≤ 700) (kk0 : ∀ (h : mH) (f : Nat → Int32) (u : Nat) (p : Nat) (m : Nat), (u < 100) → (u ≤ 2 ^ 31) → (u < 10 ^ m) → (1 ≤ m) → (sg + m ≤ p) → (p ≤ cap) → (h v = .inl (1, cap, f)) → (bFit f) → (∀ j, j ≠ v → h j = h0 j) → mT l mJ6_getChars_ba4f3 R K 72 [.int (-nI u), .int (nI index), .ref v, .double 0, .double 0, .int (nI p), .int (nI sg)] [] h n cc sc) : ∀ (N0 : Nat) (h : mH) (f : Nat → Int32) (u : Nat) (p : Nat) (m : Nat), u < N0 → (u ≤ 2 ^ 31) → (u < 10 ^ m) → (1 ≤ m) → (sg + m ≤ p) → (p ≤ cap) → (h v = .inl (1, cap, f)) → (bFit f) → (∀ j, j ≠ v → h j = h0 j) → mT l mJ6_getChars_ba4f3 R K 22 [.int (-nI u), .int (nI index), .ref v, .double 0, .double 0, .int (nI p), .int (nI sg)] [] h n cc sc := by
  intro N0
  induction N0 with
  | zero => intro h f u p m hm; exact absurd hm (Nat.not_lt_zero _)
  | succ N0 ih =>
    intro h f u p m hm hu hm m1 hp hc B hf fr
    refine mt_iload_n dJ6_getChars_ba4f3_22 rfl ?_
    refine mt_bipush dJ6_getChars_ba4f3_23 (v := -100) (by decide) ?_
    refine mt_icmp_gt dJ6_getChars_ba4f3_25 (tgt := 72) rfl (fun q1 => ?_) (fun q1 => ?_)
    · exact kk0 h f u p m ((ng_lt (by decide) hu).mp (show -nI 100 < -nI u from q1)) hu hm m1 hp hc B hf fr
    · have h100 : 100 ≤ u := Nat.le_of_not_lt (fun z => q1 ((ng_lt (by decide) hu).mpr z))
      obtain ⟨m9, e9, k9, l9⟩ := dg_step h100 hm
      refine mt_iload_n dJ6_getChars_ba4f3_28 rfl ?_
      refine mt_bipush dJ6_getChars_ba4f3_29 (v := nI 100) (by decide) ?_
      refine mp_idiv dJ6_getChars_ba4f3_31 (mI_ne0 (by decide) (by decide)) (v := -nI (u / 100)) (show -nI u / nI 100 = -nI (u / 100) from ng_div hu) ?_
      refine mp_istore_n dJ6_getChars_ba4f3_32 (ls' := [.int (-nI u), .int (nI index), .ref v, .int (-nI (u / 100)), .double 0, .int (nI p), .int (nI sg)]) rfl (by decide) rfl ?_
      refine mt_iload_n dJ6_getChars_ba4f3_33 rfl ?_
      refine mt_bipush dJ6_getChars_ba4f3_34 (v := nI 100) (by decide) ?_
      refine mp_imul dJ6_getChars_ba4f3_36 (v := (-nI (u / 100)) * (nI 100)) rfl ?_
      refine mt_iload_n dJ6_getChars_ba4f3_37 rfl ?_
      refine mp_isub dJ6_getChars_ba4f3_38 (v := nI (u % 100)) (show -nI (u / 100) * nI 100 - -nI u = nI (u % 100) from ng_rem hu) ?_
      refine mp_istore dJ6_getChars_ba4f3_39 (ls' := [.int (-nI u), .int (nI index), .ref v, .int (-nI (u / 100)), .int (nI (u % 100)), .int (nI p), .int (nI sg)]) rfl (by decide) rfl ?_
      refine mt_iload_n dJ6_getChars_ba4f3_41 rfl ?_
      refine mp_istore_n dJ6_getChars_ba4f3_42 (ls' := [.int (-nI (u / 100)), .int (nI index), .ref v, .int (-nI (u / 100)), .int (nI (u % 100)), .int (nI p), .int (nI sg)]) rfl (by decide) rfl ?_
      refine mt_aload_n dJ6_getChars_ba4f3_43 rfl rfl ?_
      refine mp_iinc dJ6_getChars_ba4f3_44 rfl (v := nI (p - 1)) (mI_dec (by omega)) (ls' := [.int (-nI (u / 100)), .int (nI index), .ref v, .int (-nI (u / 100)), .int (nI (u % 100)), .int (nI (p - 1)), .int (nI sg)]) rfl (by decide) rfl ?_
      refine mt_iload dJ6_getChars_ba4f3_47 rfl ?_
      refine mt_getsO dJ6_getChars_ba4f3_49 mw_773 ?_
      refine mt_iload dJ6_getChars_ba4f3_52 rfl ?_
      refine mt_tb3 dJ6_getChars_ba4f3_54 (j := u % 100) (by omega) (fun x2 => ?_)
      refine mp_bastore dJ6_getChars_ba4f3_55 B (by omega) (by omega) (fun h3 e4 f5 => ?_)
      refine mt_aload_n dJ6_getChars_ba4f3_56 rfl rfl ?_
      refine mp_iinc dJ6_getChars_ba4f3_57 rfl (v := nI ((p - 1) - 1)) (mI_dec (by omega)) (ls' := [.int (-nI (u / 100)), .int (nI index), .ref v, .int (-nI (u / 100)), .int (nI (u % 100)), .int (nI ((p - 1) - 1)), .int (nI sg)]) rfl (by decide) rfl ?_
      refine mt_iload dJ6_getChars_ba4f3_60 rfl ?_
      refine mt_getsT dJ6_getChars_ba4f3_62 mw_775 ?_
      refine mt_iload dJ6_getChars_ba4f3_65 rfl ?_
      refine mt_tb4 dJ6_getChars_ba4f3_67 (j := u % 100) (by omega) (fun x6 => ?_)
      refine mp_bastore dJ6_getChars_ba4f3_68 e4 (by omega) (by omega) (fun h7 e8 f9 => ?_)
      refine mt_goto dJ6_getChars_ba4f3_69 (tgt := 22) rfl ?_
      refine mt_drop 3 (ls' := [.int (-nI (u / 100)), .int (nI index), .ref v, .double 0, .int (nI (u % 100)), .int (nI ((p - 1) - 1)), .int (nI sg)]) rfl ?_
      refine mt_drop 4 (ls' := [.int (-nI (u / 100)), .int (nI index), .ref v, .double 0, .double 0, .int (nI ((p - 1) - 1)), .int (nI sg)]) rfl ?_
      exact ih h7 (upd (upd f (p - 1) (vp_nar .byte x2)) ((p - 1) - 1) (vp_nar .byte x6)) (u / 100) ((p - 1) - 1) m9 (by omega) (by omega) l9 k9 (by omega) (by omega) e8 (((hf).u).u) (fun j hj => ((f9 j (by omega)).trans (f5 j (by omega))).trans (fr j hj))
set_option maxRecDepth 100000 in
set_option maxHeartbeats 2000000 in
theorem kgc_p {l : Launch} (hl : l.stackTraces = false) {h : mH} {n : Nat} {v cap index u m : Nat} {f : Nat → Int32} (c7 : cap ≤ 700) (B : h v = .inl (1, cap, f)) (hf : bFit f) (hi : index ≤ cap) (um : u < 10 ^ m) (m1 : 1 ≤ m) (hu : u ≤ 2 ^ 31) (u1 : u < 2 ^ 31) (md : m ≤ index) : mC l mJ6_getChars_ba4f3 rJ6_getChars_ba4f3 [.int (nI u), .int (nI index), .ref v] h n (fun r h' n' => ∃ y, r = some (.int y) ∧ n' = n ∧ (∃ g, h' v = .inl (1, cap, g) ∧ bFit g) ∧ ∀ j, j ≠ v → h' j = h j) (mNX) := by
  refine mm_enter hl (by decide +kernel) rfl rfl rfl (Nat.le_of_ble_eq_true rfl) ?_
  show mT _ _ _ _ 0 [.int (nI u), .int (nI index), .ref v, .double 0, .double 0, .double 0, .double 0] [] _ _ 0 0
  refine mt_iload_n dJ6_getChars_ba4f3_0 rfl ?_
  refine mp_istore dJ6_getChars_ba4f3_1 (ls' := [.int (nI u), .int (nI index), .ref v, .double 0, .double 0, .int (nI index), .double 0]) rfl (by decide) rfl ?_
  refine mt_iload_n dJ6_getChars_ba4f3_3 rfl ?_
  refine mt_if_ge dJ6_getChars_ba4f3_4 (tgt := 11) rfl (fun q1 => ?_) (fun q1 => ?_)
  · have q1 := Int32.not_lt.mpr q1
    have q1 := (not_congr (mI_lt0 (by omega))).mp q1
    refine mt_iconst dJ6_getChars_ba4f3_11 (v := nI 0) rfl ?_
    refine mp_istore dJ6_getChars_ba4f3_12 (ls' := [.int (nI u), .int (nI index), .ref v, .double 0, .double 0, .int (nI index), .int (nI 0)]) rfl (by decide) rfl ?_
    refine mt_iload dJ6_getChars_ba4f3_14 rfl ?_
    refine mt_if_ne dJ6_getChars_ba4f3_16 (tgt := 22) rfl (fun q2 => ?_) (fun q2 => ?_)
    · have q2 := (not_congr (mI_eq0 (by omega))).mp q2
      exact absurd q2 (by decide)
    · have q2 := (mI_eq0 (by omega)).mp q2
      refine mt_iload_n dJ6_getChars_ba4f3_19 rfl ?_
      refine mt_ineg dJ6_getChars_ba4f3_20 ?_
      refine mp_istore_n dJ6_getChars_ba4f3_21 (ls' := [.int (-nI u), .int (nI index), .ref v, .double 0, .double 0, .int (nI index), .int (nI 0)]) rfl (by decide) rfl ?_
      refine tJ6_getChars_ba4f3_22 c7 (fun h_3 f_4 u_5 p_6 m_7 z8 z9 z10 z11 z12 z13 z14 z15 z16 => ?_) _ h f u index m (Nat.lt_succ_self _) hu um m1 (by omega) (by omega) B hf (fun _ _ => rfl)
      refine mt_aload_n dJ6_getChars_ba4f3_72 rfl rfl ?_
      refine mp_iinc dJ6_getChars_ba4f3_73 rfl (v := nI (p_6 - 1)) (mI_dec (by omega)) (ls' := [.int (-nI u_5), .int (nI index), .ref v, .double 0, .double 0, .int (nI (p_6 - 1)), .int (nI 0)]) rfl (by decide) rfl ?_
      refine mt_iload dJ6_getChars_ba4f3_76 rfl ?_
      refine mt_getsO dJ6_getChars_ba4f3_78 mw_773 ?_
      refine mt_iload_n dJ6_getChars_ba4f3_81 rfl ?_
      refine mt_ineg dJ6_getChars_ba4f3_82 ?_
      rw [show -(-nI u_5) = nI u_5 from ng_neg _]
      refine mt_tb3 dJ6_getChars_ba4f3_83 (j := u_5) (by omega) (fun x17 => ?_)
      refine mp_bastore dJ6_getChars_ba4f3_84 z14 (by omega) (by omega) (fun h18 e19 f20 => ?_)
      refine mt_iload_n dJ6_getChars_ba4f3_85 rfl ?_
      refine mt_bipush dJ6_getChars_ba4f3_86 (v := -9) (by decide) ?_
      refine mt_icmp_ge dJ6_getChars_ba4f3_88 (tgt := 104) rfl (fun q21 => ?_) (fun q21 => ?_)
      · have q21 := Int32.not_lt.mpr q21
        refine mt_iload dJ6_getChars_ba4f3_104 rfl ?_
        refine mt_if_eq dJ6_getChars_ba4f3_106 (tgt := 118) rfl (fun q22 => ?_) (fun q22 => ?_)
        · have q22 := (mI_eq0 (by omega)).mp q22
          refine mt_iload dJ6_getChars_ba4f3_118 rfl ?_
          refine mt_ireturn dJ6_getChars_ba4f3_120 rfl rfl (Nat.le_of_ble_eq_true rfl) (Nat.le_of_ble_eq_true rfl) ?_
          exact ⟨_, rfl, rfl, ⟨_, e19, (z15).u⟩, fun j hj => (f20 j (by omega)).trans (z16 j (by omega))⟩
        · have q22 := (not_congr (mI_eq0 (by omega))).mp q22
          exact absurd q22 (by decide)
      · have q21 := Int32.not_le.mp q21
        have q9 : 9 < u_5 := (ng_lt z9 (by decide)).mp (show -nI u_5 < -nI 9 from q21)
        have m2 := dg_two q9 z10
        refine mt_aload_n dJ6_getChars_ba4f3_91 rfl rfl ?_
        refine mp_iinc dJ6_getChars_ba4f3_92 rfl (v := nI ((p_6 - 1) - 1)) (mI_dec (by omega)) (ls' := [.int (-nI u_5), .int (nI index), .ref v, .double 0, .double 0, .int (nI ((p_6 - 1) - 1)), .int (nI 0)]) rfl (by decide) rfl ?_
        refine mt_iload dJ6_getChars_ba4f3_95 rfl ?_
        refine mt_getsT dJ6_getChars_ba4f3_97 mw_775 ?_
        refine mt_iload_n dJ6_getChars_ba4f3_100 rfl ?_
        refine mt_ineg dJ6_getChars_ba4f3_101 ?_
        rw [show -(-nI u_5) = nI u_5 from ng_neg _]
        refine mt_tb4 dJ6_getChars_ba4f3_102 (j := u_5) (by omega) (fun x23 => ?_)
        refine mp_bastore dJ6_getChars_ba4f3_103 e19 (by omega) (by omega) (fun h24 e25 f26 => ?_)
        refine mt_iload dJ6_getChars_ba4f3_104 rfl ?_
        refine mt_if_eq dJ6_getChars_ba4f3_106 (tgt := 118) rfl (fun q27 => ?_) (fun q27 => ?_)
        · have q27 := (mI_eq0 (by omega)).mp q27
          refine mt_iload dJ6_getChars_ba4f3_118 rfl ?_
          refine mt_ireturn dJ6_getChars_ba4f3_120 rfl rfl (Nat.le_of_ble_eq_true rfl) (Nat.le_of_ble_eq_true rfl) ?_
          exact ⟨_, rfl, rfl, ⟨_, e25, ((z15).u).u⟩, fun j hj => (f26 j (by omega)).trans ((f20 j (by omega)).trans (z16 j (by omega)))⟩
        · have q27 := (not_congr (mI_eq0 (by omega))).mp q27
          exact absurd q27 (by decide)
  · have q1 := Int32.not_le.mp q1
    have q1 := (mI_lt0 (by omega)).mp q1
    exact q1.elim
set_option maxRecDepth 100000 in
set_option maxHeartbeats 2000000 in
theorem kgc_n {l : Launch} (hl : l.stackTraces = false) {h : mH} {n : Nat} {v cap index u m : Nat} {f : Nat → Int32} (c7 : cap ≤ 700) (B : h v = .inl (1, cap, f)) (hf : bFit f) (hi : index ≤ cap) (um : u < 10 ^ m) (m1 : 1 ≤ m) (hu : u ≤ 2 ^ 31) (u0 : 0 < u) (md : m + 1 ≤ index) : mC l mJ6_getChars_ba4f3 rJ6_getChars_ba4f3 [.int (-nI u), .int (nI index), .ref v] h n (fun r h' n' => ∃ y, r = some (.int y) ∧ n' = n ∧ (∃ g, h' v = .inl (1, cap, g) ∧ bFit g) ∧ ∀ j, j ≠ v → h' j = h j) (mNX) := by
  refine mm_enter hl (by decide +kernel) rfl rfl rfl (Nat.le_of_ble_eq_true rfl) ?_
  show mT _ _ _ _ 0 [.int (-nI u), .int (nI index), .ref v, .double 0, .double 0, .double 0, .double 0] [] _ _ 0 0
  refine mt_iload_n dJ6_getChars_ba4f3_0 rfl ?_
  refine mp_istore dJ6_getChars_ba4f3_1 (ls' := [.int (-nI u), .int (nI index), .ref v, .double 0, .double 0, .int (nI index), .double 0]) rfl (by decide) rfl ?_
  refine mt_iload_n dJ6_getChars_ba4f3_3 rfl ?_
  refine mt_if_ge dJ6_getChars_ba4f3_4 (tgt := 11) rfl (fun q1 => ?_) (fun q1 => ?_)
  · have q1 := Int32.not_lt.mpr q1
    exact absurd (ng_neg0 u0 hu) q1
  · have q1 := Int32.not_le.mp q1
    refine mt_iconst dJ6_getChars_ba4f3_7 (v := nI 1) rfl ?_
    refine mt_goto dJ6_getChars_ba4f3_8 (tgt := 12) rfl ?_
    refine mp_istore dJ6_getChars_ba4f3_12 (ls' := [.int (-nI u), .int (nI index), .ref v, .double 0, .double 0, .int (nI index), .int (nI 1)]) rfl (by decide) rfl ?_
    refine mt_iload dJ6_getChars_ba4f3_14 rfl ?_
    refine mt_if_ne dJ6_getChars_ba4f3_16 (tgt := 22) rfl (fun q2 => ?_) (fun q2 => ?_)
    · have q2 := (not_congr (mI_eq0 (by omega))).mp q2
      refine tJ6_getChars_ba4f3_22 c7 (fun h_3 f_4 u_5 p_6 m_7 z8 z9 z10 z11 z12 z13 z14 z15 z16 => ?_) _ h f u index m (Nat.lt_succ_self _) hu um m1 (by omega) (by omega) B hf (fun _ _ => rfl)
      refine mt_aload_n dJ6_getChars_ba4f3_72 rfl rfl ?_
      refine mp_iinc dJ6_getChars_ba4f3_73 rfl (v := nI (p_6 - 1)) (mI_dec (by omega)) (ls' := [.int (-nI u_5), .int (nI index), .ref v, .double 0, .double 0, .int (nI (p_6 - 1)), .int (nI 1)]) rfl (by decide) rfl ?_
      refine mt_iload dJ6_getChars_ba4f3_76 rfl ?_
      refine mt_getsO dJ6_getChars_ba4f3_78 mw_773 ?_
      refine mt_iload_n dJ6_getChars_ba4f3_81 rfl ?_
      refine mt_ineg dJ6_getChars_ba4f3_82 ?_
      rw [show -(-nI u_5) = nI u_5 from ng_neg _]
      refine mt_tb3 dJ6_getChars_ba4f3_83 (j := u_5) (by omega) (fun x17 => ?_)
      refine mp_bastore dJ6_getChars_ba4f3_84 z14 (by omega) (by omega) (fun h18 e19 f20 => ?_)
      refine mt_iload_n dJ6_getChars_ba4f3_85 rfl ?_
      refine mt_bipush dJ6_getChars_ba4f3_86 (v := -9) (by decide) ?_
      refine mt_icmp_ge dJ6_getChars_ba4f3_88 (tgt := 104) rfl (fun q21 => ?_) (fun q21 => ?_)
      · have q21 := Int32.not_lt.mpr q21
        refine mt_iload dJ6_getChars_ba4f3_104 rfl ?_
        refine mt_if_eq dJ6_getChars_ba4f3_106 (tgt := 118) rfl (fun q22 => ?_) (fun q22 => ?_)
        · have q22 := (mI_eq0 (by omega)).mp q22
          exact absurd q22 (by decide)
        · have q22 := (not_congr (mI_eq0 (by omega))).mp q22
          refine mt_aload_n dJ6_getChars_ba4f3_109 rfl rfl ?_
          refine mp_iinc dJ6_getChars_ba4f3_110 rfl (v := nI ((p_6 - 1) - 1)) (mI_dec (by omega)) (ls' := [.int (-nI u_5), .int (nI index), .ref v, .double 0, .double 0, .int (nI ((p_6 - 1) - 1)), .int (nI 1)]) rfl (by decide) rfl ?_
          refine mt_iload dJ6_getChars_ba4f3_113 rfl ?_
          refine mt_bipush dJ6_getChars_ba4f3_115 (v := nI 45) (by decide) ?_
          refine mp_bastore dJ6_getChars_ba4f3_117 e19 (by omega) (by omega) (fun h23 e24 f25 => ?_)
          refine mt_iload dJ6_getChars_ba4f3_118 rfl ?_
          refine mt_ireturn dJ6_getChars_ba4f3_120 rfl rfl (Nat.le_of_ble_eq_true rfl) (Nat.le_of_ble_eq_true rfl) ?_
          exact ⟨_, rfl, rfl, ⟨_, e24, ((z15).u).u⟩, fun j hj => (f25 j (by omega)).trans ((f20 j (by omega)).trans (z16 j (by omega)))⟩
      · have q21 := Int32.not_le.mp q21
        have q9 : 9 < u_5 := (ng_lt z9 (by decide)).mp (show -nI u_5 < -nI 9 from q21)
        have m2 := dg_two q9 z10
        refine mt_aload_n dJ6_getChars_ba4f3_91 rfl rfl ?_
        refine mp_iinc dJ6_getChars_ba4f3_92 rfl (v := nI ((p_6 - 1) - 1)) (mI_dec (by omega)) (ls' := [.int (-nI u_5), .int (nI index), .ref v, .double 0, .double 0, .int (nI ((p_6 - 1) - 1)), .int (nI 1)]) rfl (by decide) rfl ?_
        refine mt_iload dJ6_getChars_ba4f3_95 rfl ?_
        refine mt_getsT dJ6_getChars_ba4f3_97 mw_775 ?_
        refine mt_iload_n dJ6_getChars_ba4f3_100 rfl ?_
        refine mt_ineg dJ6_getChars_ba4f3_101 ?_
        rw [show -(-nI u_5) = nI u_5 from ng_neg _]
        refine mt_tb4 dJ6_getChars_ba4f3_102 (j := u_5) (by omega) (fun x26 => ?_)
        refine mp_bastore dJ6_getChars_ba4f3_103 e19 (by omega) (by omega) (fun h27 e28 f29 => ?_)
        refine mt_iload dJ6_getChars_ba4f3_104 rfl ?_
        refine mt_if_eq dJ6_getChars_ba4f3_106 (tgt := 118) rfl (fun q30 => ?_) (fun q30 => ?_)
        · have q30 := (mI_eq0 (by omega)).mp q30
          exact absurd q30 (by decide)
        · have q30 := (not_congr (mI_eq0 (by omega))).mp q30
          refine mt_aload_n dJ6_getChars_ba4f3_109 rfl rfl ?_
          refine mp_iinc dJ6_getChars_ba4f3_110 rfl (v := nI (((p_6 - 1) - 1) - 1)) (mI_dec (by omega)) (ls' := [.int (-nI u_5), .int (nI index), .ref v, .double 0, .double 0, .int (nI (((p_6 - 1) - 1) - 1)), .int (nI 1)]) rfl (by decide) rfl ?_
          refine mt_iload dJ6_getChars_ba4f3_113 rfl ?_
          refine mt_bipush dJ6_getChars_ba4f3_115 (v := nI 45) (by decide) ?_
          refine mp_bastore dJ6_getChars_ba4f3_117 e28 (by omega) (by omega) (fun h31 e32 f33 => ?_)
          refine mt_iload dJ6_getChars_ba4f3_118 rfl ?_
          refine mt_ireturn dJ6_getChars_ba4f3_120 rfl rfl (Nat.le_of_ble_eq_true rfl) (Nat.le_of_ble_eq_true rfl) ?_
          exact ⟨_, rfl, rfl, ⟨_, e32, (((z15).u).u).u⟩, fun j hj => (f33 j (by omega)).trans ((f29 j (by omega)).trans ((f20 j (by omega)).trans (z16 j (by omega))))⟩
    · have q2 := (mI_eq0 (by omega)).mp q2
      exact absurd q2 (by decide)
theorem kJ6_getChars_ba4f3 {l : Launch} (hl : l.stackTraces = false) {h : mH} {n v cap index d : Nat} {f : Nat → Int32} {x : Int32} (hc : cFit x d) (c7 : cap ≤ 700) (B : h v = .inl (1, cap, f)) (hf : bFit f) (hd : d ≤ index) (hi : index ≤ cap) : mC l mJ6_getChars_ba4f3 rJ6_getChars_ba4f3 [.int x, .int (nI index), .ref v] h n (fun r h' n' => ∃ y, r = some (.int y) ∧ n' = n ∧ (∃ g, h' v = .inl (1, cap, g) ∧ bFit g) ∧ ∀ j, j ≠ v → h' j = h j) mNX := by
  rcases hc with ⟨u, m, rfl, u1, um, m1, md⟩ | ⟨u, m, rfl, u0, u1, um, m1, md⟩
  · exact kgc_p hl c7 B hf hi um m1 (by omega) u1 (by omega)
  · exact kgc_n hl c7 B hf hi um m1 u1 u0 (by omega)
