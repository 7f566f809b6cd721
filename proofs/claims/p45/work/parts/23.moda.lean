/-! ===== the reference: its small methods ===== -/
abbrev rX4_isIn : Room := { frames := 0, cells := 0, slots := 0, locals := 0 }
set_option maxRecDepth 100000 in
set_option maxHeartbeats 2000000 in
theorem kX4_isIn {l : Launch} (hl : l.stackTraces = false) {h : mH} {n : Nat} {v a b : Int32}  : mC l mX4_isIn rX4_isIn [.int v, .int a, .int b] h n (mRi (mb (inR v a b)) h n) (mNX) := by
  refine mm_enter hl (by decide +kernel) rfl rfl rfl (Nat.le_of_ble_eq_true rfl) ?_
  show mT _ _ _ _ 0 [.int v, .int a, .int b] [] _ _ 0 0
  refine mt_iload_n dX4_isIn_0 rfl ?_
  refine mt_iload_n dX4_isIn_1 rfl ?_
  refine mt_icmp_lt dX4_isIn_2 (tgt := 14) rfl (fun q1 => ?_) (fun q1 => ?_)
  · refine mt_iconst dX4_isIn_14 (v := nI 0) rfl ?_
    refine mt_ireturn dX4_isIn_15 rfl rfl (Nat.le_of_ble_eq_true rfl) (Nat.le_of_ble_eq_true rfl) ?_
    exact ⟨congrArg (fun b => some (Value.int (mb b))) (show false = inR v a b from by simp [inR, decide_eq_true q1]), rfl, rfl⟩
  · refine mt_iload_n dX4_isIn_5 rfl ?_
    refine mt_iload_n dX4_isIn_6 rfl ?_
    refine mt_icmp_gt dX4_isIn_7 (tgt := 14) rfl (fun q2 => ?_) (fun q2 => ?_)
    · refine mt_iconst dX4_isIn_14 (v := nI 0) rfl ?_
      refine mt_ireturn dX4_isIn_15 rfl rfl (Nat.le_of_ble_eq_true rfl) (Nat.le_of_ble_eq_true rfl) ?_
      exact ⟨congrArg (fun b => some (Value.int (mb b))) (show false = inR v a b from by simp [inR, decide_eq_false q1, decide_eq_true q2]), rfl, rfl⟩
    · refine mt_iconst dX4_isIn_10 (v := nI 1) rfl ?_
      refine mt_goto dX4_isIn_11 (tgt := 15) rfl ?_
      refine mt_ireturn dX4_isIn_15 rfl rfl (Nat.le_of_ble_eq_true rfl) (Nat.le_of_ble_eq_true rfl) ?_
      exact ⟨congrArg (fun b => some (Value.int (mb b))) (show true = inR v a b from by simp [inR, decide_eq_false q1, decide_eq_false q2]), rfl, rfl⟩
abbrev rX4_isRow : Room := { frames := 1, cells := 0, slots := 0, locals := 22 }
set_option maxRecDepth 100000 in
set_option maxHeartbeats 2000000 in
theorem kX4_isRow {l : Launch} (hl : l.stackTraces = false) {h : mH} {n : Nat} {row : Int32}  : mC l mX4_isRow rX4_isRow [.int row] h n (mRi (mb (inN 4 row).isSome) h n) (mNX) := by
  refine mm_enter hl (by decide +kernel) rfl rfl rfl (Nat.le_of_ble_eq_true rfl) ?_
  show mT _ _ _ _ 0 [.int row] [] _ _ 0 0
  refine mt_iload_n dX4_isRow_0 rfl ?_
  refine mt_iconst dX4_isRow_1 (v := nI 0) rfl ?_
  refine mt_iconst dX4_isRow_2 (v := nI 3) rfl ?_
  refine mt_callS (N := mX4_isIn) (Rc := rX4_isIn) (As := [.int row, .int (nI 0), .int (nI 3)]) (st := []) dX4_isRow_3 (kX4_isIn hl) sX4_isIn mw_1082 rfl (Nat.le_of_ble_eq_true rfl) ⟨⟨Nat.le_of_ble_eq_true rfl, Nat.le_of_ble_eq_true rfl⟩, Nat.le_of_ble_eq_true rfl, Nat.le_of_ble_eq_true rfl⟩ (fun v1 h2 n3 c4 => ?_) (fun _ _ _ hx => hx.elim)
  obtain ⟨c4a, c4b, c4c⟩ := c4
  rw [c4a, c4b, c4c]
  show mT _ _ _ _ 6 [.int row] [.int (mb (inR row (nI 0) (nI 3)))] _ _ _ _
  refine mt_ireturn dX4_isRow_6 rfl narrow_mb (Nat.le_of_ble_eq_true rfl) (Nat.le_of_ble_eq_true rfl) ?_
  exact ⟨congrArg (fun b => some (Value.int (mb b))) (inR_in (k := 3) (by decide)), rfl, rfl⟩
abbrev rX4_room : Room := { frames := 0, cells := 0, slots := 0, locals := 0 }
set_option maxRecDepth 100000 in
set_option maxHeartbeats 2000000 in
theorem kX4_room {l : Launch} (hl : l.stackTraces = false) {h : mH} {n : Nat} {r : Nat} (hr : r < 4) : mC l mX4_room rX4_room [.int (nI r)] h n (mRi (nI (rroom r)) h n) (mNX) := by
  refine mm_enter hl (by decide +kernel) rfl rfl rfl (Nat.le_of_ble_eq_true rfl) ?_
  show mT _ _ _ _ 0 [.int (nI r)] [] _ _ 0 0
  refine mt_iload_n dX4_room_0 rfl ?_
  refine mt_iconst dX4_room_1 (v := nI 3) rfl ?_
  refine mt_icmp_ne dX4_room_2 (tgt := 11) rfl (fun q1 => ?_) (fun q1 => ?_)
  · have q1 := (not_congr (nI_eq (by omega) (by omega))).mp q1
    refine mt_sipush dX4_room_11 (v := nI 150) (by decide) ?_
    refine mt_ireturn dX4_room_14 rfl rfl (Nat.le_of_ble_eq_true rfl) (Nat.le_of_ble_eq_true rfl) ?_
    exact ⟨by simp only [rroom, if_neg q1], rfl, rfl⟩
  · have q1 := (nI_eq (by omega) (by omega)).mp q1
    refine mt_sipush dX4_room_5 (v := nI 320) (by decide) ?_
    refine mt_goto dX4_room_8 (tgt := 14) rfl ?_
    refine mt_ireturn dX4_room_14 rfl rfl (Nat.le_of_ble_eq_true rfl) (Nat.le_of_ble_eq_true rfl) ?_
    exact ⟨by simp only [rroom, if_pos q1], rfl, rfl⟩
abbrev rX4_did : Room := { frames := 0, cells := 0, slots := 0, locals := 0 }
set_option maxRecDepth 100000 in
set_option maxHeartbeats 2000000 in
theorem kX4_did {l : Launch} (hl : l.stackTraces = false) {h : mH} {n k28 k33 : Nat} {g ac rf kn th : Int32} {x : Int32} (C0 : h 27 = .inr (.inr (6, [.ref k28, .ref k33, .int g, .int ac, .int rf, .int kn, .int th]))) : mC l mX4_did rX4_did [.ref 27, .int x] h n (fun v h' n' => v = some (.int (x)) ∧ n' = n ∧ h' 27 = .inr (.inr (6, [.ref k28, .ref k33, .int g, .int (ac + nI 1), .int rf, .int kn, .int th])) ∧ ∀ j, j ≠ 27 → h' j = h j) (mNX) := by
  refine mm_enter hl (by decide +kernel) rfl rfl rfl (Nat.le_of_ble_eq_true rfl) ?_
  show mT _ _ _ _ 0 [.ref 27, .int x] [] _ _ 0 0
  refine mt_aload_n dX4_did_0 rfl rfl ?_
  refine mt_dup dX4_did_1 rfl ?_
  refine mt_getfield mKX4 (i := 3) (by decide) mw_1056 dX4_did_2 C0 rfl ?_
  refine mt_iconst dX4_did_5 (v := nI 1) rfl ?_
  refine mp_iadd dX4_did_6 (v := ac + (nI 1)) rfl ?_
  refine mp_putfield mKX4 (i := 3) (fs' := [.ref k28, .ref k33, .int g, .int (ac + (nI 1)), .int rf, .int kn, .int th]) (by decide) mw_1056 rfl dX4_did_7 C0 (Nat.le_of_ble_eq_true rfl) rfl rfl (fun h1 e2 f3 => ?_)
  refine mt_iload_n dX4_did_10 rfl ?_
  refine mt_ireturn dX4_did_11 rfl rfl (Nat.le_of_ble_eq_true rfl) (Nat.le_of_ble_eq_true rfl) ?_
  exact ⟨rfl, rfl, e2, fun j hj => f3 j (by omega)⟩
abbrev rX4_refuse : Room := { frames := 0, cells := 0, slots := 0, locals := 0 }
set_option maxRecDepth 100000 in
set_option maxHeartbeats 2000000 in
theorem kX4_refuse {l : Launch} (hl : l.stackTraces = false) {h : mH} {n k28 k33 : Nat} {g ac rf kn th : Int32} (C0 : h 27 = .inr (.inr (6, [.ref k28, .ref k33, .int g, .int ac, .int rf, .int kn, .int th]))) : mC l mX4_refuse rX4_refuse [.ref 27] h n (fun v h' n' => v = some (.int (-9)) ∧ n' = n ∧ h' 27 = .inr (.inr (6, [.ref k28, .ref k33, .int g, .int ac, .int (rf + nI 1), .int kn, .int th])) ∧ ∀ j, j ≠ 27 → h' j = h j) (mNX) := by
  refine mm_enter hl (by decide +kernel) rfl rfl rfl (Nat.le_of_ble_eq_true rfl) ?_
  show mT _ _ _ _ 0 [.ref 27] [] _ _ 0 0
  refine mt_aload_n dX4_refuse_0 rfl rfl ?_
  refine mt_dup dX4_refuse_1 rfl ?_
  refine mt_getfield mKX4 (i := 4) (by decide) mw_1057 dX4_refuse_2 C0 rfl ?_
  refine mt_iconst dX4_refuse_5 (v := nI 1) rfl ?_
  refine mp_iadd dX4_refuse_6 (v := rf + (nI 1)) rfl ?_
  refine mp_putfield mKX4 (i := 4) (fs' := [.ref k28, .ref k33, .int g, .int ac, .int (rf + (nI 1)), .int kn, .int th]) (by decide) mw_1057 rfl dX4_refuse_7 C0 (Nat.le_of_ble_eq_true rfl) rfl rfl (fun h1 e2 f3 => ?_)
  refine mt_bipush dX4_refuse_10 (v := -9) (by decide) ?_
  refine mt_ireturn dX4_refuse_12 rfl rfl (Nat.le_of_ble_eq_true rfl) (Nat.le_of_ble_eq_true rfl) ?_
  exact ⟨rfl, rfl, e2, fun j hj => f3 j (by omega)⟩
abbrev rX4_isLet : Room := { frames := 0, cells := 0, slots := 0, locals := 0 }
set_option maxRecDepth 100000 in
set_option maxHeartbeats 2000000 in
theorem kX4_isLet {l : Launch} (hl : l.stackTraces = false) {h : mH} {n k28 k33 : Nat} {g ac rf kn th : Int32} {t f : Bool} (C0 : h 27 = .inr (.inr (6, [.ref k28, .ref k33, .int g, .int ac, .int rf, .int kn, .int th]))) : mC l mX4_isLet rX4_isLet [.ref 27, .int (mb (t)), .int (mb (f))] h n (fun v h' n' => v = some (.int (mb (t && f))) ∧ n' = n ∧ h' 27 = .inr (.inr (6, [.ref k28, .ref k33, .int g, .int ac, .int rf, .int kn, .int (th3 t f)])) ∧ ∀ j, j ≠ 27 → h' j = h j) (mNX) := by
  refine mm_enter hl (by decide +kernel) rfl rfl rfl (Nat.le_of_ble_eq_true rfl) ?_
  show mT _ _ _ _ 0 [.ref 27, .int (mb (t)), .int (mb (f))] [] _ _ 0 0
  refine mt_aload_n dX4_isLet_0 rfl rfl ?_
  refine mt_iload_n dX4_isLet_1 rfl ?_
  refine mt_if_ne dX4_isLet_2 (tgt := 9) rfl (fun q1 => ?_) (fun q1 => ?_)
  · have q1 : t = true := mb_1.mp q1
    refine mt_iload_n dX4_isLet_9 rfl ?_
    refine mt_if_ne dX4_isLet_10 (tgt := 17) rfl (fun q2 => ?_) (fun q2 => ?_)
    · have q2 : f = true := mb_1.mp q2
      refine mt_iconst dX4_isLet_17 (v := nI 0) rfl ?_
      refine mp_putfield mKX4 (i := 6) (fs' := [.ref k28, .ref k33, .int g, .int ac, .int rf, .int kn, .int (nI 0)]) (by decide) mw_1059 rfl dX4_isLet_18 C0 (Nat.le_of_ble_eq_true rfl) rfl rfl (fun h3 e4 f5 => ?_)
      refine mt_aload_n dX4_isLet_21 rfl rfl ?_
      refine mt_getfield mKX4 (i := 6) (by decide) mw_1059 dX4_isLet_22 e4 rfl ?_
      refine mt_if_ne dX4_isLet_25 (tgt := 32) rfl (fun q6 => ?_) (fun q6 => ?_)
      · have q6 := (not_congr (mI_eq0 (by omega))).mp q6
        exact absurd q6 (by decide)
      · have q6 := (mI_eq0 (by omega)).mp q6
        refine mt_iconst dX4_isLet_28 (v := nI 1) rfl ?_
        refine mt_goto dX4_isLet_29 (tgt := 33) rfl ?_
        refine mt_ireturn dX4_isLet_33 rfl rfl (Nat.le_of_ble_eq_true rfl) (Nat.le_of_ble_eq_true rfl) ?_
        exact ⟨congrArg (fun b => some (Value.int (mb b))) (show true = (t && f) from by simp [q1, q2, decide_eq_true q6]), rfl, (e4).trans (by simp only [th3, q1, q2, decide_eq_true q6, if_true, if_false, Bool.true_eq_false]), fun j hj => f5 j (by omega)⟩
    · have q2 : f = false := mb_0.mp q2
      refine mt_iconst dX4_isLet_13 (v := nI 2) rfl ?_
      refine mt_goto dX4_isLet_14 (tgt := 18) rfl ?_
      refine mp_putfield mKX4 (i := 6) (fs' := [.ref k28, .ref k33, .int g, .int ac, .int rf, .int kn, .int (nI 2)]) (by decide) mw_1059 rfl dX4_isLet_18 C0 (Nat.le_of_ble_eq_true rfl) rfl rfl (fun h7 e8 f9 => ?_)
      refine mt_aload_n dX4_isLet_21 rfl rfl ?_
      refine mt_getfield mKX4 (i := 6) (by decide) mw_1059 dX4_isLet_22 e8 rfl ?_
      refine mt_if_ne dX4_isLet_25 (tgt := 32) rfl (fun q10 => ?_) (fun q10 => ?_)
      · have q10 := (not_congr (mI_eq0 (by omega))).mp q10
        refine mt_iconst dX4_isLet_32 (v := nI 0) rfl ?_
        refine mt_ireturn dX4_isLet_33 rfl rfl (Nat.le_of_ble_eq_true rfl) (Nat.le_of_ble_eq_true rfl) ?_
        exact ⟨congrArg (fun b => some (Value.int (mb b))) (show false = (t && f) from by simp [q1, q2, decide_eq_false q10]), rfl, (e8).trans (by simp only [th3, q1, q2, decide_eq_false q10, if_true, if_false, Bool.true_eq_false]), fun j hj => f9 j (by omega)⟩
      · have q10 := (mI_eq0 (by omega)).mp q10
        exact absurd q10 (by decide)
  · have q1 : t = false := mb_0.mp q1
    refine mt_iconst dX4_isLet_5 (v := nI 1) rfl ?_
    refine mt_goto dX4_isLet_6 (tgt := 18) rfl ?_
    refine mp_putfield mKX4 (i := 6) (fs' := [.ref k28, .ref k33, .int g, .int ac, .int rf, .int kn, .int (nI 1)]) (by decide) mw_1059 rfl dX4_isLet_18 C0 (Nat.le_of_ble_eq_true rfl) rfl rfl (fun h11 e12 f13 => ?_)
    refine mt_aload_n dX4_isLet_21 rfl rfl ?_
    refine mt_getfield mKX4 (i := 6) (by decide) mw_1059 dX4_isLet_22 e12 rfl ?_
    refine mt_if_ne dX4_isLet_25 (tgt := 32) rfl (fun q14 => ?_) (fun q14 => ?_)
    · have q14 := (not_congr (mI_eq0 (by omega))).mp q14
      refine mt_iconst dX4_isLet_32 (v := nI 0) rfl ?_
      refine mt_ireturn dX4_isLet_33 rfl rfl (Nat.le_of_ble_eq_true rfl) (Nat.le_of_ble_eq_true rfl) ?_
      exact ⟨congrArg (fun b => some (Value.int (mb b))) (show false = (t && f) from by simp [q1, decide_eq_false q14]), rfl, (e12).trans (by simp only [th3, q1, decide_eq_false q14, if_true, if_false, Bool.true_eq_false]), fun j hj => f13 j (by omega)⟩
    · have q14 := (mI_eq0 (by omega)).mp q14
      exact absurd q14 (by decide)
abbrev rX4_side : Room := { frames := 0, cells := 0, slots := 0, locals := 0 }
set_option maxRecDepth 100000 in
set_option maxHeartbeats 2000000 in
theorem kX4_side {l : Launch} (hl : l.stackTraces = false) {h : mH} {n : Nat} {x y : Int32}  : mC l mX4_side rX4_side [.int x, .int y] h n (mRi (sideF x y) h n) (mNX) := by
  refine mm_enter hl (by decide +kernel) rfl rfl rfl (Nat.le_of_ble_eq_true rfl) ?_
  show mT _ _ _ _ 0 [.int x, .int y] [] _ _ 0 0
  refine mt_iload_n dX4_side_0 rfl ?_
  refine mt_iload_n dX4_side_1 rfl ?_
  refine mt_icmp_ge dX4_side_2 (tgt := 9) rfl (fun q1 => ?_) (fun q1 => ?_)
  · have q1 := Int32.not_lt.mpr q1
    refine mt_iload_n dX4_side_9 rfl ?_
    refine mt_iload_n dX4_side_10 rfl ?_
    refine mt_icmp_ne dX4_side_11 (tgt := 18) rfl (fun q2 => ?_) (fun q2 => ?_)
    · refine mt_iconst dX4_side_18 (v := nI 1) rfl ?_
      refine mt_ireturn dX4_side_19 rfl rfl (Nat.le_of_ble_eq_true rfl) (Nat.le_of_ble_eq_true rfl) ?_
      exact ⟨by simp only [sideF, if_neg q1, if_neg q2], rfl, rfl⟩
    · refine mt_iconst dX4_side_14 (v := nI 0) rfl ?_
      refine mt_goto dX4_side_15 (tgt := 19) rfl ?_
      refine mt_ireturn dX4_side_19 rfl rfl (Nat.le_of_ble_eq_true rfl) (Nat.le_of_ble_eq_true rfl) ?_
      exact ⟨by simp only [sideF, if_neg q1, if_pos q2], rfl, rfl⟩
  · have q1 := Int32.not_le.mp q1
    refine mt_iconst dX4_side_5 (v := -1) rfl ?_
    refine mt_goto dX4_side_6 (tgt := 19) rfl ?_
    refine mt_ireturn dX4_side_19 rfl rfl (Nat.le_of_ble_eq_true rfl) (Nat.le_of_ble_eq_true rfl) ?_
    exact ⟨by simp only [sideF, if_pos q1], rfl, rfl⟩
set_option maxRecDepth 100000 in
set_option maxHeartbeats 2000000 in
theorem tX4_part_9 {l : Launch} {R : Room} {K : mK} {cc sc : Nat} {n nn : Nat} {h0 : mH} {a la s t : Nat} {f : Nat → Int32} (e0_0 : h0 a = .inl (0, la, f)) (hne_0 : a ≠ nn) (hst : s ≤ t) (htl : t ≤ la) (hla : la ≤ 640) (kk0 : ∀ (k : Nat) (h : mH) (g : Nat → Int32), (h nn = .inl (0, (t - s), g)) → (∀ i, i < (t - s) → g i = f (s + i)) → (∀ j, j ≠ nn → h j = h0 j) → mT l mX4_part R K 31 [.ref a, .int (nI s), .int (nI t), .ref nn, .int (nI k)] [] h n cc sc) : ∀ (N0 : Nat) (k : Nat) (h : mH) (g : Nat → Int32), (t - k) < N0 → (h nn = .inl (0, (t - s), g)) → (∀ i, i < k - s → g i = f (s + i)) → (∀ j, j ≠ nn → h j = h0 j) → (s ≤ k) → (k ≤ t) → mT l mX4_part R K 9 [.ref a, .int (nI s), .int (nI t), .ref nn, .int (nI k)] [] h n cc sc := by
  intro N0
  induction N0 with
  | zero => intro k h g hm; exact absurd hm (Nat.not_lt_zero _)
  | succ N0 ih =>
    intro k h g hm eN hg hfr hv1 hv2
    have ea := (hfr a (by omega)).trans e0_0
    refine mt_iload dX4_part_9 rfl ?_
    refine mt_iload_n dX4_part_11 rfl ?_
    refine mt_icmp_ge dX4_part_12 (tgt := 31) rfl (fun q1 => ?_) (fun q1 => ?_)
    · have q1 := Int32.not_lt.mpr q1
      have q1 := (not_congr (nI_ltI (by omega) (by omega))).mp q1
      exact kk0 k h g eN (fun i hi => hg i (by omega)) hfr
    · have q1 := Int32.not_le.mp q1
      have q1 := (nI_ltI (by omega) (by omega)).mp q1
      refine mt_aload_n dX4_part_15 rfl rfl ?_
      refine mt_iload dX4_part_16 rfl ?_
      refine mt_iload_n dX4_part_18 rfl ?_
      refine mp_isub dX4_part_19 (v := nI (k - s)) (pk_sub (by omega)) ?_
      refine mt_aload_n dX4_part_20 rfl rfl ?_
      refine mt_iload dX4_part_21 rfl ?_
      refine mp_iaload dX4_part_23 ea rfl (by omega) (by omega) (v := f k) rfl ?_
      refine mp_iastore dX4_part_24 eN rfl (by omega) (by omega) (fun h2 e3 f4 => ?_)
      refine mp_iinc dX4_part_25 rfl (v := nI (k + 1)) mI_inc (ls' := [.ref a, .int (nI s), .int (nI t), .ref nn, .int (nI (k + 1))]) rfl (by decide) rfl ?_
      refine mt_goto dX4_part_28 (tgt := 9) rfl ?_
      exact ih (k + 1) h2 (upd g (k - s) (f k)) (by omega) e3 (fun i hi => arr_step (F := fun i => f (s + i)) hg (show f k = f (s + (k - s)) from congrArg f (by omega)) i (by omega)) (fun j hj => (f4 j (by omega)).trans (hfr j hj)) (by omega) (by omega)
abbrev rX4_part : Room := { frames := 0, cells := 1, slots := 640, locals := 0 }
set_option maxRecDepth 100000 in
set_option maxHeartbeats 2000000 in
theorem kX4_part {l : Launch} (hl : l.stackTraces = false) {h : mH} {n : Nat} {a la s t : Nat} {f : Nat → Int32} (ea : h a = .inl (0, la, f)) (hst : s ≤ t) (htl : t ≤ la) (hla : la ≤ 640) (han : a < n) : mC l mX4_part rX4_part [.ref a, .int (nI s), .int (nI t)] h n (mArr (t - s) (fun i => f (s + i)) h n) (mNX) := by
  refine mm_enter hl (by decide +kernel) rfl rfl rfl (Nat.le_of_ble_eq_true rfl) ?_
  show mT _ _ _ _ 0 [.ref a, .int (nI s), .int (nI t), .double 0, .double 0] [] _ _ 0 0
  refine mt_iload_n dX4_part_0 rfl ?_
  refine mt_iload_n dX4_part_1 rfl ?_
  refine mp_isub dX4_part_2 (v := nI (t - s)) (pk_sub (by omega)) ?_
  refine mp_newarray dX4_part_3 mw_87 rfl (by omega) (by simp only [rX4_part]; omega) (by simp only [rX4_part]; omega) (fun h1 e2 f3 => ?_)
  refine mp_astore_n dX4_part_5 (ls' := [.ref a, .int (nI s), .int (nI t), .ref n, .double 0]) rfl rfl (by decide) rfl ?_
  refine mt_iload_n dX4_part_6 rfl ?_
  refine mp_istore dX4_part_7 (ls' := [.ref a, .int (nI s), .int (nI t), .ref n, .int (nI s)]) rfl (by decide) rfl ?_
  refine tX4_part_9 ((f3 (a) (by omega)).trans ea) (by omega) hst htl hla (fun k_4 h_5 g_6 z7 z8 z9 => ?_) _ s h1 _ (Nat.lt_succ_self _) e2 (fun i hi => absurd hi (by omega)) (fun _ _ => rfl) (by omega) (by omega)
  refine mt_aload_n dX4_part_31 rfl rfl ?_
  refine mt_areturn dX4_part_32 rfl (by first | exact Or.inl ⟨_, rfl⟩ | exact Or.inr ⟨_, rfl⟩) rfl (by simp only [rX4_part]; omega) (by simp only [rX4_part]; omega) ?_
  exact ⟨rfl, rfl, ⟨_, z7, z8⟩, fun j hj => (z9 j hj).trans (f3 j hj)⟩
set_option maxRecDepth 100000 in
set_option maxHeartbeats 2000000 in
theorem tX4_both_10 {l : Launch} {R : Room} {K : mK} {cc sc : Nat} {n nn : Nat} {h0 : mH} {a b la lb : Nat} {f f2 : Nat → Int32} (e0_0 : h0 a = .inl (0, la, f)) (e0_1 : h0 b = .inl (0, lb, f2)) (hne_0 : a ≠ nn) (hne_1 : b ≠ nn) (hla : la + lb ≤ 640) (kk0 : ∀ (k : Nat) (h : mH) (g : Nat → Int32), (h nn = .inl (0, (la + lb), g)) → (∀ i, i < (la + lb) → g i = bothF la f f2 i) → (∀ j, j ≠ nn → h j = h0 j) → mT l mX4_both R K 43 [.ref a, .ref b, .ref nn, .int (nI k)] [] h n cc sc) : ∀ (N0 : Nat) (k : Nat) (h : mH) (g : Nat → Int32), ((la + lb) - k) < N0 → (h nn = .inl (0, (la + lb), g)) → (∀ i, i < k → g i = bothF la f f2 i) → (∀ j, j ≠ nn → h j = h0 j) → (0 ≤ k) → (k ≤ (la + lb)) → mT l mX4_both R K 10 [.ref a, .ref b, .ref nn, .int (nI k)] [] h n cc sc := by
  intro N0
  induction N0 with
  | zero => intro k h g hm; exact absurd hm (Nat.not_lt_zero _)
  | succ N0 ih =>
    intro k h g hm eN hg hfr hv1 hv2
    have ea := (hfr a (by omega)).trans e0_0
    have eb := (hfr b (by omega)).trans e0_1
    refine mt_iload_n dX4_both_10 rfl ?_
    refine mt_aload_n dX4_both_11 rfl rfl ?_
    refine mt_alen dX4_both_12 eN (by decide) ?_
    refine mt_icmp_ge dX4_both_13 (tgt := 43) rfl (fun q1 => ?_) (fun q1 => ?_)
    · have q1 := Int32.not_lt.mpr q1
      have q1 := (not_congr (nI_ltI (by omega) (by omega))).mp q1
      exact kk0 k h g eN (fun i hi => hg i (by omega)) hfr
    · have q1 := Int32.not_le.mp q1
      have q1 := (nI_ltI (by omega) (by omega)).mp q1
      refine mt_aload_n dX4_both_16 rfl rfl ?_
      refine mt_iload_n dX4_both_17 rfl ?_
      refine mt_iload_n dX4_both_18 rfl ?_
      refine mt_aload_n dX4_both_19 rfl rfl ?_
      refine mt_alen dX4_both_20 ea (by decide) ?_
      refine mt_icmp_ge dX4_both_21 (tgt := 30) rfl (fun q2 => ?_) (fun q2 => ?_)
      · have q2 := Int32.not_lt.mpr q2
        have q2 := (not_congr (nI_ltI (by omega) (by omega))).mp q2
        refine mt_aload_n dX4_both_30 rfl rfl ?_
        refine mt_iload_n dX4_both_31 rfl ?_
        refine mt_aload_n dX4_both_32 rfl rfl ?_
        refine mt_alen dX4_both_33 ea (by decide) ?_
        refine mp_isub dX4_both_34 (v := nI (k - la)) (pk_sub (by omega)) ?_
        refine mp_iaload dX4_both_35 eb rfl (by omega) (by omega) (v := f2 (k - la)) rfl ?_
        refine mp_iastore dX4_both_36 eN rfl (by omega) (by omega) (fun h3 e4 f5 => ?_)
        refine mp_iinc dX4_both_37 rfl (v := nI (k + 1)) mI_inc (ls' := [.ref a, .ref b, .ref nn, .int (nI (k + 1))]) rfl (by decide) rfl ?_
        refine mt_goto dX4_both_40 (tgt := 10) rfl ?_
        exact ih (k + 1) h3 (upd g k (f2 (k - la))) (by omega) e4 (fun i hi => arr_step (F := fun i => bothF la f f2 i) hg (by simp only [bothF, if_neg q2]) i (by omega)) (fun j hj => (f5 j (by omega)).trans (hfr j hj)) (by omega) (by omega)
      · have q2 := Int32.not_le.mp q2
        have q2 := (nI_ltI (by omega) (by omega)).mp q2
        refine mt_aload_n dX4_both_24 rfl rfl ?_
        refine mt_iload_n dX4_both_25 rfl ?_
        refine mp_iaload dX4_both_26 ea rfl (by omega) (by omega) (v := f k) rfl ?_
        refine mt_goto dX4_both_27 (tgt := 36) rfl ?_
        refine mp_iastore dX4_both_36 eN rfl (by omega) (by omega) (fun h6 e7 f8 => ?_)
        refine mp_iinc dX4_both_37 rfl (v := nI (k + 1)) mI_inc (ls' := [.ref a, .ref b, .ref nn, .int (nI (k + 1))]) rfl (by decide) rfl ?_
        refine mt_goto dX4_both_40 (tgt := 10) rfl ?_
        exact ih (k + 1) h6 (upd g k (f k)) (by omega) e7 (fun i hi => arr_step (F := fun i => bothF la f f2 i) hg (by simp only [bothF, if_pos q2]) i (by omega)) (fun j hj => (f8 j (by omega)).trans (hfr j hj)) (by omega) (by omega)
abbrev rX4_both : Room := { frames := 0, cells := 1, slots := 640, locals := 0 }
set_option maxRecDepth 100000 in
set_option maxHeartbeats 2000000 in
theorem kX4_both {l : Launch} (hl : l.stackTraces = false) {h : mH} {n : Nat} {a b la lb : Nat} {f f2 : Nat → Int32} (ea : h a = .inl (0, la, f)) (eb : h b = .inl (0, lb, f2)) (hla : la + lb ≤ 640) (han : a < n) (hbn : b < n) : mC l mX4_both rX4_both [.ref a, .ref b] h n (mArr (la + lb) (bothF la f f2) h n) (mNX) := by
  refine mm_enter hl (by decide +kernel) rfl rfl rfl (Nat.le_of_ble_eq_true rfl) ?_
  show mT _ _ _ _ 0 [.ref a, .ref b, .double 0, .double 0] [] _ _ 0 0
  refine mt_aload_n dX4_both_0 rfl rfl ?_
  refine mt_alen dX4_both_1 ea (by decide) ?_
  refine mt_aload_n dX4_both_2 rfl rfl ?_
  refine mt_alen dX4_both_3 eb (by decide) ?_
  refine mp_iadd dX4_both_4 (v := nI (la + lb)) (nI_add _ _) ?_
  refine mp_newarray dX4_both_5 mw_87 rfl (by omega) (by simp only [rX4_both]; omega) (by simp only [rX4_both]; omega) (fun h1 e2 f3 => ?_)
  refine mp_astore_n dX4_both_7 (ls' := [.ref a, .ref b, .ref n, .double 0]) rfl rfl (by decide) rfl ?_
  refine mt_iconst dX4_both_8 (v := nI 0) rfl ?_
  refine mp_istore_n dX4_both_9 (ls' := [.ref a, .ref b, .ref n, .int (nI 0)]) rfl (by decide) rfl ?_
  refine tX4_both_10 ((f3 (a) (by omega)).trans ea) ((f3 (b) (by omega)).trans eb) (by omega) (by omega) hla (fun k_4 h_5 g_6 z7 z8 z9 => ?_) _ 0 h1 _ (Nat.lt_succ_self _) e2 (fun i hi => absurd hi (by omega)) (fun _ _ => rfl) (by omega) (by omega)
  refine mt_aload_n dX4_both_43 rfl rfl ?_
  refine mt_areturn dX4_both_44 rfl (by first | exact Or.inl ⟨_, rfl⟩ | exact Or.inr ⟨_, rfl⟩) rfl (by simp only [rX4_both]; omega) (by simp only [rX4_both]; omega) ?_
  exact ⟨rfl, rfl, ⟨_, z7, z8⟩, fun j hj => (z9 j hj).trans (f3 j hj)⟩
