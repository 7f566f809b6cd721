/-! ===== the reference: its small methods ===== -/
abbrev rX4_isIn : Room := { frames := 0, cells := 0, slots := 0, locals := 0 }
set_option maxRecDepth 100000 in
set_option maxHeartbeats 2000000 in
theorem kX4_isIn {l : Launch} (hl : l.stackTraces = false) {h : mH} {n : Nat} {v a b : Int32}  : mC l mX4_isIn rX4_isIn [.int v, .int a, .int b] h n (mRi (mb (inR v a b)) h n) (mNX) := by
  refine mm_enter hl (by decide +kernel) rfl rfl rfl (Nat.le_of_ble_eq_true rfl) ?_
  show mT _ _ _ _ 0 [.int v, .int a, .int b] [] _ _ 0 0
  refine mt_iload_n dX4_isIn_0 rfl ?_
  refine mt_iload_n dX4_isIn_1 rfl ?_
  refine mt_icmp_lt dX4_isIn_2 (tgt := 14) rfl (fun q1 => ?_) (fun q1 => ?_)
  · refine mt_iconst dX4_isIn_14 (v := nI 0) rfl ?_
    refine mt_ireturn dX4_isIn_15 rfl rfl (Nat.le_of_ble_eq_true rfl) (Nat.le_of_ble_eq_true rfl) ?_
    exact ⟨congrArg (fun b => some (Value.int (mb b))) (show false = inR v a b from by simp [inR, decide_eq_true q1]), rfl, rfl⟩
  · refine mt_iload_n dX4_isIn_5 rfl ?_
    refine mt_iload_n dX4_isIn_6 rfl ?_
    refine mt_icmp_gt dX4_isIn_7 (tgt := 14) rfl (fun q2 => ?_) (fun q2 => ?_)
    · refine mt_iconst dX4_isIn_14 (v := nI 0) rfl ?_
      refine mt_ireturn dX4_isIn_15 rfl rfl (Nat.le_of_ble_eq_true rfl) (Nat.le_of_ble_eq_true rfl) ?_
      exact ⟨congrArg (fun b => some (Value.int (mb b))) (show false = inR v a b from by simp [inR, decide_eq_false q1, decide_eq_true q2]), rfl, rfl⟩
    · refine mt_iconst dX4_isIn_10 (v := nI 1) rfl ?_
      refine mt_goto dX4_isIn_11 (tgt := 15) rfl ?_
      refine mt_ireturn dX4_isIn_15 rfl rfl (Nat.le_of_ble_eq_true rfl) (Nat.le_of_ble_eq_true rfl) ?_
      exact ⟨congrArg (fun b => some (Value.int (mb b))) (show true = inR v a b from by simp [inR, decide_eq_false q1, decide_eq_false q2]), rfl, rfl⟩
abbrev rX4_isRow : Room := { frames := 1, cells := 0, slots := 0, locals := 22 }
set_option maxRecDepth 100000 in
set_option maxHeartbeats 2000000 in
theorem kX4_isRow {l : Launch} (hl : l.stackTraces = false) {h : mH} {n : Nat} {row : Int32}  : mC l mX4_isRow rX4_isRow [.int row] h n (mRi (mb (inN 4 row).isSome) h n) (mNX) := by
  refine mm_enter hl (by decide +kernel) rfl rfl rfl (Nat.le_of_ble_eq_true rfl) ?_
  show mT _ _ _ _ 0 [.int row] [] _ _ 0 0
  refine mt_iload_n dX4_isRow_0 rfl ?_
  refine mt_iconst dX4_isRow_1 (v := nI 0) rfl ?_
  refine mt_iconst dX4_isRow_2 (v := nI 3) rfl ?_
  refine mt_callS (N := mX4_isIn) (Rc := rX4_isIn) (As := [.int row, .int (nI 0), .int (nI 3)]) (st := []) dX4_isRow_3 (kX4_isIn hl) sX4_isIn mw_1086 rfl (Nat.le_of_ble_eq_true rfl) ⟨⟨Nat.le_of_ble_eq_true rfl, Nat.le_of_ble_eq_true rfl⟩, Nat.le_of_ble_eq_true rfl, Nat.le_of_ble_eq_true rfl⟩ (fun v1 h2 n3 c4 => ?_) (fun _ _ _ hx => hx.elim)
  obtain ⟨c4a, c4b, c4c⟩ := c4
  rw [c4a, c4b, c4c]
  show mT _ _ _ _ 6 [.int row] [.int (mb (inR row (nI 0) (nI 3)))] _ _ _ _
  refine mt_ireturn dX4_isRow_6 rfl narrow_mb (Nat.le_of_ble_eq_true rfl) (Nat.le_of_ble_eq_true rfl) ?_
  exact ⟨congrArg (fun b => some (Value.int (mb b))) (inR_in (k := 3) (by decide)), rfl, rfl⟩
abbrev rX4_room : Room := { frames := 0, cells := 0, slots := 0, locals := 0 }
set_option maxRecDepth 100000 in
set_option maxHeartbeats 2000000 in
theorem kX4_room {l : Launch} (hl : l.stackTraces = false) {h : mH} {n : Nat} {r : Nat} (hr : r < 4) : mC l mX4_room rX4_room [.int (nI r)] h n (mRi (nI (rroom r)) h n) (mNX) := by
  refine mm_enter hl (by decide +kernel) rfl rfl rfl (Nat.le_of_ble_eq_true rfl) ?_
  show mT _ _ _ _ 0 [.int (nI r)] [] _ _ 0 0
  refine mt_iload_n dX4_room_0 rfl ?_
  refine mt_iconst dX4_room_1 (v := nI 3) rfl ?_
  refine mt_icmp_ne dX4_room_2 (tgt := 11) rfl (fun q1 => ?_) (fun q1 => ?_)
  · have q1 := (not_congr (nI_eq (by omega) (by omega))).mp q1
    refine mt_sipush dX4_room_11 (v := nI 150) (by decide) ?_
    refine mt_ireturn dX4_room_14 rfl rfl (Nat.le_of_ble_eq_true rfl) (Nat.le_of_ble_eq_true rfl) ?_
    exact ⟨by simp only [rroom, if_neg q1], rfl, rfl⟩
  · have q1 := (nI_eq (by omega) (by omega)).mp q1
    refine mt_sipush dX4_room_5 (v := nI 320) (by decide) ?_
    refine mt_goto dX4_room_8 (tgt := 14) rfl ?_
    refine mt_ireturn dX4_room_14 rfl rfl (Nat.le_of_ble_eq_true rfl) (Nat.le_of_ble_eq_true rfl) ?_
    exact ⟨by simp only [rroom, if_pos q1], rfl, rfl⟩
abbrev rX4_did : Room := { frames := 0, cells := 0, slots := 0, locals := 0 }
set_option maxRecDepth 100000 in
set_option maxHeartbeats 2000000 in
theorem kX4_did {l : Launch} (hl : l.stackTraces = false) {h : mH} {n k28 k33 : Nat} {g ac rf kn th : Int32} {x : Int32} (C0 : h 27 = .inr (.inr (6, [.ref k28, .ref k33, .int g, .int ac, .int rf, .int kn, .int th]))) : mC l mX4_did rX4_did [.ref 27, .int x] h n (fun v h' n' => v = some (.int (x)) ∧ n' = n ∧ h' 27 = .inr (.inr (6, [.ref k28, .ref k33, .int g, .int (ac + nI 1), .int rf, .int kn, .int th])) ∧ ∀ j, j ≠ 27 → h' j = h j) (mNX) := by
  refine mm_enter hl (by decide +kernel) rfl rfl rfl (Nat.le_of_ble_eq_true rfl) ?_
  show mT _ _ _ _ 0 [.ref 27, .int x] [] _ _ 0 0
  refine mt_aload_n dX4_did_0 rfl rfl ?_
  refine mt_dup dX4_did_1 rfl ?_
  refine mt_getfield mKX4 (i := 3) (by decide) mw_1056 dX4_did_2 C0 rfl ?_
  refine mt_iconst dX4_did_5 (v := nI 1) rfl ?_
  refine mp_iadd dX4_did_6 (v := ac + (nI 1)) rfl ?_
  refine mp_putfield mKX4 (i := 3) (fs' := [.ref k28, .ref k33, .int g, .int (ac + (nI 1)), .int rf, .int kn, .int th]) (by decide) mw_1056 rfl dX4_did_7 C0 (Nat.le_of_ble_eq_true rfl) rfl rfl (fun h1 e2 f3 => ?_)
  refine mt_iload_n dX4_did_10 rfl ?_
  refine mt_ireturn dX4_did_11 rfl rfl (Nat.le_of_ble_eq_true rfl) (Nat.le_of_ble_eq_true rfl) ?_
  exact ⟨rfl, rfl, e2, fun j hj => f3 j (by omega)⟩
abbrev rX4_refuse : Room := { frames := 0, cells := 0, slots := 0, locals := 0 }
set_option maxRecDepth 100000 in
set_option maxHeartbeats 2000000 in
theorem kX4_refuse {l : Launch} (hl : l.stackTraces = false) {h : mH} {n k28 k33 : Nat} {g ac rf kn th : Int32} (C0 : h 27 = .inr (.inr (6, [.ref k28, .ref k33, .int g, .int ac, .int rf, .int kn, .int th]))) : mC l mX4_refuse rX4_refuse [.ref 27] h n (fun v h' n' => v = some (.int (-9)) ∧ n' = n ∧ h' 27 = .inr (.inr (6, [.ref k28, .ref k33, .int g, .int ac, .int (rf + nI 1), .int kn, .int th])) ∧ ∀ j, j ≠ 27 → h' j = h j) (mNX) := by
  refine mm_enter hl (by decide +kernel) rfl rfl rfl (Nat.le_of_ble_eq_true rfl) ?_
  show mT _ _ _ _ 0 [.ref 27] [] _ _ 0 0
  refine mt_aload_n dX4_refuse_0 rfl rfl ?_
  refine mt_dup dX4_refuse_1 rfl ?_
  refine mt_getfield mKX4 (i := 4) (by decide) mw_1057 dX4_refuse_2 C0 rfl ?_
  refine mt_iconst dX4_refuse_5 (v := nI 1) rfl ?_
  refine mp_iadd dX4_refuse_6 (v := rf + (nI 1)) rfl ?_
  refine mp_putfield mKX4 (i := 4) (fs' := [.ref k28, .ref k33, .int g, .int ac, .int (rf + (nI 1)), .int kn, .int th]) (by decide) mw_1057 rfl dX4_refuse_7 C0 (Nat.le_of_ble_eq_true rfl) rfl rfl (fun h1 e2 f3 => ?_)
  refine mt_bipush dX4_refuse_10 (v := -9) (by decide) ?_
  refine mt_ireturn dX4_refuse_12 rfl rfl (Nat.le_of_ble_eq_true rfl) (Nat.le_of_ble_eq_true rfl) ?_
  exact ⟨rfl, rfl, e2, fun j hj => f3 j (by omega)⟩
abbrev rX4_isLet : Room := { frames := 0, cells := 0, slots := 0, locals := 0 }
set_option maxRecDepth 100000 in
set_option maxHeartbeats 2000000 in
theorem kX4_isLet {l : Launch} (hl : l.stackTraces = false) {h : mH} {n k28 k33 : Nat} {g ac rf kn th : Int32} {t f : Bool} (C0 : h 27 = .inr (.inr (6, [.ref k28, .ref k33, .int g, .int ac, .int rf, .int kn, .int th]))) : mC l mX4_isLet rX4_isLet [.ref 27, .int (mb (t)), .int (mb (f))] h n (fun v h' n' => v = some (.int (mb (t && f))) ∧ n' = n ∧ h' 27 = .inr (.inr (6, [.ref k28, .ref k33, .int g, .int ac, .int rf, .int kn, .int (th3 t f)])) ∧ ∀ j, j ≠ 27 → h' j = h j) (mNX) := by
  refine mm_enter hl (by decide +kernel) rfl rfl rfl (Nat.le_of_ble_eq_true rfl) ?_
  show mT _ _ _ _ 0 [.ref 27, .int (mb (t)), .int (mb (f))] [] _ _ 0 0
  refine mt_aload_n dX4_isLet_0 rfl rfl ?_
  refine mt_iload_n dX4_isLet_1 rfl ?_
  refine mt_if_ne dX4_isLet_2 (tgt := 9) rfl (fun q1 => ?_) (fun q1 => ?_)
  · have q1 : t = true := mb_1.mp q1
    refine mt_iload_n dX4_isLet_9 rfl ?_
    refine mt_if_ne dX4_isLet_10 (tgt := 17) rfl (fun q2 => ?_) (fun q2 => ?_)
    · have q2 : f = true := mb_1.mp q2
      refine mt_iconst dX4_isLet_17 (v := nI 0) rfl ?_
      refine mp_putfield mKX4 (i := 6) (fs' := [.ref k28, .ref k33, .int g, .int ac, .int rf, .int kn, .int (nI 0)]) (by decide) mw_1059 rfl dX4_isLet_18 C0 (Nat.le_of_ble_eq_true rfl) rfl rfl (fun h3 e4 f5 => ?_)
      refine mt_aload_n dX4_isLet_21 rfl rfl ?_
      refine mt_getfield mKX4 (i := 6) (by decide) mw_1059 dX4_isLet_22 e4 rfl ?_
      refine mt_if_ne dX4_isLet_25 (tgt := 32) rfl (fun q6 => ?_) (fun q6 => ?_)
      · have q6 := (not_congr (mI_eq0 (by omega))).mp q6
        exact absurd q6 (by decide)
      · have q6 := (mI_eq0 (by omega)).mp q6
        refine mt_iconst dX4_isLet_28 (v := nI 1) rfl ?_
        refine mt_goto dX4_isLet_29 (tgt := 33) rfl ?_
        refine mt_ireturn dX4_isLet_33 rfl rfl (Nat.le_of_ble_eq_true rfl) (Nat.le_of_ble_eq_true rfl) ?_
        exact ⟨congrArg (fun b => some (Value.int (mb b))) (show true = (t && f) from by simp [q1, q2, decide_eq_true q6]), rfl, (e4).trans (by simp only [th3, q1, q2, decide_eq_true q6, if_true, if_false, Bool.true_eq_false]), fun j hj => f5 j (by omega)⟩
    · have q2 : f = false := mb_0.mp q2
      refine mt_iconst dX4_isLet_13 (v := nI 2) rfl ?_
      refine mt_goto dX4_isLet_14 (tgt := 18) rfl ?_
      refine mp_putfield mKX4 (i := 6) (fs' := [.ref k28, .ref k33, .int g, .int ac, .int rf, .int kn, .int (nI 2)]) (by decide) mw_1059 rfl dX4_isLet_18 C0 (Nat.le_of_ble_eq_true rfl) rfl rfl (fun h7 e8 f9 => ?_)
      refine mt_aload_n dX4_isLet_21 rfl rfl ?_
      refine mt_getfield mKX4 (i := 6) (by decide) mw_1059 dX4_isLet_22 e8 rfl ?_
      refine mt_if_ne dX4_isLet_25 (tgt := 32) rfl (fun q10 => ?_) (fun q10 => ?_)
      · have q10 := (not_congr (mI_eq0 (by omega))).mp q10
        refine mt_iconst dX4_isLet_32 (v := nI 0) rfl ?_
        refine mt_ireturn dX4_isLet_33 rfl rfl (Nat.le_of_ble_eq_true rfl) (Nat.le_of_ble_eq_true rfl) ?_
        exact ⟨congrArg (fun b => some (Value.int (mb b))) (show false = (t && f) from by simp [q1, q2, decide_eq_false q10]), rfl, (e8).trans (by simp only [th3, q1, q2, decide_eq_false q10, if_true, if_false, Bool.true_eq_false]), fun j hj => f9 j (by omega)⟩
      · have q10 := (mI_eq0 (by omega)).mp q10
        exact absurd q10 (by decide)
  · have q1 : t = false := mb_0.mp q1
    refine mt_iconst dX4_isLet_5 (v := nI 1) rfl ?_
    refine mt_goto dX4_isLet_6 (tgt := 18) rfl ?_
    refine mp_putfield mKX4 (i := 6) (fs' := [.ref k28, .ref k33, .int g, .int ac, .int rf, .int kn, .int (nI 1)]) (by decide) mw_1059 rfl dX4_isLet_18 C0 (Nat.le_of_ble_eq_true rfl) rfl rfl (fun h11 e12 f13 => ?_)
    refine mt_aload_n dX4_isLet_21 rfl rfl ?_
    refine mt_getfield mKX4 (i := 6) (by decide) mw_1059 dX4_isLet_22 e12 rfl ?_
    refine mt_if_ne dX4_isLet_25 (tgt := 32) rfl (fun q14 => ?_) (fun q14 => ?_)
    · have q14 := (not_congr (mI_eq0 (by omega))).mp q14
      refine mt_iconst dX4_isLet_32 (v := nI 0) rfl ?_
      refine mt_ireturn dX4_isLet_33 rfl rfl (Nat.le_of_ble_eq_true rfl) (Nat.le_of_ble_eq_true rfl) ?_
      exact ⟨congrArg (fun b => some (Value.int (mb b))) (show false = (t && f) from by simp [q1, decide_eq_false q14]), rfl, (e12).trans (by simp only [th3, q1, decide_eq_false q14, if_true, if_false, Bool.true_eq_false]), fun j hj => f13 j (by omega)⟩
    · have q14 := (mI_eq0 (by omega)).mp q14
      exact absurd q14 (by decide)
abbrev rX4_side : Room := { frames := 0, cells := 0, slots := 0, locals := 0 }
set_option maxRecDepth 100000 in
set_option maxHeartbeats 2000000 in
theorem kX4_side {l : Launch} (hl : l.stackTraces = false) {h : mH} {n : Nat} {x y : Int32}  : mC l mX4_side rX4_side [.int x, .int y] h n (mRi (sideF x y) h n) (mNX) := by
  refine mm_enter hl (by decide +kernel) rfl rfl rfl (Nat.le_of_ble_eq_true rfl) ?_
  show mT _ _ _ _ 0 [.int x, .int y] [] _ _ 0 0
  refine mt_iload_n dX4_side_0 rfl ?_
  refine mt_iload_n dX4_side_1 rfl ?_
  refine mt_icmp_ge dX4_side_2 (tgt := 9) rfl (fun q1 => ?_) (fun q1 => ?_)
  · have q1 := Int32.not_lt.mpr q1
    refine mt_iload_n dX4_side_9 rfl ?_
    refine mt_iload_n dX4_side_10 rfl ?_
    refine mt_icmp_ne dX4_side_11 (tgt := 18) rfl (fun q2 => ?_) (fun q2 => ?_)
    · refine mt_iconst dX4_side_18 (v := nI 1) rfl ?_
      refine mt_ireturn dX4_side_19 rfl rfl (Nat.le_of_ble_eq_true rfl) (Nat.le_of_ble_eq_true rfl) ?_
      exact ⟨by simp only [sideF, if_neg q1, if_neg q2], rfl, rfl⟩
    · refine mt_iconst dX4_side_14 (v := nI 0) rfl ?_
      refine mt_goto dX4_side_15 (tgt := 19) rfl ?_
      refine mt_ireturn dX4_side_19 rfl rfl (Nat.le_of_ble_eq_true rfl) (Nat.le_of_ble_eq_true rfl) ?_
      exact ⟨by simp only [sideF, if_neg q1, if_pos q2], rfl, rfl⟩
  · have q1 := Int32.not_le.mp q1
    refine mt_iconst dX4_side_5 (v := -1) rfl ?_
    refine mt_goto dX4_side_6 (tgt := 19) rfl ?_
    refine mt_ireturn dX4_side_19 rfl rfl (Nat.le_of_ble_eq_true rfl) (Nat.le_of_ble_eq_true rfl) ?_
    exact ⟨by simp only [sideF, if_pos q1], rfl, rfl⟩
set_option maxRecDepth 100000 in
set_option maxHeartbeats 2000000 in
theorem tX4_part_9 {l : Launch} {R : Room} {K : mK} {cc sc : Nat} {n nn : Nat} {h0 : mH} {a la s t : Nat} {f : Nat → Int32} (e0_0 : h0 a = .inl (0, la, f)) (hne_0 : a ≠ nn) (hst : s ≤ t) (htl : t ≤ la) (hla : la ≤ 640) (kk0 : ∀ (k : Nat) (h : mH) (g : Nat → Int32), (h nn = .inl (0, (t - s), g)) → (∀ i, i < (t - s) → g i = f (s + i)) → (∀ j, j ≠ nn → h j = h0 j) → mT l mX4_part R K 31 [.ref a, .int (nI s), .int (nI t), .ref nn, .int (nI k)] [] h n cc sc) : ∀ (N0 : Nat) (k : Nat) (h : mH) (g : Nat → Int32), (t - k) < N0 → (h nn = .inl (0, (t - s), g)) → (∀ i, i < k - s → g i = f (s + i)) → (∀ j, j ≠ nn → h j = h0 j) → (s ≤ k) → (k ≤ t) → mT l mX4_part R K 9 [.ref a, .int (nI s), .int (nI t), .ref nn, .int (nI k)] [] h n cc sc := by
  intro N0
  induction N0 with
  | zero => intro k h g hm; exact absurd hm (Nat.not_lt_zero _)
  | succ N0 ih =>
    intro k h g hm eN hg hfr hv1 hv2
    have ea := (hfr a (by omega)).trans e0_0
    refine mt_iload dX4_part_9 rfl ?_
    refine mt_iload_n dX4_part_11 rfl ?_
    refine mt_icmp_ge dX4_part_12 (tgt := 31) rfl (fun q1 => ?_) (fun q1 => ?_)
    · have q1 := Int32.not_lt.mpr q1
      have q1 := (not_congr (nI_ltI (by omega) (by omega))).mp q1
      exact kk0 k h g eN (fun i hi => hg i (by omega)) hfr
    · have q1 := Int32.not_le.mp q1
      have q1 := (nI_ltI (by omega) (by omega)).mp q1
      refine mt_aload_n dX4_part_15 rfl rfl ?_
      refine mt_iload dX4_part_16 rfl ?_
      refine mt_iload_n dX4_part_18 rfl ?_
      refine mp_isub dX4_part_19 (v := nI (k - s)) (pk_sub (by omega)) ?_
      refine mt_aload_n dX4_part_20 rfl rfl ?_
      refine mt_iload dX4_part_21 rfl ?_
      refine mp_iaload dX4_part_23 ea rfl (by omega) (by omega) (v := f k) rfl ?_
      refine mp_iastore dX4_part_24 eN rfl (by omega) (by omega) (fun h2 e3 f4 => ?_)
      refine mp_iinc dX4_part_25 rfl (v := nI (k + 1)) mI_inc (ls' := [.ref a, .int (nI s), .int (nI t), .ref nn, .int (nI (k + 1))]) rfl (by decide) rfl ?_
      refine mt_goto dX4_part_28 (tgt := 9) rfl ?_
      exact ih (k + 1) h2 (upd g (k - s) (f k)) (by omega) e3 (fun i hi => arr_step (F := fun i => f (s + i)) hg (show f k = f (s + (k - s)) from congrArg f (by omega)) i (by omega)) (fun j hj => (f4 j (by omega)).trans (hfr j hj)) (by omega) (by omega)
abbrev rX4_part : Room := { frames := 0, cells := 1, slots := 640, locals := 0 }
set_option maxRecDepth 100000 in
set_option maxHeartbeats 2000000 in
theorem kX4_part {l : Launch} (hl : l.stackTraces = false) {h : mH} {n : Nat} {a la s t : Nat} {f : Nat → Int32} (ea : h a = .inl (0, la, f)) (hst : s ≤ t) (htl : t ≤ la) (hla : la ≤ 640) (han : a < n) : mC l mX4_part rX4_part [.ref a, .int (nI s), .int (nI t)] h n (mArr (t - s) (fun i => f (s + i)) h n) (mNX) := by
  refine mm_enter hl (by decide +kernel) rfl rfl rfl (Nat.le_of_ble_eq_true rfl) ?_
  show mT _ _ _ _ 0 [.ref a, .int (nI s), .int (nI t), .double 0, .double 0] [] _ _ 0 0
  refine mt_iload_n dX4_part_0 rfl ?_
  refine mt_iload_n dX4_part_1 rfl ?_
  refine mp_isub dX4_part_2 (v := nI (t - s)) (pk_sub (by omega)) ?_
  refine mp_newarray dX4_part_3 mw_87 rfl (by omega) (by simp only [rX4_part]; omega) (by simp only [rX4_part]; omega) (fun h1 e2 f3 => ?_)
  refine mp_astore_n dX4_part_5 (ls' := [.ref a, .int (nI s), .int (nI t), .ref n, .double 0]) rfl rfl (by decide) rfl ?_
  refine mt_iload_n dX4_part_6 rfl ?_
  refine mp_istore dX4_part_7 (ls' := [.ref a, .int (nI s), .int (nI t), .ref n, .int (nI s)]) rfl (by decide) rfl ?_
  refine tX4_part_9 ((f3 (a) (by omega)).trans ea) (by omega) hst htl hla (fun k_4 h_5 g_6 z7 z8 z9 => ?_) _ s h1 _ (Nat.lt_succ_self _) e2 (fun i hi => absurd hi (by omega)) (fun _ _ => rfl) (by omega) (by omega)
  refine mt_aload_n dX4_part_31 rfl rfl ?_
  refine mt_areturn dX4_part_32 rfl (by first | exact Or.inl ⟨_, rfl⟩ | exact Or.inr ⟨_, rfl⟩) rfl (by simp only [rX4_part]; omega) (by simp only [rX4_part]; omega) ?_
  exact ⟨rfl, rfl, ⟨_, z7, z8⟩, fun j hj => (z9 j hj).trans (f3 j hj)⟩
set_option maxRecDepth 100000 in
set_option maxHeartbeats 2000000 in
theorem tX4_both_10 {l : Launch} {R : Room} {K : mK} {cc sc : Nat} {n nn : Nat} {h0 : mH} {a b la lb : Nat} {f f2 : Nat → Int32} (e0_0 : h0 a = .inl (0, la, f)) (e0_1 : h0 b = .inl (0, lb, f2)) (hne_0 : a ≠ nn) (hne_1 : b ≠ nn) (hla : la + lb ≤ 640) (kk0 : ∀ (k : Nat) (h : mH) (g : Nat → Int32), (h nn = .inl (0, (la + lb), g)) → (∀ i, i < (la + lb) → g i = bothF la f f2 i) → (∀ j, j ≠ nn → h j = h0 j) → mT l mX4_both R K 43 [.ref a, .ref b, .ref nn, .int (nI k)] [] h n cc sc) : ∀ (N0 : Nat) (k : Nat) (h : mH) (g : Nat → Int32), ((la + lb) - k) < N0 → (h nn = .inl (0, (la + lb), g)) → (∀ i, i < k → g i = bothF la f f2 i) → (∀ j, j ≠ nn → h j = h0 j) → (0 ≤ k) → (k ≤ (la + lb)) → mT l mX4_both R K 10 [.ref a, .ref b, .ref nn, .int (nI k)] [] h n cc sc := by
  intro N0
  induction N0 with
  | zero => intro k h g hm; exact absurd hm (Nat.not_lt_zero _)
  | succ N0 ih =>
    intro k h g hm eN hg hfr hv1 hv2
    have ea := (hfr a (by omega)).trans e0_0
    have eb := (hfr b (by omega)).trans e0_1
    refine mt_iload_n dX4_both_10 rfl ?_
    refine mt_aload_n dX4_both_11 rfl rfl ?_
    refine mt_alen dX4_both_12 eN (by decide) ?_
    refine mt_icmp_ge dX4_both_13 (tgt := 43) rfl (fun q1 => ?_) (fun q1 => ?_)
    · have q1 := Int32.not_lt.mpr q1
      have q1 := (not_congr (nI_ltI (by omega) (by omega))).mp q1
      exact kk0 k h g eN (fun i hi => hg i (by omega)) hfr
    · have q1 := Int32.not_le.mp q1
      have q1 := (nI_ltI (by omega) (by omega)).mp q1
      refine mt_aload_n dX4_both_16 rfl rfl ?_
      refine mt_iload_n dX4_both_17 rfl ?_
      refine mt_iload_n dX4_both_18 rfl ?_
      refine mt_aload_n dX4_both_19 rfl rfl ?_
      refine mt_alen dX4_both_20 ea (by decide) ?_
      refine mt_icmp_ge dX4_both_21 (tgt := 30) rfl (fun q2 => ?_) (fun q2 => ?_)
      · have q2 := Int32.not_lt.mpr q2
        have q2 := (not_congr (nI_ltI (by omega) (by omega))).mp q2
        refine mt_aload_n dX4_both_30 rfl rfl ?_
        refine mt_iload_n dX4_both_31 rfl ?_
        refine mt_aload_n dX4_both_32 rfl rfl ?_
        refine mt_alen dX4_both_33 ea (by decide) ?_
        refine mp_isub dX4_both_34 (v := nI (k - la)) (pk_sub (by omega)) ?_
        refine mp_iaload dX4_both_35 eb rfl (by omega) (by omega) (v := f2 (k - la)) rfl ?_
        refine mp_iastore dX4_both_36 eN rfl (by omega) (by omega) (fun h3 e4 f5 => ?_)
        refine mp_iinc dX4_both_37 rfl (v := nI (k + 1)) mI_inc (ls' := [.ref a, .ref b, .ref nn, .int (nI (k + 1))]) rfl (by decide) rfl ?_
        refine mt_goto dX4_both_40 (tgt := 10) rfl ?_
        exact ih (k + 1) h3 (upd g k (f2 (k - la))) (by omega) e4 (fun i hi => arr_step (F := fun i => bothF la f f2 i) hg (by simp only [bothF, if_neg q2]) i (by omega)) (fun j hj => (f5 j (by omega)).trans (hfr j hj)) (by omega) (by omega)
      · have q2 := Int32.not_le.mp q2
        have q2 := (nI_ltI (by omega) (by omega)).mp q2
        refine mt_aload_n dX4_both_24 rfl rfl ?_
        refine mt_iload_n dX4_both_25 rfl ?_
        refine mp_iaload dX4_both_26 ea rfl (by omega) (by omega) (v := f k) rfl ?_
        refine mt_goto dX4_both_27 (tgt := 36) rfl ?_
        refine mp_iastore dX4_both_36 eN rfl (by omega) (by omega) (fun h6 e7 f8 => ?_)
        refine mp_iinc dX4_both_37 rfl (v := nI (k + 1)) mI_inc (ls' := [.ref a, .ref b, .ref nn, .int (nI (k + 1))]) rfl (by decide) rfl ?_
        refine mt_goto dX4_both_40 (tgt := 10) rfl ?_
        exact ih (k + 1) h6 (upd g k (f k)) (by omega) e7 (fun i hi => arr_step (F := fun i => bothF la f f2 i) hg (by simp only [bothF, if_pos q2]) i (by omega)) (fun j hj => (f8 j (by omega)).trans (hfr j hj)) (by omega) (by omega)
abbrev rX4_both : Room := { frames := 0, cells := 1, slots := 640, locals := 0 }
set_option maxRecDepth 100000 in
set_option maxHeartbeats 2000000 in
theorem kX4_both {l : Launch} (hl : l.stackTraces = false) {h : mH} {n : Nat} {a b la lb : Nat} {f f2 : Nat → Int32} (ea : h a = .inl (0, la, f)) (eb : h b = .inl (0, lb, f2)) (hla : la + lb ≤ 640) (han : a < n) (hbn : b < n) : mC l mX4_both rX4_both [.ref a, .ref b] h n (mArr (la + lb) (bothF la f f2) h n) (mNX) := by
  refine mm_enter hl (by decide +kernel) rfl rfl rfl (Nat.le_of_ble_eq_true rfl) ?_
  show mT _ _ _ _ 0 [.ref a, .ref b, .double 0, .double 0] [] _ _ 0 0
  refine mt_aload_n dX4_both_0 rfl rfl ?_
  refine mt_alen dX4_both_1 ea (by decide) ?_
  refine mt_aload_n dX4_both_2 rfl rfl ?_
  refine mt_alen dX4_both_3 eb (by decide) ?_
  refine mp_iadd dX4_both_4 (v := nI (la + lb)) (nI_add _ _) ?_
  refine mp_newarray dX4_both_5 mw_87 rfl (by omega) (by simp only [rX4_both]; omega) (by simp only [rX4_both]; omega) (fun h1 e2 f3 => ?_)
  refine mp_astore_n dX4_both_7 (ls' := [.ref a, .ref b, .ref n, .double 0]) rfl rfl (by decide) rfl ?_
  refine mt_iconst dX4_both_8 (v := nI 0) rfl ?_
  refine mp_istore_n dX4_both_9 (ls' := [.ref a, .ref b, .ref n, .int (nI 0)]) rfl (by decide) rfl ?_
  refine tX4_both_10 ((f3 (a) (by omega)).trans ea) ((f3 (b) (by omega)).trans eb) (by omega) (by omega) hla (fun k_4 h_5 g_6 z7 z8 z9 => ?_) _ 0 h1 _ (Nat.lt_succ_self _) e2 (fun i hi => absurd hi (by omega)) (fun _ _ => rfl) (by omega) (by omega)
  refine mt_aload_n dX4_both_43 rfl rfl ?_
  refine mt_areturn dX4_both_44 rfl (by first | exact Or.inl ⟨_, rfl⟩ | exact Or.inr ⟨_, rfl⟩) rfl (by simp only [rX4_both]; omega) (by simp only [rX4_both]; omega) ?_
  exact ⟨rfl, rfl, ⟨_, z7, z8⟩, fun j hj => (z9 j hj).trans (f3 j hj)⟩
set_option maxRecDepth 100000 in
set_option maxHeartbeats 2000000 in
theorem tX4_unlike_4 {l : Launch} {R : Room} {K : mK} {cc sc : Nat} {h : mH} {n a b la lb : Nat} {f f2 : Nat → Int32} {r : Int32} (ea : h a = .inl (0, la, f)) (eb : h b = .inl (0, lb, f2)) (hab : la ≤ lb) (hlb : lb ≤ 640) (kk0 : ∀ (acc : Int32) (k : Nat), (acc = r) → mT l mX4_unlike R K 33 [.ref a, .ref b, .int acc, .int (nI k)] [] h n cc sc) : ∀ (N0 : Nat) (k : Nat) (acc : Int32), (la - k) < N0 → (mlp (unlF f f2) (la - k) k acc = r) → (k ≤ la) → mT l mX4_unlike R K 4 [.ref a, .ref b, .int acc, .int (nI k)] [] h n cc sc := by
  intro N0
  induction N0 with
  | zero => intro k acc hm; exact absurd hm (Nat.not_lt_zero _)
  | succ N0 ih =>
    intro k acc hm hr hk
    refine mt_iload_n dX4_unlike_4 rfl ?_
    refine mt_aload_n dX4_unlike_5 rfl rfl ?_
    refine mt_alen dX4_unlike_6 ea (by decide) ?_
    refine mt_icmp_ge dX4_unlike_7 (tgt := 33) rfl (fun q1 => ?_) (fun q1 => ?_)
    · have q1 := Int32.not_lt.mpr q1
      have q1 := (not_congr (nI_ltI (by omega) (by omega))).mp q1
      exact kk0 acc k ((mlp_end (f := unlF f f2) (by omega)).symm.trans hr)
    · have q1 := Int32.not_le.mp q1
      have q1 := (nI_ltI (by omega) (by omega)).mp q1
      refine mt_iload_n dX4_unlike_10 rfl ?_
      refine mt_aload_n dX4_unlike_11 rfl rfl ?_
      refine mt_iload_n dX4_unlike_12 rfl ?_
      refine mp_iaload dX4_unlike_13 ea rfl (by omega) (by omega) (v := f k) rfl ?_
      refine mt_aload_n dX4_unlike_14 rfl rfl ?_
      refine mt_iload_n dX4_unlike_15 rfl ?_
      refine mp_iaload dX4_unlike_16 eb rfl (by omega) (by omega) (v := f2 k) rfl ?_
      refine mt_icmp_ne dX4_unlike_17 (tgt := 24) rfl (fun q2 => ?_) (fun q2 => ?_)
      · refine mt_iconst dX4_unlike_24 (v := nI 1) rfl ?_
        refine mp_iadd dX4_unlike_25 (v := acc + (nI 1)) rfl ?_
        refine mp_istore_n dX4_unlike_26 (ls' := [.ref a, .ref b, .int (acc + (nI 1)), .int (nI k)]) rfl (by decide) rfl ?_
        refine mp_iinc dX4_unlike_27 rfl (v := nI (k + 1)) mI_inc (ls' := [.ref a, .ref b, .int (acc + (nI 1)), .int (nI (k + 1))]) rfl (by decide) rfl ?_
        refine mt_goto dX4_unlike_30 (tgt := 4) rfl ?_
        exact ih (k + 1) (acc + (nI 1)) (by omega) ((mlp_go (f := unlF f f2) (by omega) (by simp only [unlF, if_neg q2])).symm.trans hr) (by omega)
      · refine mt_iconst dX4_unlike_20 (v := nI 0) rfl ?_
        refine mt_goto dX4_unlike_21 (tgt := 25) rfl ?_
        refine mp_iadd dX4_unlike_25 (v := acc + (nI 0)) rfl ?_
        refine mp_istore_n dX4_unlike_26 (ls' := [.ref a, .ref b, .int (acc + (nI 0)), .int (nI k)]) rfl (by decide) rfl ?_
        refine mp_iinc dX4_unlike_27 rfl (v := nI (k + 1)) mI_inc (ls' := [.ref a, .ref b, .int (acc + (nI 0)), .int (nI (k + 1))]) rfl (by decide) rfl ?_
        refine mt_goto dX4_unlike_30 (tgt := 4) rfl ?_
        exact ih (k + 1) (acc + (nI 0)) (by omega) ((mlp_go (f := unlF f f2) (by omega) (by simp only [unlF, if_pos q2])).symm.trans hr) (by omega)
abbrev rX4_unlike : Room := { frames := 0, cells := 0, slots := 0, locals := 0 }
set_option maxRecDepth 100000 in
set_option maxHeartbeats 2000000 in
theorem kX4_unlike {l : Launch} (hl : l.stackTraces = false) {h : mH} {n a b la lb : Nat} {f f2 : Nat → Int32} (ea : h a = .inl (0, la, f)) (eb : h b = .inl (0, lb, f2)) (hab : la ≤ lb) (hlb : lb ≤ 640) : mC l mX4_unlike rX4_unlike [.ref a, .ref b] h n (mRi (mlp (unlF f f2) (la - 0) 0 (nI 0)) h n) (mNX) := by
  refine mm_enter hl (by decide +kernel) rfl rfl rfl (Nat.le_of_ble_eq_true rfl) ?_
  show mT _ _ _ _ 0 [.ref a, .ref b, .double 0, .double 0] [] _ _ 0 0
  refine mt_iconst dX4_unlike_0 (v := nI 0) rfl ?_
  refine mp_istore_n dX4_unlike_1 (ls' := [.ref a, .ref b, .int (nI 0), .double 0]) rfl (by decide) rfl ?_
  refine mt_iconst dX4_unlike_2 (v := nI 0) rfl ?_
  refine mp_istore_n dX4_unlike_3 (ls' := [.ref a, .ref b, .int (nI 0), .int (nI 0)]) rfl (by decide) rfl ?_
  refine tX4_unlike_4 ea eb hab hlb (fun acc_1 k_2 z3 => ?_) _ 0 (nI 0) (Nat.lt_succ_self _) rfl (by omega)
  refine mt_iload_n dX4_unlike_33 rfl ?_
  refine mt_ireturn dX4_unlike_34 rfl rfl (Nat.le_of_ble_eq_true rfl) (Nat.le_of_ble_eq_true rfl) ?_
  exact ⟨congrArg (fun x => some (Value.int x)) z3, rfl, rfl⟩
abbrev rX4_patterned : Room := { frames := 1, cells := 1, slots := 7, locals := 21 }
set_option maxRecDepth 100000 in
set_option maxHeartbeats 2000000 in
theorem kX4_patterned {l : Launch} (hl : l.stackTraces = false) {h : mH} {n p k m b : Nat} {a : Int32} (hp : p < 7) (hk : k < m) (hm : m ≤ 320) (hb : 0 < b) (hb2 : b < 100) : mC l mX4_patterned rX4_patterned [.int (nI k), .int (nI m), .int (nI p), .int a, .int (nI b)] h n (fun v h' n' => v = some (.int (mpat p k m a b)) ∧ n' = n + 1 ∧ ∀ j, j ≠ n → h' j = h j) (mNX) := by
  have hkb : k * b ≤ 320 * 100 := Nat.mul_le_mul (by omega) (by omega)
  have hkb2 : k / b ≤ k := Nat.div_le_self _ _
  have hkb3 : k % b < b := Nat.mod_lt _ hb
  refine mm_enter hl (by decide +kernel) rfl rfl rfl (Nat.le_of_ble_eq_true rfl) ?_
  show mT _ _ _ _ 0 [.int (nI k), .int (nI m), .int (nI p), .int a, .int (nI b), .double 0, .double 0] [] _ _ 0 0
  refine mt_iload_n dX4_patterned_0 rfl ?_
  refine mt_iload dX4_patterned_1 rfl ?_
  refine mp_idiv dX4_patterned_3 (mI_ne0 (by omega) (by omega)) (v := nI (k / b)) (pk_div (by omega) (by omega) (by omega)) ?_
  refine mt_iconst dX4_patterned_4 (v := nI 2) rfl ?_
  refine mp_irem dX4_patterned_5 (mI_ne0 (by omega) (by omega)) (v := nI ((k / b) % 2)) (pk_rem (by omega) (by omega) (by omega)) ?_
  refine mt_if_ne dX4_patterned_6 (tgt := 16) rfl (fun q1 => ?_) (fun q1 => ?_)
  · have q1 := (not_congr (mI_eq0 (by omega))).mp q1
    refine mt_iload dX4_patterned_16 rfl ?_
    refine mt_iconst dX4_patterned_18 (v := nI 1) rfl ?_
    refine mp_isub dX4_patterned_19 (v := nI (b - 1)) (pk_sub (by omega)) ?_
    refine mt_iload_n dX4_patterned_20 rfl ?_
    refine mt_iload dX4_patterned_21 rfl ?_
    refine mp_irem dX4_patterned_23 (mI_ne0 (by omega) (by omega)) (v := nI (k % b)) (pk_rem (by omega) (by omega) (by omega)) ?_
    refine mp_isub dX4_patterned_24 (v := nI ((b - 1) - (k % b))) (pk_sub (by omega)) ?_
    refine mp_istore dX4_patterned_25 (ls' := [.int (nI k), .int (nI m), .int (nI p), .int a, .int (nI b), .int (nI ((b - 1) - (k % b))), .double 0]) rfl (by decide) rfl ?_
    refine mt_bipush dX4_patterned_27 (v := nI 7) (by decide) ?_
    refine mp_newarray dX4_patterned_29 mw_87 rfl (by omega) (by simp only [rX4_patterned]; omega) (by simp only [rX4_patterned]; omega) (fun h2 e3 f4 => ?_)
    refine mt_dup dX4_patterned_31 rfl ?_
    refine mt_iconst dX4_patterned_32 (v := nI 0) rfl ?_
    refine mt_iload_n dX4_patterned_33 rfl ?_
    refine mp_iastore dX4_patterned_34 e3 rfl (by omega) (by omega) (fun h5 e6 f7 => ?_)
    refine mt_dup dX4_patterned_35 rfl ?_
    refine mt_iconst dX4_patterned_36 (v := nI 1) rfl ?_
    refine mt_iload_n dX4_patterned_37 rfl ?_
    refine mt_iload_n dX4_patterned_38 rfl ?_
    refine mt_iload dX4_patterned_39 rfl ?_
    refine mp_imul dX4_patterned_41 (v := nI (k * b)) (mI_mul _ _) ?_
    refine mp_iadd dX4_patterned_42 (v := a + (nI (k * b))) rfl ?_
    refine mp_iastore dX4_patterned_43 e6 rfl (by omega) (by omega) (fun h8 e9 f10 => ?_)
    refine mt_dup dX4_patterned_44 rfl ?_
    refine mt_iconst dX4_patterned_45 (v := nI 2) rfl ?_
    refine mt_iload_n dX4_patterned_46 rfl ?_
    refine mt_iload_n dX4_patterned_47 rfl ?_
    refine mt_iload dX4_patterned_48 rfl ?_
    refine mp_imul dX4_patterned_50 (v := nI (k * b)) (mI_mul _ _) ?_
    refine mp_isub dX4_patterned_51 (v := a - (nI (k * b))) rfl ?_
    refine mp_iastore dX4_patterned_52 e9 rfl (by omega) (by omega) (fun h11 e12 f13 => ?_)
    refine mt_dup dX4_patterned_53 rfl ?_
    refine mt_iconst dX4_patterned_54 (v := nI 3) rfl ?_
    refine mt_iload_n dX4_patterned_55 rfl ?_
    refine mt_iload_n dX4_patterned_56 rfl ?_
    refine mt_iload dX4_patterned_57 rfl ?_
    refine mp_irem dX4_patterned_59 (mI_ne0 (by omega) (by omega)) (v := nI (k % b)) (pk_rem (by omega) (by omega) (by omega)) ?_
    refine mp_iadd dX4_patterned_60 (v := a + (nI (k % b))) rfl ?_
    refine mp_iastore dX4_patterned_61 e12 rfl (by omega) (by omega) (fun h14 e15 f16 => ?_)
    refine mt_dup dX4_patterned_62 rfl ?_
    refine mt_iconst dX4_patterned_63 (v := nI 4) rfl ?_
    refine mt_iload_n dX4_patterned_64 rfl ?_
    refine mt_iload dX4_patterned_65 rfl ?_
    refine mp_iadd dX4_patterned_67 (v := a + (nI ((b - 1) - (k % b)))) rfl ?_
    refine mp_iastore dX4_patterned_68 e15 rfl (by omega) (by omega) (fun h17 e18 f19 => ?_)
    refine mt_dup dX4_patterned_69 rfl ?_
    refine mt_iconst dX4_patterned_70 (v := nI 5) rfl ?_
    refine mt_iload_n dX4_patterned_71 rfl ?_
    refine mt_iload dX4_patterned_72 rfl ?_
    refine mt_iload_n dX4_patterned_74 rfl ?_
    refine mt_iload_n dX4_patterned_75 rfl ?_
    refine mt_iconst dX4_patterned_76 (v := nI 1) rfl ?_
    refine mp_isub dX4_patterned_77 (v := nI (m - 1)) (pk_sub (by omega)) ?_
    refine mt_iload_n dX4_patterned_78 rfl ?_
    refine mp_isub dX4_patterned_79 (v := nI ((m - 1) - k)) (pk_sub (by omega)) ?_
    refine mt_mmin dX4_patterned_80 mw_1100 mw_152 mw_41 (mw_min) (Nat.le_of_ble_eq_true rfl) ⟨Nat.le_of_ble_eq_true rfl, Nat.le_of_ble_eq_true rfl⟩ (by simp only [rX4_patterned]; omega) (by simp only [rX4_patterned]; omega) (v := nI (min k ((m - 1) - k))) (mI_min (by omega) (by omega)) ?_
    refine mp_imul dX4_patterned_83 (v := nI (b * (min k ((m - 1) - k)))) (mI_mul _ _) ?_
    refine mp_iadd dX4_patterned_84 (v := a + (nI (b * (min k ((m - 1) - k))))) rfl ?_
    refine mp_iastore dX4_patterned_85 e18 rfl (by omega) (by omega) (fun h20 e21 f22 => ?_)
    refine mt_dup dX4_patterned_86 rfl ?_
    refine mt_bipush dX4_patterned_87 (v := nI 6) (by decide) ?_
    refine mt_iload_n dX4_patterned_89 rfl ?_
    refine mt_iconst dX4_patterned_90 (v := nI 2) rfl ?_
    refine mp_irem dX4_patterned_91 (mI_ne0 (by omega) (by omega)) (v := nI (k % 2)) (pk_rem (by omega) (by omega) (by omega)) ?_
    refine mt_if_ne dX4_patterned_92 (tgt := 103) rfl (fun q23 => ?_) (fun q23 => ?_)
    · have q23 := (not_congr (mI_eq0 (by omega))).mp q23
      refine mt_iload_n dX4_patterned_103 rfl ?_
      refine mt_iload dX4_patterned_104 rfl ?_
      refine mp_iadd dX4_patterned_106 (v := a + (nI b)) rfl ?_
      refine mt_iload_n dX4_patterned_107 rfl ?_
      refine mt_iconst dX4_patterned_108 (v := nI 2) rfl ?_
      refine mp_idiv dX4_patterned_109 (mI_ne0 (by omega) (by omega)) (v := nI (k / 2)) (pk_div (by omega) (by omega) (by omega)) ?_
      refine mp_isub dX4_patterned_110 (v := (a + (nI b)) - (nI (k / 2))) rfl ?_
      refine mp_iastore dX4_patterned_111 e21 rfl (by omega) (by omega) (fun h24 e25 f26 => ?_)
      refine mp_astore dX4_patterned_112 (ls' := [.int (nI k), .int (nI m), .int (nI p), .int a, .int (nI b), .int (nI ((b - 1) - (k % b))), .ref n]) rfl rfl (by decide) rfl ?_
      refine mt_aload dX4_patterned_114 rfl rfl ?_
      obtain rfl | rfl | rfl | rfl | rfl | rfl | rfl : p = 0 ∨ p = 1 ∨ p = 2 ∨ p = 3 ∨ p = 4 ∨ p = 5 ∨ p = 6 := by omega
      · refine mt_iload_n dX4_patterned_116 rfl ?_
        refine mp_iaload dX4_patterned_117 e25 rfl (by omega) (by omega) (v := (upd (upd (upd (upd (upd (upd (upd (fun _ => (0 : Int32)) 0 a) 1 (a + (nI (k * b)))) 2 (a - (nI (k * b)))) 3 (a + (nI (k % b)))) 4 (a + (nI ((b - 1) - (k % b))))) 5 (a + (nI (b * (min k ((m - 1) - k)))))) 6 ((a + (nI b)) - (nI (k / 2)))) 0) rfl ?_
        refine mt_ireturn dX4_patterned_118 rfl rfl (by simp only [rX4_patterned]; omega) (by simp only [rX4_patterned]; omega) ?_
        exact ⟨by simp [upd, mpat, q1, q23], rfl, fun j hj => (f26 j (by omega)).trans ((f22 j (by omega)).trans ((f19 j (by omega)).trans ((f16 j (by omega)).trans ((f13 j (by omega)).trans ((f10 j (by omega)).trans ((f7 j (by omega)).trans (f4 j (by omega))))))))⟩
      · refine mt_iload_n dX4_patterned_116 rfl ?_
        refine mp_iaload dX4_patterned_117 e25 rfl (by omega) (by omega) (v := (upd (upd (upd (upd (upd (upd (upd (fun _ => (0 : Int32)) 0 a) 1 (a + (nI (k * b)))) 2 (a - (nI (k * b)))) 3 (a + (nI (k % b)))) 4 (a + (nI ((b - 1) - (k % b))))) 5 (a + (nI (b * (min k ((m - 1) - k)))))) 6 ((a + (nI b)) - (nI (k / 2)))) 1) rfl ?_
        refine mt_ireturn dX4_patterned_118 rfl rfl (by simp only [rX4_patterned]; omega) (by simp only [rX4_patterned]; omega) ?_
        exact ⟨by simp [upd, mpat, q1, q23], rfl, fun j hj => (f26 j (by omega)).trans ((f22 j (by omega)).trans ((f19 j (by omega)).trans ((f16 j (by omega)).trans ((f13 j (by omega)).trans ((f10 j (by omega)).trans ((f7 j (by omega)).trans (f4 j (by omega))))))))⟩
      · refine mt_iload_n dX4_patterned_116 rfl ?_
        refine mp_iaload dX4_patterned_117 e25 rfl (by omega) (by omega) (v := (upd (upd (upd (upd (upd (upd (upd (fun _ => (0 : Int32)) 0 a) 1 (a + (nI (k * b)))) 2 (a - (nI (k * b)))) 3 (a + (nI (k % b)))) 4 (a + (nI ((b - 1) - (k % b))))) 5 (a + (nI (b * (min k ((m - 1) - k)))))) 6 ((a + (nI b)) - (nI (k / 2)))) 2) rfl ?_
        refine mt_ireturn dX4_patterned_118 rfl rfl (by simp only [rX4_patterned]; omega) (by simp only [rX4_patterned]; omega) ?_
        exact ⟨by simp [upd, mpat, q1, q23], rfl, fun j hj => (f26 j (by omega)).trans ((f22 j (by omega)).trans ((f19 j (by omega)).trans ((f16 j (by omega)).trans ((f13 j (by omega)).trans ((f10 j (by omega)).trans ((f7 j (by omega)).trans (f4 j (by omega))))))))⟩
      · refine mt_iload_n dX4_patterned_116 rfl ?_
        refine mp_iaload dX4_patterned_117 e25 rfl (by omega) (by omega) (v := (upd (upd (upd (upd (upd (upd (upd (fun _ => (0 : Int32)) 0 a) 1 (a + (nI (k * b)))) 2 (a - (nI (k * b)))) 3 (a + (nI (k % b)))) 4 (a + (nI ((b - 1) - (k % b))))) 5 (a + (nI (b * (min k ((m - 1) - k)))))) 6 ((a + (nI b)) - (nI (k / 2)))) 3) rfl ?_
        refine mt_ireturn dX4_patterned_118 rfl rfl (by simp only [rX4_patterned]; omega) (by simp only [rX4_patterned]; omega) ?_
        exact ⟨by simp [upd, mpat, q1, q23], rfl, fun j hj => (f26 j (by omega)).trans ((f22 j (by omega)).trans ((f19 j (by omega)).trans ((f16 j (by omega)).trans ((f13 j (by omega)).trans ((f10 j (by omega)).trans ((f7 j (by omega)).trans (f4 j (by omega))))))))⟩
      · refine mt_iload_n dX4_patterned_116 rfl ?_
        refine mp_iaload dX4_patterned_117 e25 rfl (by omega) (by omega) (v := (upd (upd (upd (upd (upd (upd (upd (fun _ => (0 : Int32)) 0 a) 1 (a + (nI (k * b)))) 2 (a - (nI (k * b)))) 3 (a + (nI (k % b)))) 4 (a + (nI ((b - 1) - (k % b))))) 5 (a + (nI (b * (min k ((m - 1) - k)))))) 6 ((a + (nI b)) - (nI (k / 2)))) 4) rfl ?_
        refine mt_ireturn dX4_patterned_118 rfl rfl (by simp only [rX4_patterned]; omega) (by simp only [rX4_patterned]; omega) ?_
        exact ⟨by simp [upd, mpat, q1, q23], rfl, fun j hj => (f26 j (by omega)).trans ((f22 j (by omega)).trans ((f19 j (by omega)).trans ((f16 j (by omega)).trans ((f13 j (by omega)).trans ((f10 j (by omega)).trans ((f7 j (by omega)).trans (f4 j (by omega))))))))⟩
      · refine mt_iload_n dX4_patterned_116 rfl ?_
        refine mp_iaload dX4_patterned_117 e25 rfl (by omega) (by omega) (v := (upd (upd (upd (upd (upd (upd (upd (fun _ => (0 : Int32)) 0 a) 1 (a + (nI (k * b)))) 2 (a - (nI (k * b)))) 3 (a + (nI (k % b)))) 4 (a + (nI ((b - 1) - (k % b))))) 5 (a + (nI (b * (min k ((m - 1) - k)))))) 6 ((a + (nI b)) - (nI (k / 2)))) 5) rfl ?_
        refine mt_ireturn dX4_patterned_118 rfl rfl (by simp only [rX4_patterned]; omega) (by simp only [rX4_patterned]; omega) ?_
        exact ⟨by simp [upd, mpat, q1, q23], rfl, fun j hj => (f26 j (by omega)).trans ((f22 j (by omega)).trans ((f19 j (by omega)).trans ((f16 j (by omega)).trans ((f13 j (by omega)).trans ((f10 j (by omega)).trans ((f7 j (by omega)).trans (f4 j (by omega))))))))⟩
      · refine mt_iload_n dX4_patterned_116 rfl ?_
        refine mp_iaload dX4_patterned_117 e25 rfl (by omega) (by omega) (v := (upd (upd (upd (upd (upd (upd (upd (fun _ => (0 : Int32)) 0 a) 1 (a + (nI (k * b)))) 2 (a - (nI (k * b)))) 3 (a + (nI (k % b)))) 4 (a + (nI ((b - 1) - (k % b))))) 5 (a + (nI (b * (min k ((m - 1) - k)))))) 6 ((a + (nI b)) - (nI (k / 2)))) 6) rfl ?_
        refine mt_ireturn dX4_patterned_118 rfl rfl (by simp only [rX4_patterned]; omega) (by simp only [rX4_patterned]; omega) ?_
        exact ⟨by simp [upd, mpat, q1, q23], rfl, fun j hj => (f26 j (by omega)).trans ((f22 j (by omega)).trans ((f19 j (by omega)).trans ((f16 j (by omega)).trans ((f13 j (by omega)).trans ((f10 j (by omega)).trans ((f7 j (by omega)).trans (f4 j (by omega))))))))⟩
    · have q23 := (mI_eq0 (by omega)).mp q23
      refine mt_iload_n dX4_patterned_95 rfl ?_
      refine mt_iload_n dX4_patterned_96 rfl ?_
      refine mt_iconst dX4_patterned_97 (v := nI 2) rfl ?_
      refine mp_idiv dX4_patterned_98 (mI_ne0 (by omega) (by omega)) (v := nI (k / 2)) (pk_div (by omega) (by omega) (by omega)) ?_
      refine mp_iadd dX4_patterned_99 (v := a + (nI (k / 2))) rfl ?_
      refine mt_goto dX4_patterned_100 (tgt := 111) rfl ?_
      refine mp_iastore dX4_patterned_111 e21 rfl (by omega) (by omega) (fun h27 e28 f29 => ?_)
      refine mp_astore dX4_patterned_112 (ls' := [.int (nI k), .int (nI m), .int (nI p), .int a, .int (nI b), .int (nI ((b - 1) - (k % b))), .ref n]) rfl rfl (by decide) rfl ?_
      refine mt_aload dX4_patterned_114 rfl rfl ?_
      obtain rfl | rfl | rfl | rfl | rfl | rfl | rfl : p = 0 ∨ p = 1 ∨ p = 2 ∨ p = 3 ∨ p = 4 ∨ p = 5 ∨ p = 6 := by omega
      · refine mt_iload_n dX4_patterned_116 rfl ?_
        refine mp_iaload dX4_patterned_117 e28 rfl (by omega) (by omega) (v := (upd (upd (upd (upd (upd (upd (upd (fun _ => (0 : Int32)) 0 a) 1 (a + (nI (k * b)))) 2 (a - (nI (k * b)))) 3 (a + (nI (k % b)))) 4 (a + (nI ((b - 1) - (k % b))))) 5 (a + (nI (b * (min k ((m - 1) - k)))))) 6 (a + (nI (k / 2)))) 0) rfl ?_
        refine mt_ireturn dX4_patterned_118 rfl rfl (by simp only [rX4_patterned]; omega) (by simp only [rX4_patterned]; omega) ?_
        exact ⟨by simp [upd, mpat, q1, q23], rfl, fun j hj => (f29 j (by omega)).trans ((f22 j (by omega)).trans ((f19 j (by omega)).trans ((f16 j (by omega)).trans ((f13 j (by omega)).trans ((f10 j (by omega)).trans ((f7 j (by omega)).trans (f4 j (by omega))))))))⟩
      · refine mt_iload_n dX4_patterned_116 rfl ?_
        refine mp_iaload dX4_patterned_117 e28 rfl (by omega) (by omega) (v := (upd (upd (upd (upd (upd (upd (upd (fun _ => (0 : Int32)) 0 a) 1 (a + (nI (k * b)))) 2 (a - (nI (k * b)))) 3 (a + (nI (k % b)))) 4 (a + (nI ((b - 1) - (k % b))))) 5 (a + (nI (b * (min k ((m - 1) - k)))))) 6 (a + (nI (k / 2)))) 1) rfl ?_
        refine mt_ireturn dX4_patterned_118 rfl rfl (by simp only [rX4_patterned]; omega) (by simp only [rX4_patterned]; omega) ?_
        exact ⟨by simp [upd, mpat, q1, q23], rfl, fun j hj => (f29 j (by omega)).trans ((f22 j (by omega)).trans ((f19 j (by omega)).trans ((f16 j (by omega)).trans ((f13 j (by omega)).trans ((f10 j (by omega)).trans ((f7 j (by omega)).trans (f4 j (by omega))))))))⟩
      · refine mt_iload_n dX4_patterned_116 rfl ?_
        refine mp_iaload dX4_patterned_117 e28 rfl (by omega) (by omega) (v := (upd (upd (upd (upd (upd (upd (upd (fun _ => (0 : Int32)) 0 a) 1 (a + (nI (k * b)))) 2 (a - (nI (k * b)))) 3 (a + (nI (k % b)))) 4 (a + (nI ((b - 1) - (k % b))))) 5 (a + (nI (b * (min k ((m - 1) - k)))))) 6 (a + (nI (k / 2)))) 2) rfl ?_
        refine mt_ireturn dX4_patterned_118 rfl rfl (by simp only [rX4_patterned]; omega) (by simp only [rX4_patterned]; omega) ?_
        exact ⟨by simp [upd, mpat, q1, q23], rfl, fun j hj => (f29 j (by omega)).trans ((f22 j (by omega)).trans ((f19 j (by omega)).trans ((f16 j (by omega)).trans ((f13 j (by omega)).trans ((f10 j (by omega)).trans ((f7 j (by omega)).trans (f4 j (by omega))))))))⟩
      · refine mt_iload_n dX4_patterned_116 rfl ?_
        refine mp_iaload dX4_patterned_117 e28 rfl (by omega) (by omega) (v := (upd (upd (upd (upd (upd (upd (upd (fun _ => (0 : Int32)) 0 a) 1 (a + (nI (k * b)))) 2 (a - (nI (k * b)))) 3 (a + (nI (k % b)))) 4 (a + (nI ((b - 1) - (k % b))))) 5 (a + (nI (b * (min k ((m - 1) - k)))))) 6 (a + (nI (k / 2)))) 3) rfl ?_
        refine mt_ireturn dX4_patterned_118 rfl rfl (by simp only [rX4_patterned]; omega) (by simp only [rX4_patterned]; omega) ?_
        exact ⟨by simp [upd, mpat, q1, q23], rfl, fun j hj => (f29 j (by omega)).trans ((f22 j (by omega)).trans ((f19 j (by omega)).trans ((f16 j (by omega)).trans ((f13 j (by omega)).trans ((f10 j (by omega)).trans ((f7 j (by omega)).trans (f4 j (by omega))))))))⟩
      · refine mt_iload_n dX4_patterned_116 rfl ?_
        refine mp_iaload dX4_patterned_117 e28 rfl (by omega) (by omega) (v := (upd (upd (upd (upd (upd (upd (upd (fun _ => (0 : Int32)) 0 a) 1 (a + (nI (k * b)))) 2 (a - (nI (k * b)))) 3 (a + (nI (k % b)))) 4 (a + (nI ((b - 1) - (k % b))))) 5 (a + (nI (b * (min k ((m - 1) - k)))))) 6 (a + (nI (k / 2)))) 4) rfl ?_
        refine mt_ireturn dX4_patterned_118 rfl rfl (by simp only [rX4_patterned]; omega) (by simp only [rX4_patterned]; omega) ?_
        exact ⟨by simp [upd, mpat, q1, q23], rfl, fun j hj => (f29 j (by omega)).trans ((f22 j (by omega)).trans ((f19 j (by omega)).trans ((f16 j (by omega)).trans ((f13 j (by omega)).trans ((f10 j (by omega)).trans ((f7 j (by omega)).trans (f4 j (by omega))))))))⟩
      · refine mt_iload_n dX4_patterned_116 rfl ?_
        refine mp_iaload dX4_patterned_117 e28 rfl (by omega) (by omega) (v := (upd (upd (upd (upd (upd (upd (upd (fun _ => (0 : Int32)) 0 a) 1 (a + (nI (k * b)))) 2 (a - (nI (k * b)))) 3 (a + (nI (k % b)))) 4 (a + (nI ((b - 1) - (k % b))))) 5 (a + (nI (b * (min k ((m - 1) - k)))))) 6 (a + (nI (k / 2)))) 5) rfl ?_
        refine mt_ireturn dX4_patterned_118 rfl rfl (by simp only [rX4_patterned]; omega) (by simp only [rX4_patterned]; omega) ?_
        exact ⟨by simp [upd, mpat, q1, q23], rfl, fun j hj => (f29 j (by omega)).trans ((f22 j (by omega)).trans ((f19 j (by omega)).trans ((f16 j (by omega)).trans ((f13 j (by omega)).trans ((f10 j (by omega)).trans ((f7 j (by omega)).trans (f4 j (by omega))))))))⟩
      · refine mt_iload_n dX4_patterned_116 rfl ?_
        refine mp_iaload dX4_patterned_117 e28 rfl (by omega) (by omega) (v := (upd (upd (upd (upd (upd (upd (upd (fun _ => (0 : Int32)) 0 a) 1 (a + (nI (k * b)))) 2 (a - (nI (k * b)))) 3 (a + (nI (k % b)))) 4 (a + (nI ((b - 1) - (k % b))))) 5 (a + (nI (b * (min k ((m - 1) - k)))))) 6 (a + (nI (k / 2)))) 6) rfl ?_
        refine mt_ireturn dX4_patterned_118 rfl rfl (by simp only [rX4_patterned]; omega) (by simp only [rX4_patterned]; omega) ?_
        exact ⟨by simp [upd, mpat, q1, q23], rfl, fun j hj => (f29 j (by omega)).trans ((f22 j (by omega)).trans ((f19 j (by omega)).trans ((f16 j (by omega)).trans ((f13 j (by omega)).trans ((f10 j (by omega)).trans ((f7 j (by omega)).trans (f4 j (by omega))))))))⟩
  · have q1 := (mI_eq0 (by omega)).mp q1
    refine mt_iload_n dX4_patterned_9 rfl ?_
    refine mt_iload dX4_patterned_10 rfl ?_
    refine mp_irem dX4_patterned_12 (mI_ne0 (by omega) (by omega)) (v := nI (k % b)) (pk_rem (by omega) (by omega) (by omega)) ?_
    refine mt_goto dX4_patterned_13 (tgt := 25) rfl ?_
    refine mp_istore dX4_patterned_25 (ls' := [.int (nI k), .int (nI m), .int (nI p), .int a, .int (nI b), .int (nI (k % b)), .double 0]) rfl (by decide) rfl ?_
    refine mt_bipush dX4_patterned_27 (v := nI 7) (by decide) ?_
    refine mp_newarray dX4_patterned_29 mw_87 rfl (by omega) (by simp only [rX4_patterned]; omega) (by simp only [rX4_patterned]; omega) (fun h30 e31 f32 => ?_)
    refine mt_dup dX4_patterned_31 rfl ?_
    refine mt_iconst dX4_patterned_32 (v := nI 0) rfl ?_
    refine mt_iload_n dX4_patterned_33 rfl ?_
    refine mp_iastore dX4_patterned_34 e31 rfl (by omega) (by omega) (fun h33 e34 f35 => ?_)
    refine mt_dup dX4_patterned_35 rfl ?_
    refine mt_iconst dX4_patterned_36 (v := nI 1) rfl ?_
    refine mt_iload_n dX4_patterned_37 rfl ?_
    refine mt_iload_n dX4_patterned_38 rfl ?_
    refine mt_iload dX4_patterned_39 rfl ?_
    refine mp_imul dX4_patterned_41 (v := nI (k * b)) (mI_mul _ _) ?_
    refine mp_iadd dX4_patterned_42 (v := a + (nI (k * b))) rfl ?_
    refine mp_iastore dX4_patterned_43 e34 rfl (by omega) (by omega) (fun h36 e37 f38 => ?_)
    refine mt_dup dX4_patterned_44 rfl ?_
    refine mt_iconst dX4_patterned_45 (v := nI 2) rfl ?_
    refine mt_iload_n dX4_patterned_46 rfl ?_
    refine mt_iload_n dX4_patterned_47 rfl ?_
    refine mt_iload dX4_patterned_48 rfl ?_
    refine mp_imul dX4_patterned_50 (v := nI (k * b)) (mI_mul _ _) ?_
    refine mp_isub dX4_patterned_51 (v := a - (nI (k * b))) rfl ?_
    refine mp_iastore dX4_patterned_52 e37 rfl (by omega) (by omega) (fun h39 e40 f41 => ?_)
    refine mt_dup dX4_patterned_53 rfl ?_
    refine mt_iconst dX4_patterned_54 (v := nI 3) rfl ?_
    refine mt_iload_n dX4_patterned_55 rfl ?_
    refine mt_iload_n dX4_patterned_56 rfl ?_
    refine mt_iload dX4_patterned_57 rfl ?_
    refine mp_irem dX4_patterned_59 (mI_ne0 (by omega) (by omega)) (v := nI (k % b)) (pk_rem (by omega) (by omega) (by omega)) ?_
    refine mp_iadd dX4_patterned_60 (v := a + (nI (k % b))) rfl ?_
    refine mp_iastore dX4_patterned_61 e40 rfl (by omega) (by omega) (fun h42 e43 f44 => ?_)
    refine mt_dup dX4_patterned_62 rfl ?_
    refine mt_iconst dX4_patterned_63 (v := nI 4) rfl ?_
    refine mt_iload_n dX4_patterned_64 rfl ?_
    refine mt_iload dX4_patterned_65 rfl ?_
    refine mp_iadd dX4_patterned_67 (v := a + (nI (k % b))) rfl ?_
    refine mp_iastore dX4_patterned_68 e43 rfl (by omega) (by omega) (fun h45 e46 f47 => ?_)
    refine mt_dup dX4_patterned_69 rfl ?_
    refine mt_iconst dX4_patterned_70 (v := nI 5) rfl ?_
    refine mt_iload_n dX4_patterned_71 rfl ?_
    refine mt_iload dX4_patterned_72 rfl ?_
    refine mt_iload_n dX4_patterned_74 rfl ?_
    refine mt_iload_n dX4_patterned_75 rfl ?_
    refine mt_iconst dX4_patterned_76 (v := nI 1) rfl ?_
    refine mp_isub dX4_patterned_77 (v := nI (m - 1)) (pk_sub (by omega)) ?_
    refine mt_iload_n dX4_patterned_78 rfl ?_
    refine mp_isub dX4_patterned_79 (v := nI ((m - 1) - k)) (pk_sub (by omega)) ?_
    refine mt_mmin dX4_patterned_80 mw_1100 mw_152 mw_41 (mw_min) (Nat.le_of_ble_eq_true rfl) ⟨Nat.le_of_ble_eq_true rfl, Nat.le_of_ble_eq_true rfl⟩ (by simp only [rX4_patterned]; omega) (by simp only [rX4_patterned]; omega) (v := nI (min k ((m - 1) - k))) (mI_min (by omega) (by omega)) ?_
    refine mp_imul dX4_patterned_83 (v := nI (b * (min k ((m - 1) - k)))) (mI_mul _ _) ?_
    refine mp_iadd dX4_patterned_84 (v := a + (nI (b * (min k ((m - 1) - k))))) rfl ?_
    refine mp_iastore dX4_patterned_85 e46 rfl (by omega) (by omega) (fun h48 e49 f50 => ?_)
    refine mt_dup dX4_patterned_86 rfl ?_
    refine mt_bipush dX4_patterned_87 (v := nI 6) (by decide) ?_
    refine mt_iload_n dX4_patterned_89 rfl ?_
    refine mt_iconst dX4_patterned_90 (v := nI 2) rfl ?_
    refine mp_irem dX4_patterned_91 (mI_ne0 (by omega) (by omega)) (v := nI (k % 2)) (pk_rem (by omega) (by omega) (by omega)) ?_
    refine mt_if_ne dX4_patterned_92 (tgt := 103) rfl (fun q51 => ?_) (fun q51 => ?_)
    · have q51 := (not_congr (mI_eq0 (by omega))).mp q51
      refine mt_iload_n dX4_patterned_103 rfl ?_
      refine mt_iload dX4_patterned_104 rfl ?_
      refine mp_iadd dX4_patterned_106 (v := a + (nI b)) rfl ?_
      refine mt_iload_n dX4_patterned_107 rfl ?_
      refine mt_iconst dX4_patterned_108 (v := nI 2) rfl ?_
      refine mp_idiv dX4_patterned_109 (mI_ne0 (by omega) (by omega)) (v := nI (k / 2)) (pk_div (by omega) (by omega) (by omega)) ?_
      refine mp_isub dX4_patterned_110 (v := (a + (nI b)) - (nI (k / 2))) rfl ?_
      refine mp_iastore dX4_patterned_111 e49 rfl (by omega) (by omega) (fun h52 e53 f54 => ?_)
      refine mp_astore dX4_patterned_112 (ls' := [.int (nI k), .int (nI m), .int (nI p), .int a, .int (nI b), .int (nI (k % b)), .ref n]) rfl rfl (by decide) rfl ?_
      refine mt_aload dX4_patterned_114 rfl rfl ?_
      obtain rfl | rfl | rfl | rfl | rfl | rfl | rfl : p = 0 ∨ p = 1 ∨ p = 2 ∨ p = 3 ∨ p = 4 ∨ p = 5 ∨ p = 6 := by omega
      · refine mt_iload_n dX4_patterned_116 rfl ?_
        refine mp_iaload dX4_patterned_117 e53 rfl (by omega) (by omega) (v := (upd (upd (upd (upd (upd (upd (upd (fun _ => (0 : Int32)) 0 a) 1 (a + (nI (k * b)))) 2 (a - (nI (k * b)))) 3 (a + (nI (k % b)))) 4 (a + (nI (k % b)))) 5 (a + (nI (b * (min k ((m - 1) - k)))))) 6 ((a + (nI b)) - (nI (k / 2)))) 0) rfl ?_
        refine mt_ireturn dX4_patterned_118 rfl rfl (by simp only [rX4_patterned]; omega) (by simp only [rX4_patterned]; omega) ?_
        exact ⟨by simp [upd, mpat, q1, q51], rfl, fun j hj => (f54 j (by omega)).trans ((f50 j (by omega)).trans ((f47 j (by omega)).trans ((f44 j (by omega)).trans ((f41 j (by omega)).trans ((f38 j (by omega)).trans ((f35 j (by omega)).trans (f32 j (by omega))))))))⟩
      · refine mt_iload_n dX4_patterned_116 rfl ?_
        refine mp_iaload dX4_patterned_117 e53 rfl (by omega) (by omega) (v := (upd (upd (upd (upd (upd (upd (upd (fun _ => (0 : Int32)) 0 a) 1 (a + (nI (k * b)))) 2 (a - (nI (k * b)))) 3 (a + (nI (k % b)))) 4 (a + (nI (k % b)))) 5 (a + (nI (b * (min k ((m - 1) - k)))))) 6 ((a + (nI b)) - (nI (k / 2)))) 1) rfl ?_
        refine mt_ireturn dX4_patterned_118 rfl rfl (by simp only [rX4_patterned]; omega) (by simp only [rX4_patterned]; omega) ?_
        exact ⟨by simp [upd, mpat, q1, q51], rfl, fun j hj => (f54 j (by omega)).trans ((f50 j (by omega)).trans ((f47 j (by omega)).trans ((f44 j (by omega)).trans ((f41 j (by omega)).trans ((f38 j (by omega)).trans ((f35 j (by omega)).trans (f32 j (by omega))))))))⟩
      · refine mt_iload_n dX4_patterned_116 rfl ?_
        refine mp_iaload dX4_patterned_117 e53 rfl (by omega) (by omega) (v := (upd (upd (upd (upd (upd (upd (upd (fun _ => (0 : Int32)) 0 a) 1 (a + (nI (k * b)))) 2 (a - (nI (k * b)))) 3 (a + (nI (k % b)))) 4 (a + (nI (k % b)))) 5 (a + (nI (b * (min k ((m - 1) - k)))))) 6 ((a + (nI b)) - (nI (k / 2)))) 2) rfl ?_
        refine mt_ireturn dX4_patterned_118 rfl rfl (by simp only [rX4_patterned]; omega) (by simp only [rX4_patterned]; omega) ?_
        exact ⟨by simp [upd, mpat, q1, q51], rfl, fun j hj => (f54 j (by omega)).trans ((f50 j (by omega)).trans ((f47 j (by omega)).trans ((f44 j (by omega)).trans ((f41 j (by omega)).trans ((f38 j (by omega)).trans ((f35 j (by omega)).trans (f32 j (by omega))))))))⟩
      · refine mt_iload_n dX4_patterned_116 rfl ?_
        refine mp_iaload dX4_patterned_117 e53 rfl (by omega) (by omega) (v := (upd (upd (upd (upd (upd (upd (upd (fun _ => (0 : Int32)) 0 a) 1 (a + (nI (k * b)))) 2 (a - (nI (k * b)))) 3 (a + (nI (k % b)))) 4 (a + (nI (k % b)))) 5 (a + (nI (b * (min k ((m - 1) - k)))))) 6 ((a + (nI b)) - (nI (k / 2)))) 3) rfl ?_
        refine mt_ireturn dX4_patterned_118 rfl rfl (by simp only [rX4_patterned]; omega) (by simp only [rX4_patterned]; omega) ?_
        exact ⟨by simp [upd, mpat, q1, q51], rfl, fun j hj => (f54 j (by omega)).trans ((f50 j (by omega)).trans ((f47 j (by omega)).trans ((f44 j (by omega)).trans ((f41 j (by omega)).trans ((f38 j (by omega)).trans ((f35 j (by omega)).trans (f32 j (by omega))))))))⟩
      · refine mt_iload_n dX4_patterned_116 rfl ?_
        refine mp_iaload dX4_patterned_117 e53 rfl (by omega) (by omega) (v := (upd (upd (upd (upd (upd (upd (upd (fun _ => (0 : Int32)) 0 a) 1 (a + (nI (k * b)))) 2 (a - (nI (k * b)))) 3 (a + (nI (k % b)))) 4 (a + (nI (k % b)))) 5 (a + (nI (b * (min k ((m - 1) - k)))))) 6 ((a + (nI b)) - (nI (k / 2)))) 4) rfl ?_
        refine mt_ireturn dX4_patterned_118 rfl rfl (by simp only [rX4_patterned]; omega) (by simp only [rX4_patterned]; omega) ?_
        exact ⟨by simp [upd, mpat, q1, q51], rfl, fun j hj => (f54 j (by omega)).trans ((f50 j (by omega)).trans ((f47 j (by omega)).trans ((f44 j (by omega)).trans ((f41 j (by omega)).trans ((f38 j (by omega)).trans ((f35 j (by omega)).trans (f32 j (by omega))))))))⟩
      · refine mt_iload_n dX4_patterned_116 rfl ?_
        refine mp_iaload dX4_patterned_117 e53 rfl (by omega) (by omega) (v := (upd (upd (upd (upd (upd (upd (upd (fun _ => (0 : Int32)) 0 a) 1 (a + (nI (k * b)))) 2 (a - (nI (k * b)))) 3 (a + (nI (k % b)))) 4 (a + (nI (k % b)))) 5 (a + (nI (b * (min k ((m - 1) - k)))))) 6 ((a + (nI b)) - (nI (k / 2)))) 5) rfl ?_
        refine mt_ireturn dX4_patterned_118 rfl rfl (by simp only [rX4_patterned]; omega) (by simp only [rX4_patterned]; omega) ?_
        exact ⟨by simp [upd, mpat, q1, q51], rfl, fun j hj => (f54 j (by omega)).trans ((f50 j (by omega)).trans ((f47 j (by omega)).trans ((f44 j (by omega)).trans ((f41 j (by omega)).trans ((f38 j (by omega)).trans ((f35 j (by omega)).trans (f32 j (by omega))))))))⟩
      · refine mt_iload_n dX4_patterned_116 rfl ?_
        refine mp_iaload dX4_patterned_117 e53 rfl (by omega) (by omega) (v := (upd (upd (upd (upd (upd (upd (upd (fun _ => (0 : Int32)) 0 a) 1 (a + (nI (k * b)))) 2 (a - (nI (k * b)))) 3 (a + (nI (k % b)))) 4 (a + (nI (k % b)))) 5 (a + (nI (b * (min k ((m - 1) - k)))))) 6 ((a + (nI b)) - (nI (k / 2)))) 6) rfl ?_
        refine mt_ireturn dX4_patterned_118 rfl rfl (by simp only [rX4_patterned]; omega) (by simp only [rX4_patterned]; omega) ?_
        exact ⟨by simp [upd, mpat, q1, q51], rfl, fun j hj => (f54 j (by omega)).trans ((f50 j (by omega)).trans ((f47 j (by omega)).trans ((f44 j (by omega)).trans ((f41 j (by omega)).trans ((f38 j (by omega)).trans ((f35 j (by omega)).trans (f32 j (by omega))))))))⟩
    · have q51 := (mI_eq0 (by omega)).mp q51
      refine mt_iload_n dX4_patterned_95 rfl ?_
      refine mt_iload_n dX4_patterned_96 rfl ?_
      refine mt_iconst dX4_patterned_97 (v := nI 2) rfl ?_
      refine mp_idiv dX4_patterned_98 (mI_ne0 (by omega) (by omega)) (v := nI (k / 2)) (pk_div (by omega) (by omega) (by omega)) ?_
      refine mp_iadd dX4_patterned_99 (v := a + (nI (k / 2))) rfl ?_
      refine mt_goto dX4_patterned_100 (tgt := 111) rfl ?_
      refine mp_iastore dX4_patterned_111 e49 rfl (by omega) (by omega) (fun h55 e56 f57 => ?_)
      refine mp_astore dX4_patterned_112 (ls' := [.int (nI k), .int (nI m), .int (nI p), .int a, .int (nI b), .int (nI (k % b)), .ref n]) rfl rfl (by decide) rfl ?_
      refine mt_aload dX4_patterned_114 rfl rfl ?_
      obtain rfl | rfl | rfl | rfl | rfl | rfl | rfl : p = 0 ∨ p = 1 ∨ p = 2 ∨ p = 3 ∨ p = 4 ∨ p = 5 ∨ p = 6 := by omega
      · refine mt_iload_n dX4_patterned_116 rfl ?_
        refine mp_iaload dX4_patterned_117 e56 rfl (by omega) (by omega) (v := (upd (upd (upd (upd (upd (upd (upd (fun _ => (0 : Int32)) 0 a) 1 (a + (nI (k * b)))) 2 (a - (nI (k * b)))) 3 (a + (nI (k % b)))) 4 (a + (nI (k % b)))) 5 (a + (nI (b * (min k ((m - 1) - k)))))) 6 (a + (nI (k / 2)))) 0) rfl ?_
        refine mt_ireturn dX4_patterned_118 rfl rfl (by simp only [rX4_patterned]; omega) (by simp only [rX4_patterned]; omega) ?_
        exact ⟨by simp [upd, mpat, q1, q51], rfl, fun j hj => (f57 j (by omega)).trans ((f50 j (by omega)).trans ((f47 j (by omega)).trans ((f44 j (by omega)).trans ((f41 j (by omega)).trans ((f38 j (by omega)).trans ((f35 j (by omega)).trans (f32 j (by omega))))))))⟩
      · refine mt_iload_n dX4_patterned_116 rfl ?_
        refine mp_iaload dX4_patterned_117 e56 rfl (by omega) (by omega) (v := (upd (upd (upd (upd (upd (upd (upd (fun _ => (0 : Int32)) 0 a) 1 (a + (nI (k * b)))) 2 (a - (nI (k * b)))) 3 (a + (nI (k % b)))) 4 (a + (nI (k % b)))) 5 (a + (nI (b * (min k ((m - 1) - k)))))) 6 (a + (nI (k / 2)))) 1) rfl ?_
        refine mt_ireturn dX4_patterned_118 rfl rfl (by simp only [rX4_patterned]; omega) (by simp only [rX4_patterned]; omega) ?_
        exact ⟨by simp [upd, mpat, q1, q51], rfl, fun j hj => (f57 j (by omega)).trans ((f50 j (by omega)).trans ((f47 j (by omega)).trans ((f44 j (by omega)).trans ((f41 j (by omega)).trans ((f38 j (by omega)).trans ((f35 j (by omega)).trans (f32 j (by omega))))))))⟩
      · refine mt_iload_n dX4_patterned_116 rfl ?_
        refine mp_iaload dX4_patterned_117 e56 rfl (by omega) (by omega) (v := (upd (upd (upd (upd (upd (upd (upd (fun _ => (0 : Int32)) 0 a) 1 (a + (nI (k * b)))) 2 (a - (nI (k * b)))) 3 (a + (nI (k % b)))) 4 (a + (nI (k % b)))) 5 (a + (nI (b * (min k ((m - 1) - k)))))) 6 (a + (nI (k / 2)))) 2) rfl ?_
        refine mt_ireturn dX4_patterned_118 rfl rfl (by simp only [rX4_patterned]; omega) (by simp only [rX4_patterned]; omega) ?_
        exact ⟨by simp [upd, mpat, q1, q51], rfl, fun j hj => (f57 j (by omega)).trans ((f50 j (by omega)).trans ((f47 j (by omega)).trans ((f44 j (by omega)).trans ((f41 j (by omega)).trans ((f38 j (by omega)).trans ((f35 j (by omega)).trans (f32 j (by omega))))))))⟩
      · refine mt_iload_n dX4_patterned_116 rfl ?_
        refine mp_iaload dX4_patterned_117 e56 rfl (by omega) (by omega) (v := (upd (upd (upd (upd (upd (upd (upd (fun _ => (0 : Int32)) 0 a) 1 (a + (nI (k * b)))) 2 (a - (nI (k * b)))) 3 (a + (nI (k % b)))) 4 (a + (nI (k % b)))) 5 (a + (nI (b * (min k ((m - 1) - k)))))) 6 (a + (nI (k / 2)))) 3) rfl ?_
        refine mt_ireturn dX4_patterned_118 rfl rfl (by simp only [rX4_patterned]; omega) (by simp only [rX4_patterned]; omega) ?_
        exact ⟨by simp [upd, mpat, q1, q51], rfl, fun j hj => (f57 j (by omega)).trans ((f50 j (by omega)).trans ((f47 j (by omega)).trans ((f44 j (by omega)).trans ((f41 j (by omega)).trans ((f38 j (by omega)).trans ((f35 j (by omega)).trans (f32 j (by omega))))))))⟩
      · refine mt_iload_n dX4_patterned_116 rfl ?_
        refine mp_iaload dX4_patterned_117 e56 rfl (by omega) (by omega) (v := (upd (upd (upd (upd (upd (upd (upd (fun _ => (0 : Int32)) 0 a) 1 (a + (nI (k * b)))) 2 (a - (nI (k * b)))) 3 (a + (nI (k % b)))) 4 (a + (nI (k % b)))) 5 (a + (nI (b * (min k ((m - 1) - k)))))) 6 (a + (nI (k / 2)))) 4) rfl ?_
        refine mt_ireturn dX4_patterned_118 rfl rfl (by simp only [rX4_patterned]; omega) (by simp only [rX4_patterned]; omega) ?_
        exact ⟨by simp [upd, mpat, q1, q51], rfl, fun j hj => (f57 j (by omega)).trans ((f50 j (by omega)).trans ((f47 j (by omega)).trans ((f44 j (by omega)).trans ((f41 j (by omega)).trans ((f38 j (by omega)).trans ((f35 j (by omega)).trans (f32 j (by omega))))))))⟩
      · refine mt_iload_n dX4_patterned_116 rfl ?_
        refine mp_iaload dX4_patterned_117 e56 rfl (by omega) (by omega) (v := (upd (upd (upd (upd (upd (upd (upd (fun _ => (0 : Int32)) 0 a) 1 (a + (nI (k * b)))) 2 (a - (nI (k * b)))) 3 (a + (nI (k % b)))) 4 (a + (nI (k % b)))) 5 (a + (nI (b * (min k ((m - 1) - k)))))) 6 (a + (nI (k / 2)))) 5) rfl ?_
        refine mt_ireturn dX4_patterned_118 rfl rfl (by simp only [rX4_patterned]; omega) (by simp only [rX4_patterned]; omega) ?_
        exact ⟨by simp [upd, mpat, q1, q51], rfl, fun j hj => (f57 j (by omega)).trans ((f50 j (by omega)).trans ((f47 j (by omega)).trans ((f44 j (by omega)).trans ((f41 j (by omega)).trans ((f38 j (by omega)).trans ((f35 j (by omega)).trans (f32 j (by omega))))))))⟩
      · refine mt_iload_n dX4_patterned_116 rfl ?_
        refine mp_iaload dX4_patterned_117 e56 rfl (by omega) (by omega) (v := (upd (upd (upd (upd (upd (upd (upd (fun _ => (0 : Int32)) 0 a) 1 (a + (nI (k * b)))) 2 (a - (nI (k * b)))) 3 (a + (nI (k % b)))) 4 (a + (nI (k % b)))) 5 (a + (nI (b * (min k ((m - 1) - k)))))) 6 (a + (nI (k / 2)))) 6) rfl ?_
        refine mt_ireturn dX4_patterned_118 rfl rfl (by simp only [rX4_patterned]; omega) (by simp only [rX4_patterned]; omega) ?_
        exact ⟨by simp [upd, mpat, q1, q51], rfl, fun j hj => (f57 j (by omega)).trans ((f50 j (by omega)).trans ((f47 j (by omega)).trans ((f44 j (by omega)).trans ((f41 j (by omega)).trans ((f38 j (by omega)).trans ((f35 j (by omega)).trans (f32 j (by omega))))))))⟩
set_option maxRecDepth 100000 in
set_option maxHeartbeats 2000000 in
theorem tX4_made_7 {l : Launch} {R : Room} {K : mK} {cc sc : Nat} {n nn r m k28 k33 : Nat} {g0 ac rf kn th : Int32} {h0 : mH} (hnn : 27 < nn) (hm : m ≤ 640) (hr4 : r < 4) (kk0 : ∀ (k : Nat) (h : mH) (g : Nat → Int32), (h 27 = .inr (.inr (6, [.ref k28, .ref k33, .int (madeG r m g0), .int ac, .int rf, .int kn, .int th]))) → (h nn = .inl (0, m, g)) → (∀ i, i < m → g i = madeF r g0 i) → (∀ j, j ≠ nn → j ≠ 27 → h j = h0 j) → mT l mX4_made R K 43 [.ref 27, .int (nI r), .int (nI m), .ref nn, .int (nI k)] [] h n cc sc) : ∀ (N0 : Nat) (k : Nat) (h : mH) (g : Nat → Int32), (m - k) < N0 → (h 27 = .inr (.inr (6, [.ref k28, .ref k33, .int (madeG r k g0), .int ac, .int rf, .int kn, .int th]))) → (h nn = .inl (0, m, g)) → (∀ i, i < k → g i = madeF r g0 i) → (∀ j, j ≠ nn → j ≠ 27 → h j = h0 j) → (k ≤ m) → mT l mX4_made R K 7 [.ref 27, .int (nI r), .int (nI m), .ref nn, .int (nI k)] [] h n cc sc := by
  intro N0
  induction N0 with
  | zero => intro k h g hm; exact absurd hm (Nat.not_lt_zero _)
  | succ N0 ih =>
    intro k h g hm C0 eN hg hfr hk
    refine mt_iload dX4_made_7 rfl ?_
    refine mt_iload_n dX4_made_9 rfl ?_
    refine mt_icmp_ge dX4_made_10 (tgt := 43) rfl (fun q1 => ?_) (fun q1 => ?_)
    · have q1 := Int32.not_lt.mpr q1
      have q1 := (not_congr (nI_ltI (by omega) (by omega))).mp q1
      exact kk0 k h g ((show k = m from by omega) ▸ C0) eN (fun i hi => hg i (by omega)) hfr
    · have q1 := Int32.not_le.mp q1
      have q1 := (nI_ltI (by omega) (by omega)).mp q1
      refine mt_aload_n dX4_made_13 rfl rfl ?_
      refine mt_iload dX4_made_14 rfl ?_
      refine mt_iload_n dX4_made_16 rfl ?_
      refine mt_iconst dX4_made_17 (v := nI 1) rfl ?_
      refine mt_icmp_le dX4_made_18 (tgt := 25) rfl (fun q2 => ?_) (fun q2 => ?_)
      · have q2 := Int32.not_lt.mpr q2
        have q2 := (not_congr (nI_ltI (by omega) (by omega))).mp q2
        refine mt_aload_n dX4_made_25 rfl rfl ?_
        refine mt_dup dX4_made_26 rfl ?_
        refine mt_getfield mKX4 (i := 2) (by decide) mw_1055 dX4_made_27 C0 rfl ?_
        refine mt_dup_x1 dX4_made_30 rfl rfl ?_
        refine mt_iconst dX4_made_31 (v := nI 1) rfl ?_
        refine mp_iadd dX4_made_32 (v := (madeG r k g0) + (nI 1)) rfl ?_
        refine mp_putfield mKX4 (i := 2) (fs' := [.ref k28, .ref k33, .int ((madeG r k g0) + (nI 1)), .int ac, .int rf, .int kn, .int th]) (by decide) mw_1055 rfl dX4_made_33 C0 (Nat.le_of_ble_eq_true rfl) rfl rfl (fun h3 e4 f5 => ?_)
        refine mp_iastore dX4_made_36 ((f5 (nn) (by omega)).trans eN) rfl (by omega) (by omega) (fun h6 e7 f8 => ?_)
        refine mp_iinc dX4_made_37 rfl (v := nI (k + 1)) mI_inc (ls' := [.ref 27, .int (nI r), .int (nI m), .ref nn, .int (nI (k + 1))]) rfl (by decide) rfl ?_
        refine mt_goto dX4_made_40 (tgt := 7) rfl ?_
        exact ih (k + 1) h6 (upd g k (madeG r k g0)) (by omega) (((f8 (27) (by omega)).trans e4).trans (by simp only [madeG, if_neg q2]; rw [Int32.add_assoc, nI_add])) e7 (arr_step (F := madeF r g0) hg (by simp only [madeF, madeG, if_neg q2])) (fun j hj hj2 => ((f8 j (by omega)).trans (f5 j (by omega))).trans (hfr j hj hj2)) (by omega)
      · have q2 := Int32.not_le.mp q2
        have q2 := (nI_ltI (by omega) (by omega)).mp q2
        refine mt_iconst dX4_made_21 (v := -1) rfl ?_
        refine mt_goto dX4_made_22 (tgt := 36) rfl ?_
        refine mp_iastore dX4_made_36 eN rfl (by omega) (by omega) (fun h9 e10 f11 => ?_)
        refine mp_iinc dX4_made_37 rfl (v := nI (k + 1)) mI_inc (ls' := [.ref 27, .int (nI r), .int (nI m), .ref nn, .int (nI (k + 1))]) rfl (by decide) rfl ?_
        refine mt_goto dX4_made_40 (tgt := 7) rfl ?_
        exact ih (k + 1) h9 (upd g k (-1)) (by omega) (((f11 (27) (by omega)).trans C0).trans (by simp only [madeG, if_pos q2])) e10 (arr_step (F := madeF r g0) hg (by simp only [madeF, madeG, if_pos q2])) (fun j hj hj2 => (f11 j (by omega)).trans (hfr j hj hj2)) (by omega)
abbrev rX4_made : Room := { frames := 0, cells := 1, slots := 640, locals := 0 }
set_option maxRecDepth 100000 in
set_option maxHeartbeats 2000000 in
theorem kX4_made {l : Launch} (hl : l.stackTraces = false) {h : mH} {n r m k28 k33 : Nat} {g ac rf kn th : Int32} (C0 : h 27 = .inr (.inr (6, [.ref k28, .ref k33, .int g, .int ac, .int rf, .int kn, .int th]))) (hn27 : 27 < n) (hm : m ≤ 640) (hr : r < 4) : mC l mX4_made rX4_made [.ref 27, .int (nI r), .int (nI m)] h n (fun v h' n' => v = some (.ref n) ∧ n' = n + 1 ∧ (∃ g9 : Nat → Int32, h' n = .inl (0, m, g9) ∧ ∀ i, i < m → g9 i = madeF r g i) ∧ h' 27 = .inr (.inr (6, [.ref k28, .ref k33, .int (madeG r m g), .int ac, .int rf, .int kn, .int th])) ∧ ∀ j, j ≠ n → j ≠ 27 → h' j = h j) (mNX) := by
  refine mm_enter hl (by decide +kernel) rfl rfl rfl (Nat.le_of_ble_eq_true rfl) ?_
  show mT _ _ _ _ 0 [.ref 27, .int (nI r), .int (nI m), .double 0, .double 0] [] _ _ 0 0
  refine mt_iload_n dX4_made_0 rfl ?_
  refine mp_newarray dX4_made_1 mw_87 rfl (by omega) (by simp only [rX4_made]; omega) (by simp only [rX4_made]; omega) (fun h1 e2 f3 => ?_)
  refine mp_astore_n dX4_made_3 (ls' := [.ref 27, .int (nI r), .int (nI m), .ref n, .double 0]) rfl rfl (by decide) rfl ?_
  refine mt_iconst dX4_made_4 (v := nI 0) rfl ?_
  refine mp_istore dX4_made_5 (ls' := [.ref 27, .int (nI r), .int (nI m), .ref n, .int (nI 0)]) rfl (by decide) rfl ?_
  refine tX4_made_7 hn27 hm hr (fun k_4 h_5 g_6 z7 z8 z9 z10 => ?_) _ 0 h1 (fun _ => (0 : Int32)) (Nat.lt_succ_self _) (((f3 (27) (by omega)).trans C0).trans (by unfold madeG; split; rfl; exact congrArg (fun x : Int32 => (Sum.inr (Sum.inr (6, [.ref k28, .ref k33, .int x, .int ac, .int rf, .int kn, .int th])) : mE)) (Int32.add_zero _).symm)) e2 (fun i hi => absurd hi (by omega)) (fun _ _ _ => rfl) (by omega)
  refine mt_aload_n dX4_made_43 rfl rfl ?_
  refine mt_areturn dX4_made_44 rfl (by first | exact Or.inl ⟨_, rfl⟩ | exact Or.inr ⟨_, rfl⟩) rfl (by simp only [rX4_made]; omega) (by simp only [rX4_made]; omega) ?_
  exact ⟨rfl, rfl, ⟨_, z8, z9⟩, z7, fun j hj hj2 => (z10 j hj hj2).trans (f3 j hj)⟩
