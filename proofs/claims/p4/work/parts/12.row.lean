/-! ===== the class Row ===== -/
abbrev rX1_itemsWith : Room := { frames := 0, cells := 0, slots := 0, locals := 0 }
set_option maxRecDepth 100000 in
set_option maxHeartbeats 2000000 in
theorem tX1_itemsWith_4 {l : Launch} {R : Room} {K : mK} {cc sc : Nat} {h : mH} {n a room : Nat} {fl : Int32} {xs : List mIt} {key : Int32} {r : Int32}  (H : rowAt h a room fl xs) (kk0 : ∀ (acc : Int32) (i : Nat), (acc = r) → mT l mX1_itemsWith R K 31 [.ref a, .int key, .int acc, .int (nI i)] [] h n cc sc) : ∀ (N0 : Nat) (i : Nat) (acc : Int32), (xs.length - i) < N0 → (mlp (fun i acc => if xk xs i = key then acc + 1 else acc) (xs.length - i) i acc = r) → (i ≤ xs.length + 1) → mT l mX1_itemsWith R K 4 [.ref a, .int key, .int acc, .int (nI i)] [] h n cc sc := by
  intro N0
  induction N0 with
  | zero => intro i acc hm; exact absurd hm (Nat.not_lt_zero _)
  | succ N0 ih =>
    intro i acc hm hr hi
    obtain ⟨f, g, ea, ek, es, ql, qr, qk, qt⟩ := id H
    refine mt_iload_n dX1_itemsWith_4 rfl ?_
    refine mt_aload_n dX1_itemsWith_5 rfl rfl ?_
    refine mt_getfield mKX1 (i := 3) (by decide) mw_77 dX1_itemsWith_6 ea rfl ?_
    refine mt_icmp_ge dX1_itemsWith_9 (tgt := 31) rfl (fun q1 => ?_) (fun q1 => ?_)
    · have q1 := Int32.not_lt.mpr q1
      have q1 := (not_congr (nI_ltI (by omega) (by omega))).mp q1
      exact kk0 acc i ((mlp_end (by omega)).symm.trans hr)
    · have q1 := Int32.not_le.mp q1
      have q1 := (nI_ltI (by omega) (by omega)).mp q1
      refine mt_aload_n dX1_itemsWith_12 rfl rfl ?_
      refine mt_getfield mKX1 (i := 0) (by decide) mw_67 dX1_itemsWith_13 ea rfl ?_
      refine mt_iload_n dX1_itemsWith_16 rfl ?_
      refine mp_iaload dX1_itemsWith_17 ek rfl (by omega) (by omega) (v := xk xs i) (qk _ (by omega)) ?_
      refine mt_iload_n dX1_itemsWith_18 rfl ?_
      refine mt_icmp_ne dX1_itemsWith_19 (tgt := 25) rfl (fun q2 => ?_) (fun q2 => ?_)
      · refine mp_iinc dX1_itemsWith_25 rfl (v := nI (i + 1)) mI_inc (ls' := [.ref a, .int key, .int acc, .int (nI (i + 1))]) rfl (by decide) rfl ?_
        refine mt_goto dX1_itemsWith_28 (tgt := 4) rfl ?_
        exact ih (i + 1) acc (by omega) ((mlp_go (by omega) (by simp [q1, q2, nI_0, mI_one] <;> rfl)).symm.trans hr) (by omega)
      · refine mp_iinc dX1_itemsWith_22 rfl (v := acc + 1) rfl (ls' := [.ref a, .int key, .int (acc + 1), .int (nI i)]) rfl (by decide) rfl ?_
        refine mp_iinc dX1_itemsWith_25 rfl (v := nI (i + 1)) mI_inc (ls' := [.ref a, .int key, .int (acc + 1), .int (nI (i + 1))]) rfl (by decide) rfl ?_
        refine mt_goto dX1_itemsWith_28 (tgt := 4) rfl ?_
        exact ih (i + 1) (acc + 1) (by omega) ((mlp_go (by omega) (by simp [q1, q2, nI_0, mI_one] <;> rfl)).symm.trans hr) (by omega)
def q_itemsWith (xs : List mIt) (key : Int32) : Int32 := mlp (fun i acc => if xk xs i = key then acc + 1 else acc) (xs.length - 0) 0 (nI 0)
set_option maxRecDepth 100000 in
set_option maxHeartbeats 2000000 in
theorem kX1_itemsWith {l : Launch} (hl : l.stackTraces = false) {h : mH} {n a room : Nat} {fl : Int32} {xs : List mIt} {key : Int32} (H : rowAt h a room fl xs) : mC l mX1_itemsWith rX1_itemsWith [.ref a, .int key] h n (mRi (q_itemsWith xs key) h n) (mNX) := by
  obtain ⟨f, g, ea, ek, es, ql, qr, qk, qt⟩ := id H
  refine mm_enter hl (by decide +kernel) rfl rfl rfl (Nat.le_of_ble_eq_true rfl) ?_
  show mT _ _ _ _ 0 [.ref a, .int key, .double 0, .double 0] [] _ _ 0 0
  refine mt_iconst dX1_itemsWith_0 (v := nI 0) rfl ?_
  refine mp_istore_n dX1_itemsWith_1 (ls' := [.ref a, .int key, .int (nI 0), .double 0]) rfl (by decide) rfl ?_
  refine mt_iconst dX1_itemsWith_2 (v := nI 0) rfl ?_
  refine mp_istore_n dX1_itemsWith_3 (ls' := [.ref a, .int key, .int (nI 0), .int (nI 0)]) rfl (by decide) rfl ?_
  refine tX1_itemsWith_4 H (fun acc_1 i_2 z3 => ?_) (xs.length - 0 + 1) 0 (nI 0) (Nat.lt_succ_self _) rfl (by omega)
  refine mt_iload_n dX1_itemsWith_31 rfl ?_
  refine mt_ireturn dX1_itemsWith_32 rfl rfl (Nat.le_of_ble_eq_true rfl) (Nat.le_of_ble_eq_true rfl) ?_
  exact ⟨congrArg (fun x => some (Value.int x)) z3, rfl, rfl⟩
abbrev rX1_itemsBelow : Room := { frames := 0, cells := 0, slots := 0, locals := 0 }
set_option maxRecDepth 100000 in
set_option maxHeartbeats 2000000 in
theorem tX1_itemsBelow_4 {l : Launch} {R : Room} {K : mK} {cc sc : Nat} {h : mH} {n a room : Nat} {fl : Int32} {xs : List mIt} {key : Int32} {r : Int32}  (H : rowAt h a room fl xs) (kk0 : ∀ (acc : Int32) (i : Nat), (acc = r) → mT l mX1_itemsBelow R K 31 [.ref a, .int key, .int acc, .int (nI i)] [] h n cc sc) : ∀ (N0 : Nat) (i : Nat) (acc : Int32), (xs.length - i) < N0 → (mlp (fun i acc => if xk xs i < key then acc + 1 else acc) (xs.length - i) i acc = r) → (i ≤ xs.length + 1) → mT l mX1_itemsBelow R K 4 [.ref a, .int key, .int acc, .int (nI i)] [] h n cc sc := by
  intro N0
  induction N0 with
  | zero => intro i acc hm; exact absurd hm (Nat.not_lt_zero _)
  | succ N0 ih =>
    intro i acc hm hr hi
    obtain ⟨f, g, ea, ek, es, ql, qr, qk, qt⟩ := id H
    refine mt_iload_n dX1_itemsBelow_4 rfl ?_
    refine mt_aload_n dX1_itemsBelow_5 rfl rfl ?_
    refine mt_getfield mKX1 (i := 3) (by decide) mw_77 dX1_itemsBelow_6 ea rfl ?_
    refine mt_icmp_ge dX1_itemsBelow_9 (tgt := 31) rfl (fun q1 => ?_) (fun q1 => ?_)
    · have q1 := Int32.not_lt.mpr q1
      have q1 := (not_congr (nI_ltI (by omega) (by omega))).mp q1
      exact kk0 acc i ((mlp_end (by omega)).symm.trans hr)
    · have q1 := Int32.not_le.mp q1
      have q1 := (nI_ltI (by omega) (by omega)).mp q1
      refine mt_aload_n dX1_itemsBelow_12 rfl rfl ?_
      refine mt_getfield mKX1 (i := 0) (by decide) mw_67 dX1_itemsBelow_13 ea rfl ?_
      refine mt_iload_n dX1_itemsBelow_16 rfl ?_
      refine mp_iaload dX1_itemsBelow_17 ek rfl (by omega) (by omega) (v := xk xs i) (qk _ (by omega)) ?_
      refine mt_iload_n dX1_itemsBelow_18 rfl ?_
      refine mt_icmp_ge dX1_itemsBelow_19 (tgt := 25) rfl (fun q2 => ?_) (fun q2 => ?_)
      · have q2 := Int32.not_lt.mpr q2
        refine mp_iinc dX1_itemsBelow_25 rfl (v := nI (i + 1)) mI_inc (ls' := [.ref a, .int key, .int acc, .int (nI (i + 1))]) rfl (by decide) rfl ?_
        refine mt_goto dX1_itemsBelow_28 (tgt := 4) rfl ?_
        exact ih (i + 1) acc (by omega) ((mlp_go (by omega) (by simp [q1, q2, nI_0, mI_one] <;> rfl)).symm.trans hr) (by omega)
      · have q2 := Int32.not_le.mp q2
        refine mp_iinc dX1_itemsBelow_22 rfl (v := acc + 1) rfl (ls' := [.ref a, .int key, .int (acc + 1), .int (nI i)]) rfl (by decide) rfl ?_
        refine mp_iinc dX1_itemsBelow_25 rfl (v := nI (i + 1)) mI_inc (ls' := [.ref a, .int key, .int (acc + 1), .int (nI (i + 1))]) rfl (by decide) rfl ?_
        refine mt_goto dX1_itemsBelow_28 (tgt := 4) rfl ?_
        exact ih (i + 1) (acc + 1) (by omega) ((mlp_go (by omega) (by simp [q1, q2, nI_0, mI_one] <;> rfl)).symm.trans hr) (by omega)
def q_itemsBelow (xs : List mIt) (key : Int32) : Int32 := mlp (fun i acc => if xk xs i < key then acc + 1 else acc) (xs.length - 0) 0 (nI 0)
set_option maxRecDepth 100000 in
set_option maxHeartbeats 2000000 in
theorem kX1_itemsBelow {l : Launch} (hl : l.stackTraces = false) {h : mH} {n a room : Nat} {fl : Int32} {xs : List mIt} {key : Int32} (H : rowAt h a room fl xs) : mC l mX1_itemsBelow rX1_itemsBelow [.ref a, .int key] h n (mRi (q_itemsBelow xs key) h n) (mNX) := by
  obtain ⟨f, g, ea, ek, es, ql, qr, qk, qt⟩ := id H
  refine mm_enter hl (by decide +kernel) rfl rfl rfl (Nat.le_of_ble_eq_true rfl) ?_
  show mT _ _ _ _ 0 [.ref a, .int key, .double 0, .double 0] [] _ _ 0 0
  refine mt_iconst dX1_itemsBelow_0 (v := nI 0) rfl ?_
  refine mp_istore_n dX1_itemsBelow_1 (ls' := [.ref a, .int key, .int (nI 0), .double 0]) rfl (by decide) rfl ?_
  refine mt_iconst dX1_itemsBelow_2 (v := nI 0) rfl ?_
  refine mp_istore_n dX1_itemsBelow_3 (ls' := [.ref a, .int key, .int (nI 0), .int (nI 0)]) rfl (by decide) rfl ?_
  refine tX1_itemsBelow_4 H (fun acc_1 i_2 z3 => ?_) (xs.length - 0 + 1) 0 (nI 0) (Nat.lt_succ_self _) rfl (by omega)
  refine mt_iload_n dX1_itemsBelow_31 rfl ?_
  refine mt_ireturn dX1_itemsBelow_32 rfl rfl (Nat.le_of_ble_eq_true rfl) (Nat.le_of_ble_eq_true rfl) ?_
  exact ⟨congrArg (fun x => some (Value.int x)) z3, rfl, rfl⟩
abbrev rX1_keysTogether : Room := { frames := 0, cells := 0, slots := 0, locals := 0 }
set_option maxRecDepth 100000 in
set_option maxHeartbeats 2000000 in
theorem tX1_keysTogether_4 {l : Launch} {R : Room} {K : mK} {cc sc : Nat} {h : mH} {n a room : Nat} {fl : Int32} {xs : List mIt} {r : Int32}  (H : rowAt h a room fl xs) (kk0 : ∀ (acc : Int32) (i : Nat), (acc = r) → mT l mX1_keysTogether R K 27 [.ref a, .int acc, .int (nI i)] [] h n cc sc) : ∀ (N0 : Nat) (i : Nat) (acc : Int32), (xs.length - i) < N0 → (mlp (fun i acc => acc + xk xs i) (xs.length - i) i acc = r) → (i ≤ xs.length + 1) → mT l mX1_keysTogether R K 4 [.ref a, .int acc, .int (nI i)] [] h n cc sc := by
  intro N0
  induction N0 with
  | zero => intro i acc hm; exact absurd hm (Nat.not_lt_zero _)
  | succ N0 ih =>
    intro i acc hm hr hi
    obtain ⟨f, g, ea, ek, es, ql, qr, qk, qt⟩ := id H
    refine mt_iload_n dX1_keysTogether_4 rfl ?_
    refine mt_aload_n dX1_keysTogether_5 rfl rfl ?_
    refine mt_getfield mKX1 (i := 3) (by decide) mw_77 dX1_keysTogether_6 ea rfl ?_
    refine mt_icmp_ge dX1_keysTogether_9 (tgt := 27) rfl (fun q1 => ?_) (fun q1 => ?_)
    · have q1 := Int32.not_lt.mpr q1
      have q1 := (not_congr (nI_ltI (by omega) (by omega))).mp q1
      exact kk0 acc i ((mlp_end (by omega)).symm.trans hr)
    · have q1 := Int32.not_le.mp q1
      have q1 := (nI_ltI (by omega) (by omega)).mp q1
      refine mt_iload_n dX1_keysTogether_12 rfl ?_
      refine mt_aload_n dX1_keysTogether_13 rfl rfl ?_
      refine mt_getfield mKX1 (i := 0) (by decide) mw_67 dX1_keysTogether_14 ea rfl ?_
      refine mt_iload_n dX1_keysTogether_17 rfl ?_
      refine mp_iaload dX1_keysTogether_18 ek rfl (by omega) (by omega) (v := xk xs i) (qk _ (by omega)) ?_
      refine mp_iadd dX1_keysTogether_19 (v := acc + (xk xs i)) rfl ?_
      refine mp_istore_n dX1_keysTogether_20 (ls' := [.ref a, .int (acc + (xk xs i)), .int (nI i)]) rfl (by decide) rfl ?_
      refine mp_iinc dX1_keysTogether_21 rfl (v := nI (i + 1)) mI_inc (ls' := [.ref a, .int (acc + (xk xs i)), .int (nI (i + 1))]) rfl (by decide) rfl ?_
      refine mt_goto dX1_keysTogether_24 (tgt := 4) rfl ?_
      exact ih (i + 1) (acc + (xk xs i)) (by omega) ((mlp_go (by omega) (by simp [q1, nI_0, mI_one] <;> rfl)).symm.trans hr) (by omega)
def q_keysTogether (xs : List mIt) : Int32 := mlp (fun i acc => acc + xk xs i) (xs.length - 0) 0 (nI 0)
set_option maxRecDepth 100000 in
set_option maxHeartbeats 2000000 in
theorem kX1_keysTogether {l : Launch} (hl : l.stackTraces = false) {h : mH} {n a room : Nat} {fl : Int32} {xs : List mIt} (H : rowAt h a room fl xs) : mC l mX1_keysTogether rX1_keysTogether [.ref a] h n (mRi (q_keysTogether xs) h n) (mNX) := by
  obtain ⟨f, g, ea, ek, es, ql, qr, qk, qt⟩ := id H
  refine mm_enter hl (by decide +kernel) rfl rfl rfl (Nat.le_of_ble_eq_true rfl) ?_
  show mT _ _ _ _ 0 [.ref a, .double 0, .double 0] [] _ _ 0 0
  refine mt_iconst dX1_keysTogether_0 (v := nI 0) rfl ?_
  refine mp_istore_n dX1_keysTogether_1 (ls' := [.ref a, .int (nI 0), .double 0]) rfl (by decide) rfl ?_
  refine mt_iconst dX1_keysTogether_2 (v := nI 0) rfl ?_
  refine mp_istore_n dX1_keysTogether_3 (ls' := [.ref a, .int (nI 0), .int (nI 0)]) rfl (by decide) rfl ?_
  refine tX1_keysTogether_4 H (fun acc_1 i_2 z3 => ?_) (xs.length - 0 + 1) 0 (nI 0) (Nat.lt_succ_self _) rfl (by omega)
  refine mt_iload_n dX1_keysTogether_27 rfl ?_
  refine mt_ireturn dX1_keysTogether_28 rfl rfl (Nat.le_of_ble_eq_true rfl) (Nat.le_of_ble_eq_true rfl) ?_
  exact ⟨congrArg (fun x => some (Value.int x)) z3, rfl, rfl⟩
abbrev rX1_runsInAll : Room := { frames := 0, cells := 0, slots := 0, locals := 0 }
set_option maxRecDepth 100000 in
set_option maxHeartbeats 2000000 in
theorem tX1_runsInAll_4 {l : Launch} {R : Room} {K : mK} {cc sc : Nat} {h : mH} {n a room : Nat} {fl : Int32} {xs : List mIt} {r : Int32}  (H : rowAt h a room fl xs) (kk0 : ∀ (acc : Int32) (i : Nat), (acc = r) → mT l mX1_runsInAll R K 42 [.ref a, .int acc, .int (nI i)] [] h n cc sc) : ∀ (N0 : Nat) (i : Nat) (acc : Int32), (xs.length - i) < N0 → (mlp (fun i acc => if i = 0 ∨ xk xs i < xk xs (i - 1) then acc + 1 else acc) (xs.length - i) i acc = r) → (i ≤ xs.length + 1) → mT l mX1_runsInAll R K 4 [.ref a, .int acc, .int (nI i)] [] h n cc sc := by
  intro N0
  induction N0 with
  | zero => intro i acc hm; exact absurd hm (Nat.not_lt_zero _)
  | succ N0 ih =>
    intro i acc hm hr hi
    obtain ⟨f, g, ea, ek, es, ql, qr, qk, qt⟩ := id H
    refine mt_iload_n dX1_runsInAll_4 rfl ?_
    refine mt_aload_n dX1_runsInAll_5 rfl rfl ?_
    refine mt_getfield mKX1 (i := 3) (by decide) mw_77 dX1_runsInAll_6 ea rfl ?_
    refine mt_icmp_ge dX1_runsInAll_9 (tgt := 42) rfl (fun q1 => ?_) (fun q1 => ?_)
    · have q1 := Int32.not_lt.mpr q1
      have q1 := (not_congr (nI_ltI (by omega) (by omega))).mp q1
      exact kk0 acc i ((mlp_end (by omega)).symm.trans hr)
    · have q1 := Int32.not_le.mp q1
      have q1 := (nI_ltI (by omega) (by omega)).mp q1
      refine mt_iload_n dX1_runsInAll_12 rfl ?_
      refine mt_if_eq dX1_runsInAll_13 (tgt := 33) rfl (fun q2 => ?_) (fun q2 => ?_)
      · have q2 := (mI_eq0 (by omega)).mp q2
        refine mp_iinc dX1_runsInAll_33 rfl (v := acc + 1) rfl (ls' := [.ref a, .int (acc + 1), .int (nI i)]) rfl (by decide) rfl ?_
        refine mp_iinc dX1_runsInAll_36 rfl (v := nI (i + 1)) mI_inc (ls' := [.ref a, .int (acc + 1), .int (nI (i + 1))]) rfl (by decide) rfl ?_
        refine mt_goto dX1_runsInAll_39 (tgt := 4) rfl ?_
        exact ih (i + 1) (acc + 1) (by omega) ((mlp_go (by omega) (by simp [q1, q2, nI_0, mI_one] <;> rfl)).symm.trans hr) (by omega)
      · have q2 := (not_congr (mI_eq0 (by omega))).mp q2
        refine mt_aload_n dX1_runsInAll_16 rfl rfl ?_
        refine mt_getfield mKX1 (i := 0) (by decide) mw_67 dX1_runsInAll_17 ea rfl ?_
        refine mt_iload_n dX1_runsInAll_20 rfl ?_
        refine mp_iaload dX1_runsInAll_21 ek rfl (by omega) (by omega) (v := xk xs i) (qk _ (by omega)) ?_
        refine mt_aload_n dX1_runsInAll_22 rfl rfl ?_
        refine mt_getfield mKX1 (i := 0) (by decide) mw_67 dX1_runsInAll_23 ea rfl ?_
        refine mt_iload_n dX1_runsInAll_26 rfl ?_
        refine mt_iconst dX1_runsInAll_27 (v := nI 1) rfl ?_
        refine mp_isub dX1_runsInAll_28 (v := nI (i - 1)) (pk_sub (by omega)) ?_
        refine mp_iaload dX1_runsInAll_29 ek rfl (by omega) (by omega) (v := xk xs (i - 1)) (qk _ (by omega)) ?_
        refine mt_icmp_ge dX1_runsInAll_30 (tgt := 36) rfl (fun q3 => ?_) (fun q3 => ?_)
        · have q3 := Int32.not_lt.mpr q3
          refine mp_iinc dX1_runsInAll_36 rfl (v := nI (i + 1)) mI_inc (ls' := [.ref a, .int acc, .int (nI (i + 1))]) rfl (by decide) rfl ?_
          refine mt_goto dX1_runsInAll_39 (tgt := 4) rfl ?_
          exact ih (i + 1) acc (by omega) ((mlp_go (by omega) (by simp [q1, q2, q3, nI_0, mI_one] <;> rfl)).symm.trans hr) (by omega)
        · have q3 := Int32.not_le.mp q3
          refine mp_iinc dX1_runsInAll_33 rfl (v := acc + 1) rfl (ls' := [.ref a, .int (acc + 1), .int (nI i)]) rfl (by decide) rfl ?_
          refine mp_iinc dX1_runsInAll_36 rfl (v := nI (i + 1)) mI_inc (ls' := [.ref a, .int (acc + 1), .int (nI (i + 1))]) rfl (by decide) rfl ?_
          refine mt_goto dX1_runsInAll_39 (tgt := 4) rfl ?_
          exact ih (i + 1) (acc + 1) (by omega) ((mlp_go (by omega) (by simp [q1, q2, q3, nI_0, mI_one] <;> rfl)).symm.trans hr) (by omega)
def q_runsInAll (xs : List mIt) : Int32 := mlp (fun i acc => if i = 0 ∨ xk xs i < xk xs (i - 1) then acc + 1 else acc) (xs.length - 0) 0 (nI 0)
set_option maxRecDepth 100000 in
set_option maxHeartbeats 2000000 in
theorem kX1_runsInAll {l : Launch} (hl : l.stackTraces = false) {h : mH} {n a room : Nat} {fl : Int32} {xs : List mIt} (H : rowAt h a room fl xs) : mC l mX1_runsInAll rX1_runsInAll [.ref a] h n (mRi (q_runsInAll xs) h n) (mNX) := by
  obtain ⟨f, g, ea, ek, es, ql, qr, qk, qt⟩ := id H
  refine mm_enter hl (by decide +kernel) rfl rfl rfl (Nat.le_of_ble_eq_true rfl) ?_
  show mT _ _ _ _ 0 [.ref a, .double 0, .double 0] [] _ _ 0 0
  refine mt_iconst dX1_runsInAll_0 (v := nI 0) rfl ?_
  refine mp_istore_n dX1_runsInAll_1 (ls' := [.ref a, .int (nI 0), .double 0]) rfl (by decide) rfl ?_
  refine mt_iconst dX1_runsInAll_2 (v := nI 0) rfl ?_
  refine mp_istore_n dX1_runsInAll_3 (ls' := [.ref a, .int (nI 0), .int (nI 0)]) rfl (by decide) rfl ?_
  refine tX1_runsInAll_4 H (fun acc_1 i_2 z3 => ?_) (xs.length - 0 + 1) 0 (nI 0) (Nat.lt_succ_self _) rfl (by omega)
  refine mt_iload_n dX1_runsInAll_42 rfl ?_
  refine mt_ireturn dX1_runsInAll_43 rfl rfl (Nat.le_of_ble_eq_true rfl) (Nat.le_of_ble_eq_true rfl) ?_
  exact ⟨congrArg (fun x => some (Value.int x)) z3, rfl, rfl⟩
abbrev rX1_unlikeKeysOfSorted : Room := { frames := 0, cells := 0, slots := 0, locals := 0 }
set_option maxRecDepth 100000 in
set_option maxHeartbeats 2000000 in
theorem tX1_unlikeKeysOfSorted_4 {l : Launch} {R : Room} {K : mK} {cc sc : Nat} {h : mH} {n a room : Nat} {fl : Int32} {xs : List mIt} {r : Int32}  (H : rowAt h a room fl xs) (kk0 : ∀ (acc : Int32) (i : Nat), (acc = r) → mT l mX1_unlikeKeysOfSorted R K 42 [.ref a, .int acc, .int (nI i)] [] h n cc sc) : ∀ (N0 : Nat) (i : Nat) (acc : Int32), (xs.length - i) < N0 → (mlp (fun i acc => if i = 0 ∨ ¬ xk xs i = xk xs (i - 1) then acc + 1 else acc) (xs.length - i) i acc = r) → (i ≤ xs.length + 1) → mT l mX1_unlikeKeysOfSorted R K 4 [.ref a, .int acc, .int (nI i)] [] h n cc sc := by
  intro N0
  induction N0 with
  | zero => intro i acc hm; exact absurd hm (Nat.not_lt_zero _)
  | succ N0 ih =>
    intro i acc hm hr hi
    obtain ⟨f, g, ea, ek, es, ql, qr, qk, qt⟩ := id H
    refine mt_iload_n dX1_unlikeKeysOfSorted_4 rfl ?_
    refine mt_aload_n dX1_unlikeKeysOfSorted_5 rfl rfl ?_
    refine mt_getfield mKX1 (i := 3) (by decide) mw_77 dX1_unlikeKeysOfSorted_6 ea rfl ?_
    refine mt_icmp_ge dX1_unlikeKeysOfSorted_9 (tgt := 42) rfl (fun q1 => ?_) (fun q1 => ?_)
    · have q1 := Int32.not_lt.mpr q1
      have q1 := (not_congr (nI_ltI (by omega) (by omega))).mp q1
      exact kk0 acc i ((mlp_end (by omega)).symm.trans hr)
    · have q1 := Int32.not_le.mp q1
      have q1 := (nI_ltI (by omega) (by omega)).mp q1
      refine mt_iload_n dX1_unlikeKeysOfSorted_12 rfl ?_
      refine mt_if_eq dX1_unlikeKeysOfSorted_13 (tgt := 33) rfl (fun q2 => ?_) (fun q2 => ?_)
      · have q2 := (mI_eq0 (by omega)).mp q2
        refine mp_iinc dX1_unlikeKeysOfSorted_33 rfl (v := acc + 1) rfl (ls' := [.ref a, .int (acc + 1), .int (nI i)]) rfl (by decide) rfl ?_
        refine mp_iinc dX1_unlikeKeysOfSorted_36 rfl (v := nI (i + 1)) mI_inc (ls' := [.ref a, .int (acc + 1), .int (nI (i + 1))]) rfl (by decide) rfl ?_
        refine mt_goto dX1_unlikeKeysOfSorted_39 (tgt := 4) rfl ?_
        exact ih (i + 1) (acc + 1) (by omega) ((mlp_go (by omega) (by simp [q1, q2, nI_0, mI_one] <;> rfl)).symm.trans hr) (by omega)
      · have q2 := (not_congr (mI_eq0 (by omega))).mp q2
        refine mt_aload_n dX1_unlikeKeysOfSorted_16 rfl rfl ?_
        refine mt_getfield mKX1 (i := 0) (by decide) mw_67 dX1_unlikeKeysOfSorted_17 ea rfl ?_
        refine mt_iload_n dX1_unlikeKeysOfSorted_20 rfl ?_
        refine mp_iaload dX1_unlikeKeysOfSorted_21 ek rfl (by omega) (by omega) (v := xk xs i) (qk _ (by omega)) ?_
        refine mt_aload_n dX1_unlikeKeysOfSorted_22 rfl rfl ?_
        refine mt_getfield mKX1 (i := 0) (by decide) mw_67 dX1_unlikeKeysOfSorted_23 ea rfl ?_
        refine mt_iload_n dX1_unlikeKeysOfSorted_26 rfl ?_
        refine mt_iconst dX1_unlikeKeysOfSorted_27 (v := nI 1) rfl ?_
        refine mp_isub dX1_unlikeKeysOfSorted_28 (v := nI (i - 1)) (pk_sub (by omega)) ?_
        refine mp_iaload dX1_unlikeKeysOfSorted_29 ek rfl (by omega) (by omega) (v := xk xs (i - 1)) (qk _ (by omega)) ?_
        refine mt_icmp_eq dX1_unlikeKeysOfSorted_30 (tgt := 36) rfl (fun q3 => ?_) (fun q3 => ?_)
        · refine mp_iinc dX1_unlikeKeysOfSorted_36 rfl (v := nI (i + 1)) mI_inc (ls' := [.ref a, .int acc, .int (nI (i + 1))]) rfl (by decide) rfl ?_
          refine mt_goto dX1_unlikeKeysOfSorted_39 (tgt := 4) rfl ?_
          exact ih (i + 1) acc (by omega) ((mlp_go (by omega) (by simp [q1, q2, q3, nI_0, mI_one] <;> rfl)).symm.trans hr) (by omega)
        · refine mp_iinc dX1_unlikeKeysOfSorted_33 rfl (v := acc + 1) rfl (ls' := [.ref a, .int (acc + 1), .int (nI i)]) rfl (by decide) rfl ?_
          refine mp_iinc dX1_unlikeKeysOfSorted_36 rfl (v := nI (i + 1)) mI_inc (ls' := [.ref a, .int (acc + 1), .int (nI (i + 1))]) rfl (by decide) rfl ?_
          refine mt_goto dX1_unlikeKeysOfSorted_39 (tgt := 4) rfl ?_
          exact ih (i + 1) (acc + 1) (by omega) ((mlp_go (by omega) (by simp [q1, q2, q3, nI_0, mI_one] <;> rfl)).symm.trans hr) (by omega)
def q_unlikeKeysOfSorted (xs : List mIt) : Int32 := mlp (fun i acc => if i = 0 ∨ ¬ xk xs i = xk xs (i - 1) then acc + 1 else acc) (xs.length - 0) 0 (nI 0)
set_option maxRecDepth 100000 in
set_option maxHeartbeats 2000000 in
theorem kX1_unlikeKeysOfSorted {l : Launch} (hl : l.stackTraces = false) {h : mH} {n a room : Nat} {fl : Int32} {xs : List mIt} (H : rowAt h a room fl xs) : mC l mX1_unlikeKeysOfSorted rX1_unlikeKeysOfSorted [.ref a] h n (mRi (q_unlikeKeysOfSorted xs) h n) (mNX) := by
  obtain ⟨f, g, ea, ek, es, ql, qr, qk, qt⟩ := id H
  refine mm_enter hl (by decide +kernel) rfl rfl rfl (Nat.le_of_ble_eq_true rfl) ?_
  show mT _ _ _ _ 0 [.ref a, .double 0, .double 0] [] _ _ 0 0
  refine mt_iconst dX1_unlikeKeysOfSorted_0 (v := nI 0) rfl ?_
  refine mp_istore_n dX1_unlikeKeysOfSorted_1 (ls' := [.ref a, .int (nI 0), .double 0]) rfl (by decide) rfl ?_
  refine mt_iconst dX1_unlikeKeysOfSorted_2 (v := nI 0) rfl ?_
  refine mp_istore_n dX1_unlikeKeysOfSorted_3 (ls' := [.ref a, .int (nI 0), .int (nI 0)]) rfl (by decide) rfl ?_
  refine tX1_unlikeKeysOfSorted_4 H (fun acc_1 i_2 z3 => ?_) (xs.length - 0 + 1) 0 (nI 0) (Nat.lt_succ_self _) rfl (by omega)
  refine mt_iload_n dX1_unlikeKeysOfSorted_42 rfl ?_
  refine mt_ireturn dX1_unlikeKeysOfSorted_43 rfl rfl (Nat.le_of_ble_eq_true rfl) (Nat.le_of_ble_eq_true rfl) ?_
  exact ⟨congrArg (fun x => some (Value.int x)) z3, rfl, rfl⟩
abbrev rX1_leastKey : Room := { frames := 0, cells := 0, slots := 0, locals := 0 }
set_option maxRecDepth 100000 in
set_option maxHeartbeats 2000000 in
theorem tX1_leastKey_5 {l : Launch} {R : Room} {K : mK} {cc sc : Nat} {h : mH} {n a room : Nat} {fl : Int32} {xs : List mIt} {r : Int32}  (H : rowAt h a room fl xs) (kk0 : ∀ (acc : Int32) (i : Nat), (acc = r) → mT l mX1_leastKey R K 40 [.ref a, .int acc, .int (nI i)] [] h n cc sc) : ∀ (N0 : Nat) (i : Nat) (acc : Int32), (xs.length - i) < N0 → (mlp (fun i acc => if i = 0 ∨ xk xs i < acc then xk xs i else acc) (xs.length - i) i acc = r) → (i ≤ xs.length + 1) → mT l mX1_leastKey R K 5 [.ref a, .int acc, .int (nI i)] [] h n cc sc := by
  intro N0
  induction N0 with
  | zero => intro i acc hm; exact absurd hm (Nat.not_lt_zero _)
  | succ N0 ih =>
    intro i acc hm hr hi
    obtain ⟨f, g, ea, ek, es, ql, qr, qk, qt⟩ := id H
    refine mt_iload_n dX1_leastKey_5 rfl ?_
    refine mt_aload_n dX1_leastKey_6 rfl rfl ?_
    refine mt_getfield mKX1 (i := 3) (by decide) mw_77 dX1_leastKey_7 ea rfl ?_
    refine mt_icmp_ge dX1_leastKey_10 (tgt := 40) rfl (fun q1 => ?_) (fun q1 => ?_)
    · have q1 := Int32.not_lt.mpr q1
      have q1 := (not_congr (nI_ltI (by omega) (by omega))).mp q1
      exact kk0 acc i ((mlp_end (by omega)).symm.trans hr)
    · have q1 := Int32.not_le.mp q1
      have q1 := (nI_ltI (by omega) (by omega)).mp q1
      refine mt_iload_n dX1_leastKey_13 rfl ?_
      refine mt_if_eq dX1_leastKey_14 (tgt := 27) rfl (fun q2 => ?_) (fun q2 => ?_)
      · have q2 := (mI_eq0 (by omega)).mp q2
        refine mt_aload_n dX1_leastKey_27 rfl rfl ?_
        refine mt_getfield mKX1 (i := 0) (by decide) mw_67 dX1_leastKey_28 ea rfl ?_
        refine mt_iload_n dX1_leastKey_31 rfl ?_
        refine mp_iaload dX1_leastKey_32 ek rfl (by omega) (by omega) (v := xk xs i) (qk _ (by omega)) ?_
        refine mp_istore_n dX1_leastKey_33 (ls' := [.ref a, .int (xk xs i), .int (nI i)]) rfl (by decide) rfl ?_
        refine mp_iinc dX1_leastKey_34 rfl (v := nI (i + 1)) mI_inc (ls' := [.ref a, .int (xk xs i), .int (nI (i + 1))]) rfl (by decide) rfl ?_
        refine mt_goto dX1_leastKey_37 (tgt := 5) rfl ?_
        exact ih (i + 1) (xk xs i) (by omega) ((mlp_go (by omega) (by simp [q1, q2, nI_0, mI_one] <;> rfl)).symm.trans hr) (by omega)
      · have q2 := (not_congr (mI_eq0 (by omega))).mp q2
        refine mt_aload_n dX1_leastKey_17 rfl rfl ?_
        refine mt_getfield mKX1 (i := 0) (by decide) mw_67 dX1_leastKey_18 ea rfl ?_
        refine mt_iload_n dX1_leastKey_21 rfl ?_
        refine mp_iaload dX1_leastKey_22 ek rfl (by omega) (by omega) (v := xk xs i) (qk _ (by omega)) ?_
        refine mt_iload_n dX1_leastKey_23 rfl ?_
        refine mt_icmp_ge dX1_leastKey_24 (tgt := 34) rfl (fun q3 => ?_) (fun q3 => ?_)
        · have q3 := Int32.not_lt.mpr q3
          refine mp_iinc dX1_leastKey_34 rfl (v := nI (i + 1)) mI_inc (ls' := [.ref a, .int acc, .int (nI (i + 1))]) rfl (by decide) rfl ?_
          refine mt_goto dX1_leastKey_37 (tgt := 5) rfl ?_
          exact ih (i + 1) acc (by omega) ((mlp_go (by omega) (by simp [q1, q2, q3, nI_0, mI_one] <;> rfl)).symm.trans hr) (by omega)
        · have q3 := Int32.not_le.mp q3
          refine mt_aload_n dX1_leastKey_27 rfl rfl ?_
          refine mt_getfield mKX1 (i := 0) (by decide) mw_67 dX1_leastKey_28 ea rfl ?_
          refine mt_iload_n dX1_leastKey_31 rfl ?_
          refine mp_iaload dX1_leastKey_32 ek rfl (by omega) (by omega) (v := xk xs i) (qk _ (by omega)) ?_
          refine mp_istore_n dX1_leastKey_33 (ls' := [.ref a, .int (xk xs i), .int (nI i)]) rfl (by decide) rfl ?_
          refine mp_iinc dX1_leastKey_34 rfl (v := nI (i + 1)) mI_inc (ls' := [.ref a, .int (xk xs i), .int (nI (i + 1))]) rfl (by decide) rfl ?_
          refine mt_goto dX1_leastKey_37 (tgt := 5) rfl ?_
          exact ih (i + 1) (xk xs i) (by omega) ((mlp_go (by omega) (by simp [q1, q2, q3, nI_0, mI_one] <;> rfl)).symm.trans hr) (by omega)
def q_leastKey (xs : List mIt) : Int32 := mlp (fun i acc => if i = 0 ∨ xk xs i < acc then xk xs i else acc) (xs.length - 0) 0 ((-100000))
set_option maxRecDepth 100000 in
set_option maxHeartbeats 2000000 in
theorem kX1_leastKey {l : Launch} (hl : l.stackTraces = false) {h : mH} {n a room : Nat} {fl : Int32} {xs : List mIt} (H : rowAt h a room fl xs) : mC l mX1_leastKey rX1_leastKey [.ref a] h n (mRi (q_leastKey xs) h n) (mNX) := by
  obtain ⟨f, g, ea, ek, es, ql, qr, qk, qt⟩ := id H
  refine mm_enter hl (by decide +kernel) rfl rfl rfl (Nat.le_of_ble_eq_true rfl) ?_
  show mT _ _ _ _ 0 [.ref a, .double 0, .double 0] [] _ _ 0 0
  refine mt_ldc (v := (-100000)) dX1_leastKey_0 mw_999 ?_
  refine mp_istore_n dX1_leastKey_2 (ls' := [.ref a, .int (-100000), .double 0]) rfl (by decide) rfl ?_
  refine mt_iconst dX1_leastKey_3 (v := nI 0) rfl ?_
  refine mp_istore_n dX1_leastKey_4 (ls' := [.ref a, .int (-100000), .int (nI 0)]) rfl (by decide) rfl ?_
  refine tX1_leastKey_5 H (fun acc_1 i_2 z3 => ?_) (xs.length - 0 + 1) 0 (-100000) (Nat.lt_succ_self _) rfl (by omega)
  refine mt_iload_n dX1_leastKey_40 rfl ?_
  refine mt_ireturn dX1_leastKey_41 rfl rfl (Nat.le_of_ble_eq_true rfl) (Nat.le_of_ble_eq_true rfl) ?_
  exact ⟨congrArg (fun x => some (Value.int x)) z3, rfl, rfl⟩
abbrev rX1_greatestKey : Room := { frames := 1, cells := 0, slots := 0, locals := 21 }
set_option maxRecDepth 100000 in
set_option maxHeartbeats 2000000 in
theorem tX1_greatestKey_5 {l : Launch} {K : mK} {h : mH} {n a room : Nat} {fl : Int32} {xs : List mIt} {r : Int32}  (H : rowAt h a room fl xs) (kk0 : ∀ (acc : Int32) (i : Nat), (acc = r) → mT l mX1_greatestKey rX1_greatestKey K 30 [.ref a, .int acc, .int (nI i)] [] h n 0 0) : ∀ (N0 : Nat) (i : Nat) (acc : Int32), (xs.length - i) < N0 → (mlp (fun i acc => if acc < xk xs i then xk xs i else acc) (xs.length - i) i acc = r) → (i ≤ xs.length + 1) → mT l mX1_greatestKey rX1_greatestKey K 5 [.ref a, .int acc, .int (nI i)] [] h n 0 0 := by
  intro N0
  induction N0 with
  | zero => intro i acc hm; exact absurd hm (Nat.not_lt_zero _)
  | succ N0 ih =>
    intro i acc hm hr hi
    obtain ⟨f, g, ea, ek, es, ql, qr, qk, qt⟩ := id H
    refine mt_iload_n dX1_greatestKey_5 rfl ?_
    refine mt_aload_n dX1_greatestKey_6 rfl rfl ?_
    refine mt_getfield mKX1 (i := 3) (by decide) mw_77 dX1_greatestKey_7 ea rfl ?_
    refine mt_icmp_ge dX1_greatestKey_10 (tgt := 30) rfl (fun q1 => ?_) (fun q1 => ?_)
    · have q1 := Int32.not_lt.mpr q1
      have q1 := (not_congr (nI_ltI (by omega) (by omega))).mp q1
      exact kk0 acc i ((mlp_end (by omega)).symm.trans hr)
    · have q1 := Int32.not_le.mp q1
      have q1 := (nI_ltI (by omega) (by omega)).mp q1
      refine mt_iload_n dX1_greatestKey_13 rfl ?_
      refine mt_aload_n dX1_greatestKey_14 rfl rfl ?_
      refine mt_getfield mKX1 (i := 0) (by decide) mw_67 dX1_greatestKey_15 ea rfl ?_
      refine mt_iload_n dX1_greatestKey_18 rfl ?_
      refine mp_iaload dX1_greatestKey_19 ek rfl (by omega) (by omega) (v := xk xs i) (qk _ (by omega)) ?_
      refine mt_mmax dX1_greatestKey_20 mw_348 mw_349 mw_41 (mw_max) (Nat.le_of_ble_eq_true rfl) ⟨Nat.le_of_ble_eq_true rfl, Nat.le_of_ble_eq_true rfl⟩ (Nat.le_of_ble_eq_true rfl) (Nat.le_of_ble_eq_true rfl) (v := if acc < (xk xs i) then (xk xs i) else acc) rfl ?_
      refine mp_istore_n dX1_greatestKey_23 (ls' := [.ref a, .int (if acc < (xk xs i) then (xk xs i) else acc), .int (nI i)]) rfl (by decide) rfl ?_
      refine mp_iinc dX1_greatestKey_24 rfl (v := nI (i + 1)) mI_inc (ls' := [.ref a, .int (if acc < (xk xs i) then (xk xs i) else acc), .int (nI (i + 1))]) rfl (by decide) rfl ?_
      refine mt_goto dX1_greatestKey_27 (tgt := 5) rfl ?_
      exact ih (i + 1) (if acc < (xk xs i) then (xk xs i) else acc) (by omega) ((mlp_go (by omega) (by simp [q1, nI_0, mI_one] <;> rfl)).symm.trans hr) (by omega)
def q_greatestKey (xs : List mIt) : Int32 := mlp (fun i acc => if acc < xk xs i then xk xs i else acc) (xs.length - 0) 0 ((-100000))
set_option maxRecDepth 100000 in
set_option maxHeartbeats 2000000 in
theorem kX1_greatestKey {l : Launch} (hl : l.stackTraces = false) {h : mH} {n a room : Nat} {fl : Int32} {xs : List mIt} (H : rowAt h a room fl xs) : mC l mX1_greatestKey rX1_greatestKey [.ref a] h n (mRi (q_greatestKey xs) h n) (mNX) := by
  obtain ⟨f, g, ea, ek, es, ql, qr, qk, qt⟩ := id H
  refine mm_enter hl (by decide +kernel) rfl rfl rfl (Nat.le_of_ble_eq_true rfl) ?_
  show mT _ _ _ _ 0 [.ref a, .double 0, .double 0] [] _ _ 0 0
  refine mt_ldc (v := (-100000)) dX1_greatestKey_0 mw_999 ?_
  refine mp_istore_n dX1_greatestKey_2 (ls' := [.ref a, .int (-100000), .double 0]) rfl (by decide) rfl ?_
  refine mt_iconst dX1_greatestKey_3 (v := nI 0) rfl ?_
  refine mp_istore_n dX1_greatestKey_4 (ls' := [.ref a, .int (-100000), .int (nI 0)]) rfl (by decide) rfl ?_
  refine tX1_greatestKey_5 H (fun acc_1 i_2 z3 => ?_) (xs.length - 0 + 1) 0 (-100000) (Nat.lt_succ_self _) rfl (by omega)
  refine mt_iload_n dX1_greatestKey_30 rfl ?_
  refine mt_ireturn dX1_greatestKey_31 rfl rfl (Nat.le_of_ble_eq_true rfl) (Nat.le_of_ble_eq_true rfl) ?_
  exact ⟨congrArg (fun x => some (Value.int x)) z3, rfl, rfl⟩
abbrev rX1_longestRun : Room := { frames := 1, cells := 0, slots := 0, locals := 21 }
set_option maxRecDepth 100000 in
set_option maxHeartbeats 2000000 in
theorem tX1_longestRun_6 {l : Launch} {K : mK} {h : mH} {n a room : Nat} {fl : Int32} {xs : List mIt} {r : Int32 × Int32}  (H : rowAt h a room fl xs) (kk0 : ∀ (acc : Int32) (run : Int32) (i : Nat), ((acc, run) = r) → mT l mX1_longestRun rX1_longestRun K 55 [.ref a, .int acc, .int run, .int (nI i)] [] h n 0 0) : ∀ (N0 : Nat) (i : Nat) (acc : Int32) (run : Int32), (xs.length - i) < N0 → (mlp (fun i (p : Int32 × Int32) => let run := if 0 < i ∧ xk xs i < xk xs (i - 1) then 1 else p.2 + 1; (if p.1 < run then run else p.1, run)) (xs.length - i) i (acc, run) = r) → (i ≤ xs.length + 1) → mT l mX1_longestRun rX1_longestRun K 6 [.ref a, .int acc, .int run, .int (nI i)] [] h n 0 0 := by
  intro N0
  induction N0 with
  | zero => intro i acc run hm; exact absurd hm (Nat.not_lt_zero _)
  | succ N0 ih =>
    intro i acc run hm hr hi
    obtain ⟨f, g, ea, ek, es, ql, qr, qk, qt⟩ := id H
    refine mt_iload_n dX1_longestRun_6 rfl ?_
    refine mt_aload_n dX1_longestRun_7 rfl rfl ?_
    refine mt_getfield mKX1 (i := 3) (by decide) mw_77 dX1_longestRun_8 ea rfl ?_
    refine mt_icmp_ge dX1_longestRun_11 (tgt := 55) rfl (fun q1 => ?_) (fun q1 => ?_)
    · have q1 := Int32.not_lt.mpr q1
      have q1 := (not_congr (nI_ltI (by omega) (by omega))).mp q1
      exact kk0 acc run i ((mlp_end (by omega)).symm.trans hr)
    · have q1 := Int32.not_le.mp q1
      have q1 := (nI_ltI (by omega) (by omega)).mp q1
      refine mt_iload_n dX1_longestRun_14 rfl ?_
      refine mt_if_le dX1_longestRun_15 (tgt := 39) rfl (fun q2 => ?_) (fun q2 => ?_)
      · have q2 := Int32.not_lt.mpr q2
        have q2 := (not_congr (mI_gt0 (by omega))).mp q2
        refine mt_iload_n dX1_longestRun_39 rfl ?_
        refine mt_iconst dX1_longestRun_40 (v := nI 1) rfl ?_
        refine mp_iadd dX1_longestRun_41 (v := run + (nI 1)) rfl ?_
        refine mp_istore_n dX1_longestRun_42 (ls' := [.ref a, .int acc, .int (run + (nI 1)), .int (nI i)]) rfl (by decide) rfl ?_
        refine mt_iload_n dX1_longestRun_43 rfl ?_
        refine mt_iload_n dX1_longestRun_44 rfl ?_
        refine mt_mmax dX1_longestRun_45 mw_348 mw_349 mw_41 (mw_max) (Nat.le_of_ble_eq_true rfl) ⟨Nat.le_of_ble_eq_true rfl, Nat.le_of_ble_eq_true rfl⟩ (Nat.le_of_ble_eq_true rfl) (Nat.le_of_ble_eq_true rfl) (v := if acc < (run + (nI 1)) then (run + (nI 1)) else acc) rfl ?_
        refine mp_istore_n dX1_longestRun_48 (ls' := [.ref a, .int (if acc < (run + (nI 1)) then (run + (nI 1)) else acc), .int (run + (nI 1)), .int (nI i)]) rfl (by decide) rfl ?_
        refine mp_iinc dX1_longestRun_49 rfl (v := nI (i + 1)) mI_inc (ls' := [.ref a, .int (if acc < (run + (nI 1)) then (run + (nI 1)) else acc), .int (run + (nI 1)), .int (nI (i + 1))]) rfl (by decide) rfl ?_
        refine mt_goto dX1_longestRun_52 (tgt := 6) rfl ?_
        exact ih (i + 1) (if acc < (run + (nI 1)) then (run + (nI 1)) else acc) (run + (nI 1)) (by omega) ((mlp_go (by omega) (by simp [q1, q2, nI_0, mI_one] <;> rfl)).symm.trans hr) (by omega)
      · have q2 := Int32.not_le.mp q2
        have q2 := (mI_gt0 (by omega)).mp q2
        refine mt_aload_n dX1_longestRun_18 rfl rfl ?_
        refine mt_getfield mKX1 (i := 0) (by decide) mw_67 dX1_longestRun_19 ea rfl ?_
        refine mt_iload_n dX1_longestRun_22 rfl ?_
        refine mp_iaload dX1_longestRun_23 ek rfl (by omega) (by omega) (v := xk xs i) (qk _ (by omega)) ?_
        refine mt_aload_n dX1_longestRun_24 rfl rfl ?_
        refine mt_getfield mKX1 (i := 0) (by decide) mw_67 dX1_longestRun_25 ea rfl ?_
        refine mt_iload_n dX1_longestRun_28 rfl ?_
        refine mt_iconst dX1_longestRun_29 (v := nI 1) rfl ?_
        refine mp_isub dX1_longestRun_30 (v := nI (i - 1)) (pk_sub (by omega)) ?_
        refine mp_iaload dX1_longestRun_31 ek rfl (by omega) (by omega) (v := xk xs (i - 1)) (qk _ (by omega)) ?_
        refine mt_icmp_ge dX1_longestRun_32 (tgt := 39) rfl (fun q3 => ?_) (fun q3 => ?_)
        · have q3 := Int32.not_lt.mpr q3
          refine mt_iload_n dX1_longestRun_39 rfl ?_
          refine mt_iconst dX1_longestRun_40 (v := nI 1) rfl ?_
          refine mp_iadd dX1_longestRun_41 (v := run + (nI 1)) rfl ?_
          refine mp_istore_n dX1_longestRun_42 (ls' := [.ref a, .int acc, .int (run + (nI 1)), .int (nI i)]) rfl (by decide) rfl ?_
          refine mt_iload_n dX1_longestRun_43 rfl ?_
          refine mt_iload_n dX1_longestRun_44 rfl ?_
          refine mt_mmax dX1_longestRun_45 mw_348 mw_349 mw_41 (mw_max) (Nat.le_of_ble_eq_true rfl) ⟨Nat.le_of_ble_eq_true rfl, Nat.le_of_ble_eq_true rfl⟩ (Nat.le_of_ble_eq_true rfl) (Nat.le_of_ble_eq_true rfl) (v := if acc < (run + (nI 1)) then (run + (nI 1)) else acc) rfl ?_
          refine mp_istore_n dX1_longestRun_48 (ls' := [.ref a, .int (if acc < (run + (nI 1)) then (run + (nI 1)) else acc), .int (run + (nI 1)), .int (nI i)]) rfl (by decide) rfl ?_
          refine mp_iinc dX1_longestRun_49 rfl (v := nI (i + 1)) mI_inc (ls' := [.ref a, .int (if acc < (run + (nI 1)) then (run + (nI 1)) else acc), .int (run + (nI 1)), .int (nI (i + 1))]) rfl (by decide) rfl ?_
          refine mt_goto dX1_longestRun_52 (tgt := 6) rfl ?_
          exact ih (i + 1) (if acc < (run + (nI 1)) then (run + (nI 1)) else acc) (run + (nI 1)) (by omega) ((mlp_go (by omega) (by simp [q1, q2, q3, nI_0, mI_one] <;> rfl)).symm.trans hr) (by omega)
        · have q3 := Int32.not_le.mp q3
          refine mt_iconst dX1_longestRun_35 (v := nI 1) rfl ?_
          refine mt_goto dX1_longestRun_36 (tgt := 42) rfl ?_
          refine mp_istore_n dX1_longestRun_42 (ls' := [.ref a, .int acc, .int (nI 1), .int (nI i)]) rfl (by decide) rfl ?_
          refine mt_iload_n dX1_longestRun_43 rfl ?_
          refine mt_iload_n dX1_longestRun_44 rfl ?_
          refine mt_mmax dX1_longestRun_45 mw_348 mw_349 mw_41 (mw_max) (Nat.le_of_ble_eq_true rfl) ⟨Nat.le_of_ble_eq_true rfl, Nat.le_of_ble_eq_true rfl⟩ (Nat.le_of_ble_eq_true rfl) (Nat.le_of_ble_eq_true rfl) (v := if acc < (nI 1) then (nI 1) else acc) rfl ?_
          refine mp_istore_n dX1_longestRun_48 (ls' := [.ref a, .int (if acc < (nI 1) then (nI 1) else acc), .int (nI 1), .int (nI i)]) rfl (by decide) rfl ?_
          refine mp_iinc dX1_longestRun_49 rfl (v := nI (i + 1)) mI_inc (ls' := [.ref a, .int (if acc < (nI 1) then (nI 1) else acc), .int (nI 1), .int (nI (i + 1))]) rfl (by decide) rfl ?_
          refine mt_goto dX1_longestRun_52 (tgt := 6) rfl ?_
          exact ih (i + 1) (if acc < (nI 1) then (nI 1) else acc) (nI 1) (by omega) ((mlp_go (by omega) (by simp [q1, q2, q3, nI_0, mI_one] <;> rfl)).symm.trans hr) (by omega)
def q_longestRun (xs : List mIt) : Int32 := (mlp (fun i (p : Int32 × Int32) => let run := if 0 < i ∧ xk xs i < xk xs (i - 1) then 1 else p.2 + 1; (if p.1 < run then run else p.1, run)) (xs.length - 0) 0 (nI 0, nI 0)).1
set_option maxRecDepth 100000 in
set_option maxHeartbeats 2000000 in
theorem kX1_longestRun {l : Launch} (hl : l.stackTraces = false) {h : mH} {n a room : Nat} {fl : Int32} {xs : List mIt} (H : rowAt h a room fl xs) : mC l mX1_longestRun rX1_longestRun [.ref a] h n (mRi (q_longestRun xs) h n) (mNX) := by
  obtain ⟨f, g, ea, ek, es, ql, qr, qk, qt⟩ := id H
  refine mm_enter hl (by decide +kernel) rfl rfl rfl (Nat.le_of_ble_eq_true rfl) ?_
  show mT _ _ _ _ 0 [.ref a, .double 0, .double 0, .double 0] [] _ _ 0 0
  refine mt_iconst dX1_longestRun_0 (v := nI 0) rfl ?_
  refine mp_istore_n dX1_longestRun_1 (ls' := [.ref a, .int (nI 0), .double 0, .double 0]) rfl (by decide) rfl ?_
  refine mt_iconst dX1_longestRun_2 (v := nI 0) rfl ?_
  refine mp_istore_n dX1_longestRun_3 (ls' := [.ref a, .int (nI 0), .int (nI 0), .double 0]) rfl (by decide) rfl ?_
  refine mt_iconst dX1_longestRun_4 (v := nI 0) rfl ?_
  refine mp_istore_n dX1_longestRun_5 (ls' := [.ref a, .int (nI 0), .int (nI 0), .int (nI 0)]) rfl (by decide) rfl ?_
  refine tX1_longestRun_6 H (fun acc_1 run_2 i_3 z4 => ?_) (xs.length - 0 + 1) 0 (nI 0) (nI 0) (Nat.lt_succ_self _) rfl (by omega)
  refine mt_iload_n dX1_longestRun_55 rfl ?_
  refine mt_ireturn dX1_longestRun_56 rfl rfl (Nat.le_of_ble_eq_true rfl) (Nat.le_of_ble_eq_true rfl) ?_
  exact ⟨congrArg (fun x => some (Value.int x.1)) z4, rfl, rfl⟩
abbrev rX1_tiedPairsOfSorted : Room := { frames := 0, cells := 0, slots := 0, locals := 0 }
set_option maxRecDepth 100000 in
set_option maxHeartbeats 2000000 in
theorem tX1_tiedPairsOfSorted_6 {l : Launch} {R : Room} {K : mK} {cc sc : Nat} {h : mH} {n a room : Nat} {fl : Int32} {xs : List mIt} {r : Int32 × Int32}  (H : rowAt h a room fl xs) (kk0 : ∀ (acc : Int32) (run : Int32) (i : Nat), ((acc, run) = r) → mT l mX1_tiedPairsOfSorted R K 49 [.ref a, .int acc, .int run, .int (nI i)] [] h n cc sc) : ∀ (N0 : Nat) (i : Nat) (acc : Int32) (run : Int32), (xs.length - i) < N0 → (mlp (fun i (p : Int32 × Int32) => let al := if xk xs i = xk xs (i - 1) then p.2 + 1 else 0; (p.1 + al, al)) (xs.length - i) i (acc, run) = r) → (i ≤ xs.length + 1) → (0 < i) → mT l mX1_tiedPairsOfSorted R K 6 [.ref a, .int acc, .int run, .int (nI i)] [] h n cc sc := by
  intro N0
  induction N0 with
  | zero => intro i acc run hm; exact absurd hm (Nat.not_lt_zero _)
  | succ N0 ih =>
    intro i acc run hm hr hi h0
    obtain ⟨f, g, ea, ek, es, ql, qr, qk, qt⟩ := id H
    refine mt_iload_n dX1_tiedPairsOfSorted_6 rfl ?_
    refine mt_aload_n dX1_tiedPairsOfSorted_7 rfl rfl ?_
    refine mt_getfield mKX1 (i := 3) (by decide) mw_77 dX1_tiedPairsOfSorted_8 ea rfl ?_
    refine mt_icmp_ge dX1_tiedPairsOfSorted_11 (tgt := 49) rfl (fun q1 => ?_) (fun q1 => ?_)
    · have q1 := Int32.not_lt.mpr q1
      have q1 := (not_congr (nI_ltI (by omega) (by omega))).mp q1
      exact kk0 acc run i ((mlp_end (by omega)).symm.trans hr)
    · have q1 := Int32.not_le.mp q1
      have q1 := (nI_ltI (by omega) (by omega)).mp q1
      refine mt_aload_n dX1_tiedPairsOfSorted_14 rfl rfl ?_
      refine mt_getfield mKX1 (i := 0) (by decide) mw_67 dX1_tiedPairsOfSorted_15 ea rfl ?_
      refine mt_iload_n dX1_tiedPairsOfSorted_18 rfl ?_
      refine mp_iaload dX1_tiedPairsOfSorted_19 ek rfl (by omega) (by omega) (v := xk xs i) (qk _ (by omega)) ?_
      refine mt_aload_n dX1_tiedPairsOfSorted_20 rfl rfl ?_
      refine mt_getfield mKX1 (i := 0) (by decide) mw_67 dX1_tiedPairsOfSorted_21 ea rfl ?_
      refine mt_iload_n dX1_tiedPairsOfSorted_24 rfl ?_
      refine mt_iconst dX1_tiedPairsOfSorted_25 (v := nI 1) rfl ?_
      refine mp_isub dX1_tiedPairsOfSorted_26 (v := nI (i - 1)) (pk_sub (by omega)) ?_
      refine mp_iaload dX1_tiedPairsOfSorted_27 ek rfl (by omega) (by omega) (v := xk xs (i - 1)) (qk _ (by omega)) ?_
      refine mt_icmp_ne dX1_tiedPairsOfSorted_28 (tgt := 37) rfl (fun q2 => ?_) (fun q2 => ?_)
      · refine mt_iconst dX1_tiedPairsOfSorted_37 (v := nI 0) rfl ?_
        refine mp_istore_n dX1_tiedPairsOfSorted_38 (ls' := [.ref a, .int acc, .int (nI 0), .int (nI i)]) rfl (by decide) rfl ?_
        refine mt_iload_n dX1_tiedPairsOfSorted_39 rfl ?_
        refine mt_iload_n dX1_tiedPairsOfSorted_40 rfl ?_
        refine mp_iadd dX1_tiedPairsOfSorted_41 (v := acc + (nI 0)) rfl ?_
        refine mp_istore_n dX1_tiedPairsOfSorted_42 (ls' := [.ref a, .int (acc + (nI 0)), .int (nI 0), .int (nI i)]) rfl (by decide) rfl ?_
        refine mp_iinc dX1_tiedPairsOfSorted_43 rfl (v := nI (i + 1)) mI_inc (ls' := [.ref a, .int (acc + (nI 0)), .int (nI 0), .int (nI (i + 1))]) rfl (by decide) rfl ?_
        refine mt_goto dX1_tiedPairsOfSorted_46 (tgt := 6) rfl ?_
        exact ih (i + 1) (acc + (nI 0)) (nI 0) (by omega) ((mlp_go (by omega) (by simp [q1, q2, nI_0, mI_one] <;> rfl)).symm.trans hr) (by omega) (by omega)
      · refine mt_iload_n dX1_tiedPairsOfSorted_31 rfl ?_
        refine mt_iconst dX1_tiedPairsOfSorted_32 (v := nI 1) rfl ?_
        refine mp_iadd dX1_tiedPairsOfSorted_33 (v := run + (nI 1)) rfl ?_
        refine mt_goto dX1_tiedPairsOfSorted_34 (tgt := 38) rfl ?_
        refine mp_istore_n dX1_tiedPairsOfSorted_38 (ls' := [.ref a, .int acc, .int (run + (nI 1)), .int (nI i)]) rfl (by decide) rfl ?_
        refine mt_iload_n dX1_tiedPairsOfSorted_39 rfl ?_
        refine mt_iload_n dX1_tiedPairsOfSorted_40 rfl ?_
        refine mp_iadd dX1_tiedPairsOfSorted_41 (v := acc + (run + (nI 1))) rfl ?_
        refine mp_istore_n dX1_tiedPairsOfSorted_42 (ls' := [.ref a, .int (acc + (run + (nI 1))), .int (run + (nI 1)), .int (nI i)]) rfl (by decide) rfl ?_
        refine mp_iinc dX1_tiedPairsOfSorted_43 rfl (v := nI (i + 1)) mI_inc (ls' := [.ref a, .int (acc + (run + (nI 1))), .int (run + (nI 1)), .int (nI (i + 1))]) rfl (by decide) rfl ?_
        refine mt_goto dX1_tiedPairsOfSorted_46 (tgt := 6) rfl ?_
        exact ih (i + 1) (acc + (run + (nI 1))) (run + (nI 1)) (by omega) ((mlp_go (by omega) (by simp [q1, q2, nI_0, mI_one] <;> rfl)).symm.trans hr) (by omega) (by omega)
def q_tiedPairsOfSorted (xs : List mIt) : Int32 := (mlp (fun i (p : Int32 × Int32) => let al := if xk xs i = xk xs (i - 1) then p.2 + 1 else 0; (p.1 + al, al)) (xs.length - 1) 1 (nI 0, nI 0)).1
set_option maxRecDepth 100000 in
set_option maxHeartbeats 2000000 in
theorem kX1_tiedPairsOfSorted {l : Launch} (hl : l.stackTraces = false) {h : mH} {n a room : Nat} {fl : Int32} {xs : List mIt} (H : rowAt h a room fl xs) : mC l mX1_tiedPairsOfSorted rX1_tiedPairsOfSorted [.ref a] h n (mRi (q_tiedPairsOfSorted xs) h n) (mNX) := by
  obtain ⟨f, g, ea, ek, es, ql, qr, qk, qt⟩ := id H
  refine mm_enter hl (by decide +kernel) rfl rfl rfl (Nat.le_of_ble_eq_true rfl) ?_
  show mT _ _ _ _ 0 [.ref a, .double 0, .double 0, .double 0] [] _ _ 0 0
  refine mt_iconst dX1_tiedPairsOfSorted_0 (v := nI 0) rfl ?_
  refine mp_istore_n dX1_tiedPairsOfSorted_1 (ls' := [.ref a, .int (nI 0), .double 0, .double 0]) rfl (by decide) rfl ?_
  refine mt_iconst dX1_tiedPairsOfSorted_2 (v := nI 0) rfl ?_
  refine mp_istore_n dX1_tiedPairsOfSorted_3 (ls' := [.ref a, .int (nI 0), .int (nI 0), .double 0]) rfl (by decide) rfl ?_
  refine mt_iconst dX1_tiedPairsOfSorted_4 (v := nI 1) rfl ?_
  refine mp_istore_n dX1_tiedPairsOfSorted_5 (ls' := [.ref a, .int (nI 0), .int (nI 0), .int (nI 1)]) rfl (by decide) rfl ?_
  refine tX1_tiedPairsOfSorted_6 H (fun acc_1 run_2 i_3 z4 => ?_) (xs.length - 1 + 1) 1 (nI 0) (nI 0) (Nat.lt_succ_self _) rfl (by omega) (by decide)
  refine mt_iload_n dX1_tiedPairsOfSorted_49 rfl ?_
  refine mt_ireturn dX1_tiedPairsOfSorted_50 rfl rfl (Nat.le_of_ble_eq_true rfl) (Nat.le_of_ble_eq_true rfl) ?_
  exact ⟨congrArg (fun x => some (Value.int x.1)) z4, rfl, rfl⟩
abbrev rX1_commonestKeyOfSorted : Room := { frames := 0, cells := 0, slots := 0, locals := 0 }
set_option maxRecDepth 100000 in
set_option maxHeartbeats 2000000 in
theorem tX1_commonestKeyOfSorted_10 {l : Launch} {R : Room} {K : mK} {cc sc : Nat} {h : mH} {n a room : Nat} {fl : Int32} {xs : List mIt} {r : Int32 × Int32 × Int32}  (H : rowAt h a room fl xs) (kk0 : ∀ (com : Int32) (most : Int32) (al : Int32) (i : Nat), ((com, most, al) = r) → mT l mX1_commonestKeyOfSorted R K 72 [.ref a, .int com, .int most, .int al, .int (nI i)] [] h n cc sc) : ∀ (N0 : Nat) (i : Nat) (com : Int32) (most : Int32) (al : Int32), (xs.length - i) < N0 → (mlp (fun i (p : Int32 × Int32 × Int32) => let al := if 0 < i ∧ xk xs i = xk xs (i - 1) then p.2.2 + 1 else 1; if p.2.1 < al then (xk xs i, al, al) else (p.1, p.2.1, al)) (xs.length - i) i (com, most, al) = r) → (i ≤ xs.length + 1) → mT l mX1_commonestKeyOfSorted R K 10 [.ref a, .int com, .int most, .int al, .int (nI i)] [] h n cc sc := by
  intro N0
  induction N0 with
  | zero => intro i com most al hm; exact absurd hm (Nat.not_lt_zero _)
  | succ N0 ih =>
    intro i com most al hm hr hi
    obtain ⟨f, g, ea, ek, es, ql, qr, qk, qt⟩ := id H
    refine mt_iload dX1_commonestKeyOfSorted_10 rfl ?_
    refine mt_aload_n dX1_commonestKeyOfSorted_12 rfl rfl ?_
    refine mt_getfield mKX1 (i := 3) (by decide) mw_77 dX1_commonestKeyOfSorted_13 ea rfl ?_
    refine mt_icmp_ge dX1_commonestKeyOfSorted_16 (tgt := 72) rfl (fun q1 => ?_) (fun q1 => ?_)
    · have q1 := Int32.not_lt.mpr q1
      have q1 := (not_congr (nI_ltI (by omega) (by omega))).mp q1
      exact kk0 com most al i ((mlp_end (by omega)).symm.trans hr)
    · have q1 := Int32.not_le.mp q1
      have q1 := (nI_ltI (by omega) (by omega)).mp q1
      refine mt_iload dX1_commonestKeyOfSorted_19 rfl ?_
      refine mt_if_le dX1_commonestKeyOfSorted_21 (tgt := 49) rfl (fun q2 => ?_) (fun q2 => ?_)
      · have q2 := Int32.not_lt.mpr q2
        have q2 := (not_congr (mI_gt0 (by omega))).mp q2
        refine mt_iconst dX1_commonestKeyOfSorted_49 (v := nI 1) rfl ?_
        refine mp_istore_n dX1_commonestKeyOfSorted_50 (ls' := [.ref a, .int com, .int most, .int (nI 1), .int (nI i)]) rfl (by decide) rfl ?_
        refine mt_iload_n dX1_commonestKeyOfSorted_51 rfl ?_
        refine mt_iload_n dX1_commonestKeyOfSorted_52 rfl ?_
        refine mt_icmp_le dX1_commonestKeyOfSorted_53 (tgt := 66) rfl (fun q3 => ?_) (fun q3 => ?_)
        · have q3 := Int32.not_lt.mpr q3
          simp only [mI_one, nI_0] at q3
          refine mp_iinc dX1_commonestKeyOfSorted_66 rfl (v := nI (i + 1)) mI_inc (ls' := [.ref a, .int com, .int most, .int (nI 1), .int (nI (i + 1))]) rfl (by decide) rfl ?_
          refine mt_goto dX1_commonestKeyOfSorted_69 (tgt := 10) rfl ?_
          exact ih (i + 1) com most (nI 1) (by omega) ((mlp_go (by omega) (by simp [q1, q2, q3, nI_0, mI_one] <;> rfl)).symm.trans hr) (by omega)
        · have q3 := Int32.not_le.mp q3
          simp only [mI_one, nI_0] at q3
          refine mt_iload_n dX1_commonestKeyOfSorted_56 rfl ?_
          refine mp_istore_n dX1_commonestKeyOfSorted_57 (ls' := [.ref a, .int com, .int (nI 1), .int (nI 1), .int (nI i)]) rfl (by decide) rfl ?_
          refine mt_aload_n dX1_commonestKeyOfSorted_58 rfl rfl ?_
          refine mt_getfield mKX1 (i := 0) (by decide) mw_67 dX1_commonestKeyOfSorted_59 ea rfl ?_
          refine mt_iload dX1_commonestKeyOfSorted_62 rfl ?_
          refine mp_iaload dX1_commonestKeyOfSorted_64 ek rfl (by omega) (by omega) (v := xk xs i) (qk _ (by omega)) ?_
          refine mp_istore_n dX1_commonestKeyOfSorted_65 (ls' := [.ref a, .int (xk xs i), .int (nI 1), .int (nI 1), .int (nI i)]) rfl (by decide) rfl ?_
          refine mp_iinc dX1_commonestKeyOfSorted_66 rfl (v := nI (i + 1)) mI_inc (ls' := [.ref a, .int (xk xs i), .int (nI 1), .int (nI 1), .int (nI (i + 1))]) rfl (by decide) rfl ?_
          refine mt_goto dX1_commonestKeyOfSorted_69 (tgt := 10) rfl ?_
          exact ih (i + 1) (xk xs i) (nI 1) (nI 1) (by omega) ((mlp_go (by omega) (by simp [q1, q2, q3, nI_0, mI_one] <;> rfl)).symm.trans hr) (by omega)
      · have q2 := Int32.not_le.mp q2
        have q2 := (mI_gt0 (by omega)).mp q2
        refine mt_aload_n dX1_commonestKeyOfSorted_24 rfl rfl ?_
        refine mt_getfield mKX1 (i := 0) (by decide) mw_67 dX1_commonestKeyOfSorted_25 ea rfl ?_
        refine mt_iload dX1_commonestKeyOfSorted_28 rfl ?_
        refine mp_iaload dX1_commonestKeyOfSorted_30 ek rfl (by omega) (by omega) (v := xk xs i) (qk _ (by omega)) ?_
        refine mt_aload_n dX1_commonestKeyOfSorted_31 rfl rfl ?_
        refine mt_getfield mKX1 (i := 0) (by decide) mw_67 dX1_commonestKeyOfSorted_32 ea rfl ?_
        refine mt_iload dX1_commonestKeyOfSorted_35 rfl ?_
        refine mt_iconst dX1_commonestKeyOfSorted_37 (v := nI 1) rfl ?_
        refine mp_isub dX1_commonestKeyOfSorted_38 (v := nI (i - 1)) (pk_sub (by omega)) ?_
        refine mp_iaload dX1_commonestKeyOfSorted_39 ek rfl (by omega) (by omega) (v := xk xs (i - 1)) (qk _ (by omega)) ?_
        refine mt_icmp_ne dX1_commonestKeyOfSorted_40 (tgt := 49) rfl (fun q4 => ?_) (fun q4 => ?_)
        · refine mt_iconst dX1_commonestKeyOfSorted_49 (v := nI 1) rfl ?_
          refine mp_istore_n dX1_commonestKeyOfSorted_50 (ls' := [.ref a, .int com, .int most, .int (nI 1), .int (nI i)]) rfl (by decide) rfl ?_
          refine mt_iload_n dX1_commonestKeyOfSorted_51 rfl ?_
          refine mt_iload_n dX1_commonestKeyOfSorted_52 rfl ?_
          refine mt_icmp_le dX1_commonestKeyOfSorted_53 (tgt := 66) rfl (fun q5 => ?_) (fun q5 => ?_)
          · have q5 := Int32.not_lt.mpr q5
            simp only [mI_one, nI_0] at q5
            refine mp_iinc dX1_commonestKeyOfSorted_66 rfl (v := nI (i + 1)) mI_inc (ls' := [.ref a, .int com, .int most, .int (nI 1), .int (nI (i + 1))]) rfl (by decide) rfl ?_
            refine mt_goto dX1_commonestKeyOfSorted_69 (tgt := 10) rfl ?_
            exact ih (i + 1) com most (nI 1) (by omega) ((mlp_go (by omega) (by simp [q1, q2, q4, q5, nI_0, mI_one] <;> rfl)).symm.trans hr) (by omega)
          · have q5 := Int32.not_le.mp q5
            simp only [mI_one, nI_0] at q5
            refine mt_iload_n dX1_commonestKeyOfSorted_56 rfl ?_
            refine mp_istore_n dX1_commonestKeyOfSorted_57 (ls' := [.ref a, .int com, .int (nI 1), .int (nI 1), .int (nI i)]) rfl (by decide) rfl ?_
            refine mt_aload_n dX1_commonestKeyOfSorted_58 rfl rfl ?_
            refine mt_getfield mKX1 (i := 0) (by decide) mw_67 dX1_commonestKeyOfSorted_59 ea rfl ?_
            refine mt_iload dX1_commonestKeyOfSorted_62 rfl ?_
            refine mp_iaload dX1_commonestKeyOfSorted_64 ek rfl (by omega) (by omega) (v := xk xs i) (qk _ (by omega)) ?_
            refine mp_istore_n dX1_commonestKeyOfSorted_65 (ls' := [.ref a, .int (xk xs i), .int (nI 1), .int (nI 1), .int (nI i)]) rfl (by decide) rfl ?_
            refine mp_iinc dX1_commonestKeyOfSorted_66 rfl (v := nI (i + 1)) mI_inc (ls' := [.ref a, .int (xk xs i), .int (nI 1), .int (nI 1), .int (nI (i + 1))]) rfl (by decide) rfl ?_
            refine mt_goto dX1_commonestKeyOfSorted_69 (tgt := 10) rfl ?_
            exact ih (i + 1) (xk xs i) (nI 1) (nI 1) (by omega) ((mlp_go (by omega) (by simp [q1, q2, q4, q5, nI_0, mI_one] <;> rfl)).symm.trans hr) (by omega)
        · refine mt_iload_n dX1_commonestKeyOfSorted_43 rfl ?_
          refine mt_iconst dX1_commonestKeyOfSorted_44 (v := nI 1) rfl ?_
          refine mp_iadd dX1_commonestKeyOfSorted_45 (v := al + (nI 1)) rfl ?_
          refine mt_goto dX1_commonestKeyOfSorted_46 (tgt := 50) rfl ?_
          refine mp_istore_n dX1_commonestKeyOfSorted_50 (ls' := [.ref a, .int com, .int most, .int (al + (nI 1)), .int (nI i)]) rfl (by decide) rfl ?_
          refine mt_iload_n dX1_commonestKeyOfSorted_51 rfl ?_
          refine mt_iload_n dX1_commonestKeyOfSorted_52 rfl ?_
          refine mt_icmp_le dX1_commonestKeyOfSorted_53 (tgt := 66) rfl (fun q6 => ?_) (fun q6 => ?_)
          · have q6 := Int32.not_lt.mpr q6
            simp only [mI_one, nI_0] at q6
            refine mp_iinc dX1_commonestKeyOfSorted_66 rfl (v := nI (i + 1)) mI_inc (ls' := [.ref a, .int com, .int most, .int (al + (nI 1)), .int (nI (i + 1))]) rfl (by decide) rfl ?_
            refine mt_goto dX1_commonestKeyOfSorted_69 (tgt := 10) rfl ?_
            exact ih (i + 1) com most (al + (nI 1)) (by omega) ((mlp_go (by omega) (by simp [q1, q2, q4, q6, nI_0, mI_one] <;> rfl)).symm.trans hr) (by omega)
          · have q6 := Int32.not_le.mp q6
            simp only [mI_one, nI_0] at q6
            refine mt_iload_n dX1_commonestKeyOfSorted_56 rfl ?_
            refine mp_istore_n dX1_commonestKeyOfSorted_57 (ls' := [.ref a, .int com, .int (al + (nI 1)), .int (al + (nI 1)), .int (nI i)]) rfl (by decide) rfl ?_
            refine mt_aload_n dX1_commonestKeyOfSorted_58 rfl rfl ?_
            refine mt_getfield mKX1 (i := 0) (by decide) mw_67 dX1_commonestKeyOfSorted_59 ea rfl ?_
            refine mt_iload dX1_commonestKeyOfSorted_62 rfl ?_
            refine mp_iaload dX1_commonestKeyOfSorted_64 ek rfl (by omega) (by omega) (v := xk xs i) (qk _ (by omega)) ?_
            refine mp_istore_n dX1_commonestKeyOfSorted_65 (ls' := [.ref a, .int (xk xs i), .int (al + (nI 1)), .int (al + (nI 1)), .int (nI i)]) rfl (by decide) rfl ?_
            refine mp_iinc dX1_commonestKeyOfSorted_66 rfl (v := nI (i + 1)) mI_inc (ls' := [.ref a, .int (xk xs i), .int (al + (nI 1)), .int (al + (nI 1)), .int (nI (i + 1))]) rfl (by decide) rfl ?_
            refine mt_goto dX1_commonestKeyOfSorted_69 (tgt := 10) rfl ?_
            exact ih (i + 1) (xk xs i) (al + (nI 1)) (al + (nI 1)) (by omega) ((mlp_go (by omega) (by simp [q1, q2, q4, q6, nI_0, mI_one] <;> rfl)).symm.trans hr) (by omega)
def q_commonestKeyOfSorted (xs : List mIt) : Int32 := (mlp (fun i (p : Int32 × Int32 × Int32) => let al := if 0 < i ∧ xk xs i = xk xs (i - 1) then p.2.2 + 1 else 1; if p.2.1 < al then (xk xs i, al, al) else (p.1, p.2.1, al)) (xs.length - 0) 0 ((-100000), nI 0, nI 0)).1
set_option maxRecDepth 100000 in
set_option maxHeartbeats 2000000 in
theorem kX1_commonestKeyOfSorted {l : Launch} (hl : l.stackTraces = false) {h : mH} {n a room : Nat} {fl : Int32} {xs : List mIt} (H : rowAt h a room fl xs) : mC l mX1_commonestKeyOfSorted rX1_commonestKeyOfSorted [.ref a] h n (mRi (q_commonestKeyOfSorted xs) h n) (mNX) := by
  obtain ⟨f, g, ea, ek, es, ql, qr, qk, qt⟩ := id H
  refine mm_enter hl (by decide +kernel) rfl rfl rfl (Nat.le_of_ble_eq_true rfl) ?_
  show mT _ _ _ _ 0 [.ref a, .double 0, .double 0, .double 0, .double 0] [] _ _ 0 0
  refine mt_ldc (v := (-100000)) dX1_commonestKeyOfSorted_0 mw_999 ?_
  refine mp_istore_n dX1_commonestKeyOfSorted_2 (ls' := [.ref a, .int (-100000), .double 0, .double 0, .double 0]) rfl (by decide) rfl ?_
  refine mt_iconst dX1_commonestKeyOfSorted_3 (v := nI 0) rfl ?_
  refine mp_istore_n dX1_commonestKeyOfSorted_4 (ls' := [.ref a, .int (-100000), .int (nI 0), .double 0, .double 0]) rfl (by decide) rfl ?_
  refine mt_iconst dX1_commonestKeyOfSorted_5 (v := nI 0) rfl ?_
  refine mp_istore_n dX1_commonestKeyOfSorted_6 (ls' := [.ref a, .int (-100000), .int (nI 0), .int (nI 0), .double 0]) rfl (by decide) rfl ?_
  refine mt_iconst dX1_commonestKeyOfSorted_7 (v := nI 0) rfl ?_
  refine mp_istore dX1_commonestKeyOfSorted_8 (ls' := [.ref a, .int (-100000), .int (nI 0), .int (nI 0), .int (nI 0)]) rfl (by decide) rfl ?_
  refine tX1_commonestKeyOfSorted_10 H (fun com_1 most_2 al_3 i_4 z5 => ?_) (xs.length - 0 + 1) 0 (-100000) (nI 0) (nI 0) (Nat.lt_succ_self _) rfl (by omega)
  refine mt_iload_n dX1_commonestKeyOfSorted_72 rfl ?_
  refine mt_ireturn dX1_commonestKeyOfSorted_73 rfl rfl (Nat.le_of_ble_eq_true rfl) (Nat.le_of_ble_eq_true rfl) ?_
  exact ⟨congrArg (fun x => some (Value.int x.1)) z5, rfl, rfl⟩
abbrev rX1_isRising : Room := { frames := 0, cells := 0, slots := 0, locals := 0 }
set_option maxRecDepth 100000 in
set_option maxHeartbeats 2000000 in
theorem tX1_isRising_2 {l : Launch} {R : Room} {K : mK} {cc sc : Nat} {h : mH} {n a room : Nat} {fl : Int32} {xs : List mIt} {r : Bool} (H : rowAt h a room fl xs) (kk0 : ∀ (i : Nat), (r = true) → mT l mX1_isRising R K 35 [.ref a, .int (nI i)] [] h n cc sc) (kk1 : ∀ (i : Nat), (r = false) → mT l mX1_isRising R K 27 [.ref a, .int (nI i)] [] h n cc sc) : ∀ (N0 : Nat) (i : Nat), (xs.length - i) < N0 → (mall (fun i => decide (¬ xk xs i < xk xs (i - 1))) (xs.length - i) i = r) → (i ≤ xs.length + 1) → (0 < i) → mT l mX1_isRising R K 2 [.ref a, .int (nI i)] [] h n cc sc := by
  intro N0
  induction N0 with
  | zero => intro i hm; exact absurd hm (Nat.not_lt_zero _)
  | succ N0 ih =>
    intro i hm hr hi h0
    obtain ⟨f, g, ea, ek, es, ql, qr, qk, qt⟩ := id H
    refine mt_iload_n dX1_isRising_2 rfl ?_
    refine mt_aload_n dX1_isRising_3 rfl rfl ?_
    refine mt_getfield mKX1 (i := 3) (by decide) mw_77 dX1_isRising_4 ea rfl ?_
    refine mt_icmp_ge dX1_isRising_7 (tgt := 35) rfl (fun q1 => ?_) (fun q1 => ?_)
    · have q1 := Int32.not_lt.mpr q1
      have q1 := (not_congr (nI_ltI (by omega) (by omega))).mp q1
      exact kk0 i (((mall_end (by omega)).symm.trans hr).symm)
    · have q1 := Int32.not_le.mp q1
      have q1 := (nI_ltI (by omega) (by omega)).mp q1
      refine mt_aload_n dX1_isRising_10 rfl rfl ?_
      refine mt_getfield mKX1 (i := 0) (by decide) mw_67 dX1_isRising_11 ea rfl ?_
      refine mt_iload_n dX1_isRising_14 rfl ?_
      refine mt_iconst dX1_isRising_15 (v := nI 1) rfl ?_
      refine mp_isub dX1_isRising_16 (v := nI (i - 1)) (pk_sub (by omega)) ?_
      refine mp_iaload dX1_isRising_17 ek rfl (by omega) (by omega) (v := xk xs (i - 1)) (qk _ (by omega)) ?_
      refine mt_aload_n dX1_isRising_18 rfl rfl ?_
      refine mt_getfield mKX1 (i := 0) (by decide) mw_67 dX1_isRising_19 ea rfl ?_
      refine mt_iload_n dX1_isRising_22 rfl ?_
      refine mp_iaload dX1_isRising_23 ek rfl (by omega) (by omega) (v := xk xs i) (qk _ (by omega)) ?_
      refine mt_icmp_le dX1_isRising_24 (tgt := 29) rfl (fun q2 => ?_) (fun q2 => ?_)
      · have q2 := Int32.not_lt.mpr q2
        refine mp_iinc dX1_isRising_29 rfl (v := nI (i + 1)) mI_inc (ls' := [.ref a, .int (nI (i + 1))]) rfl (by decide) rfl ?_
        refine mt_goto dX1_isRising_32 (tgt := 2) rfl ?_
        exact ih (i + 1) (by omega) ((mall_go (by omega) (by simp [q1, q2])).symm.trans hr) (by omega) (by omega)
      · have q2 := Int32.not_le.mp q2
        exact kk1 i (((mall_no (by omega) (by simp [q1, q2])).symm.trans hr).symm)
def q_isRising (xs : List mIt) : Bool := mall (fun i => decide (¬ xk xs i < xk xs (i - 1))) (xs.length - 1) 1
set_option maxRecDepth 100000 in
set_option maxHeartbeats 2000000 in
theorem kX1_isRising {l : Launch} (hl : l.stackTraces = false) {h : mH} {n a room : Nat} {fl : Int32} {xs : List mIt} (H : rowAt h a room fl xs) : mC l mX1_isRising rX1_isRising [.ref a] h n (mRi (mb (q_isRising xs)) h n) (mNX) := by
  obtain ⟨f, g, ea, ek, es, ql, qr, qk, qt⟩ := id H
  refine mm_enter hl (by decide +kernel) rfl rfl rfl (Nat.le_of_ble_eq_true rfl) ?_
  show mT _ _ _ _ 0 [.ref a, .double 0] [] _ _ 0 0
  refine mt_iconst dX1_isRising_0 (v := nI 1) rfl ?_
  refine mp_istore_n dX1_isRising_1 (ls' := [.ref a, .int (nI 1)]) rfl (by decide) rfl ?_
  refine tX1_isRising_2 H (fun i_1 z2 => ?_) (fun i_3 z4 => ?_) (xs.length - 1 + 1) 1 (Nat.lt_succ_self _) rfl (by omega) (by decide)
  · refine mt_iconst dX1_isRising_35 (v := nI 1) rfl ?_
    refine mt_ireturn dX1_isRising_36 rfl rfl (Nat.le_of_ble_eq_true rfl) (Nat.le_of_ble_eq_true rfl) ?_
    exact ⟨congrArg (fun x => some (Value.int (mb x))) z2.symm, rfl, rfl⟩
  · refine mt_iconst dX1_isRising_27 (v := nI 0) rfl ?_
    refine mt_ireturn dX1_isRising_28 rfl rfl (Nat.le_of_ble_eq_true rfl) (Nat.le_of_ble_eq_true rfl) ?_
    exact ⟨congrArg (fun x => some (Value.int (mb x))) z4.symm, rfl, rfl⟩
abbrev rX1_fallsThroughout : Room := { frames := 0, cells := 0, slots := 0, locals := 0 }
set_option maxRecDepth 100000 in
set_option maxHeartbeats 2000000 in
theorem tX1_fallsThroughout_2 {l : Launch} {R : Room} {K : mK} {cc sc : Nat} {h : mH} {n a room : Nat} {fl : Int32} {xs : List mIt} {r : Bool} (H : rowAt h a room fl xs) (kk0 : ∀ (i : Nat), (r = true) → mT l mX1_fallsThroughout R K 35 [.ref a, .int (nI i)] [] h n cc sc) (kk1 : ∀ (i : Nat), (r = false) → mT l mX1_fallsThroughout R K 27 [.ref a, .int (nI i)] [] h n cc sc) : ∀ (N0 : Nat) (i : Nat), (xs.length - i) < N0 → (mall (fun i => decide (xk xs i < xk xs (i - 1))) (xs.length - i) i = r) → (i ≤ xs.length + 1) → (0 < i) → mT l mX1_fallsThroughout R K 2 [.ref a, .int (nI i)] [] h n cc sc := by
  intro N0
  induction N0 with
  | zero => intro i hm; exact absurd hm (Nat.not_lt_zero _)
  | succ N0 ih =>
    intro i hm hr hi h0
    obtain ⟨f, g, ea, ek, es, ql, qr, qk, qt⟩ := id H
    refine mt_iload_n dX1_fallsThroughout_2 rfl ?_
    refine mt_aload_n dX1_fallsThroughout_3 rfl rfl ?_
    refine mt_getfield mKX1 (i := 3) (by decide) mw_77 dX1_fallsThroughout_4 ea rfl ?_
    refine mt_icmp_ge dX1_fallsThroughout_7 (tgt := 35) rfl (fun q1 => ?_) (fun q1 => ?_)
    · have q1 := Int32.not_lt.mpr q1
      have q1 := (not_congr (nI_ltI (by omega) (by omega))).mp q1
      exact kk0 i (((mall_end (by omega)).symm.trans hr).symm)
    · have q1 := Int32.not_le.mp q1
      have q1 := (nI_ltI (by omega) (by omega)).mp q1
      refine mt_aload_n dX1_fallsThroughout_10 rfl rfl ?_
      refine mt_getfield mKX1 (i := 0) (by decide) mw_67 dX1_fallsThroughout_11 ea rfl ?_
      refine mt_iload_n dX1_fallsThroughout_14 rfl ?_
      refine mt_iconst dX1_fallsThroughout_15 (v := nI 1) rfl ?_
      refine mp_isub dX1_fallsThroughout_16 (v := nI (i - 1)) (pk_sub (by omega)) ?_
      refine mp_iaload dX1_fallsThroughout_17 ek rfl (by omega) (by omega) (v := xk xs (i - 1)) (qk _ (by omega)) ?_
      refine mt_aload_n dX1_fallsThroughout_18 rfl rfl ?_
      refine mt_getfield mKX1 (i := 0) (by decide) mw_67 dX1_fallsThroughout_19 ea rfl ?_
      refine mt_iload_n dX1_fallsThroughout_22 rfl ?_
      refine mp_iaload dX1_fallsThroughout_23 ek rfl (by omega) (by omega) (v := xk xs i) (qk _ (by omega)) ?_
      refine mt_icmp_gt dX1_fallsThroughout_24 (tgt := 29) rfl (fun q2 => ?_) (fun q2 => ?_)
      · refine mp_iinc dX1_fallsThroughout_29 rfl (v := nI (i + 1)) mI_inc (ls' := [.ref a, .int (nI (i + 1))]) rfl (by decide) rfl ?_
        refine mt_goto dX1_fallsThroughout_32 (tgt := 2) rfl ?_
        exact ih (i + 1) (by omega) ((mall_go (by omega) (by simp [q1, q2])).symm.trans hr) (by omega) (by omega)
      · exact kk1 i (((mall_no (by omega) (by simp [q1, q2])).symm.trans hr).symm)
def q_fallsThroughout (xs : List mIt) : Bool := mall (fun i => decide (xk xs i < xk xs (i - 1))) (xs.length - 1) 1
set_option maxRecDepth 100000 in
set_option maxHeartbeats 2000000 in
theorem kX1_fallsThroughout {l : Launch} (hl : l.stackTraces = false) {h : mH} {n a room : Nat} {fl : Int32} {xs : List mIt} (H : rowAt h a room fl xs) : mC l mX1_fallsThroughout rX1_fallsThroughout [.ref a] h n (mRi (mb (q_fallsThroughout xs)) h n) (mNX) := by
  obtain ⟨f, g, ea, ek, es, ql, qr, qk, qt⟩ := id H
  refine mm_enter hl (by decide +kernel) rfl rfl rfl (Nat.le_of_ble_eq_true rfl) ?_
  show mT _ _ _ _ 0 [.ref a, .double 0] [] _ _ 0 0
  refine mt_iconst dX1_fallsThroughout_0 (v := nI 1) rfl ?_
  refine mp_istore_n dX1_fallsThroughout_1 (ls' := [.ref a, .int (nI 1)]) rfl (by decide) rfl ?_
  refine tX1_fallsThroughout_2 H (fun i_1 z2 => ?_) (fun i_3 z4 => ?_) (xs.length - 1 + 1) 1 (Nat.lt_succ_self _) rfl (by omega) (by decide)
  · refine mt_iconst dX1_fallsThroughout_35 (v := nI 1) rfl ?_
    refine mt_ireturn dX1_fallsThroughout_36 rfl rfl (Nat.le_of_ble_eq_true rfl) (Nat.le_of_ble_eq_true rfl) ?_
    exact ⟨congrArg (fun x => some (Value.int (mb x))) z2.symm, rfl, rfl⟩
  · refine mt_iconst dX1_fallsThroughout_27 (v := nI 0) rfl ?_
    refine mt_ireturn dX1_fallsThroughout_28 rfl rfl (Nat.le_of_ble_eq_true rfl) (Nat.le_of_ble_eq_true rfl) ?_
    exact ⟨congrArg (fun x => some (Value.int (mb x))) z4.symm, rfl, rfl⟩
abbrev rX1_keepsStamps : Room := { frames := 0, cells := 0, slots := 0, locals := 0 }
set_option maxRecDepth 100000 in
set_option maxHeartbeats 2000000 in
theorem tX1_keepsStamps_2 {l : Launch} {R : Room} {K : mK} {cc sc : Nat} {h : mH} {n a room : Nat} {fl : Int32} {xs : List mIt} {r : Bool} (H : rowAt h a room fl xs) (kk0 : ∀ (i : Nat), (r = true) → mT l mX1_keepsStamps R K 52 [.ref a, .int (nI i)] [] h n cc sc) (kk1 : ∀ (i : Nat), (r = false) → mT l mX1_keepsStamps R K 44 [.ref a, .int (nI i)] [] h n cc sc) : ∀ (N0 : Nat) (i : Nat), (xs.length - i) < N0 → (mall (fun i => decide (¬ (xk xs (i - 1) = xk xs i ∧ xt xs i < xt xs (i - 1)))) (xs.length - i) i = r) → (i ≤ xs.length + 1) → (0 < i) → mT l mX1_keepsStamps R K 2 [.ref a, .int (nI i)] [] h n cc sc := by
  intro N0
  induction N0 with
  | zero => intro i hm; exact absurd hm (Nat.not_lt_zero _)
  | succ N0 ih =>
    intro i hm hr hi h0
    obtain ⟨f, g, ea, ek, es, ql, qr, qk, qt⟩ := id H
    refine mt_iload_n dX1_keepsStamps_2 rfl ?_
    refine mt_aload_n dX1_keepsStamps_3 rfl rfl ?_
    refine mt_getfield mKX1 (i := 3) (by decide) mw_77 dX1_keepsStamps_4 ea rfl ?_
    refine mt_icmp_ge dX1_keepsStamps_7 (tgt := 52) rfl (fun q1 => ?_) (fun q1 => ?_)
    · have q1 := Int32.not_lt.mpr q1
      have q1 := (not_congr (nI_ltI (by omega) (by omega))).mp q1
      exact kk0 i (((mall_end (by omega)).symm.trans hr).symm)
    · have q1 := Int32.not_le.mp q1
      have q1 := (nI_ltI (by omega) (by omega)).mp q1
      refine mt_aload_n dX1_keepsStamps_10 rfl rfl ?_
      refine mt_getfield mKX1 (i := 0) (by decide) mw_67 dX1_keepsStamps_11 ea rfl ?_
      refine mt_iload_n dX1_keepsStamps_14 rfl ?_
      refine mt_iconst dX1_keepsStamps_15 (v := nI 1) rfl ?_
      refine mp_isub dX1_keepsStamps_16 (v := nI (i - 1)) (pk_sub (by omega)) ?_
      refine mp_iaload dX1_keepsStamps_17 ek rfl (by omega) (by omega) (v := xk xs (i - 1)) (qk _ (by omega)) ?_
      refine mt_aload_n dX1_keepsStamps_18 rfl rfl ?_
      refine mt_getfield mKX1 (i := 0) (by decide) mw_67 dX1_keepsStamps_19 ea rfl ?_
      refine mt_iload_n dX1_keepsStamps_22 rfl ?_
      refine mp_iaload dX1_keepsStamps_23 ek rfl (by omega) (by omega) (v := xk xs i) (qk _ (by omega)) ?_
      refine mt_icmp_ne dX1_keepsStamps_24 (tgt := 46) rfl (fun q2 => ?_) (fun q2 => ?_)
      · refine mp_iinc dX1_keepsStamps_46 rfl (v := nI (i + 1)) mI_inc (ls' := [.ref a, .int (nI (i + 1))]) rfl (by decide) rfl ?_
        refine mt_goto dX1_keepsStamps_49 (tgt := 2) rfl ?_
        exact ih (i + 1) (by omega) ((mall_go (by omega) (by simp [q1, q2])).symm.trans hr) (by omega) (by omega)
      · refine mt_aload_n dX1_keepsStamps_27 rfl rfl ?_
        refine mt_getfield mKX1 (i := 1) (by decide) mw_70 dX1_keepsStamps_28 ea rfl ?_
        refine mt_iload_n dX1_keepsStamps_31 rfl ?_
        refine mt_iconst dX1_keepsStamps_32 (v := nI 1) rfl ?_
        refine mp_isub dX1_keepsStamps_33 (v := nI (i - 1)) (pk_sub (by omega)) ?_
        refine mp_iaload dX1_keepsStamps_34 es rfl (by omega) (by omega) (v := xt xs (i - 1)) (qt _ (by omega)) ?_
        refine mt_aload_n dX1_keepsStamps_35 rfl rfl ?_
        refine mt_getfield mKX1 (i := 1) (by decide) mw_70 dX1_keepsStamps_36 ea rfl ?_
        refine mt_iload_n dX1_keepsStamps_39 rfl ?_
        refine mp_iaload dX1_keepsStamps_40 es rfl (by omega) (by omega) (v := xt xs i) (qt _ (by omega)) ?_
        refine mt_icmp_le dX1_keepsStamps_41 (tgt := 46) rfl (fun q3 => ?_) (fun q3 => ?_)
        · have q3 := Int32.not_lt.mpr q3
          refine mp_iinc dX1_keepsStamps_46 rfl (v := nI (i + 1)) mI_inc (ls' := [.ref a, .int (nI (i + 1))]) rfl (by decide) rfl ?_
          refine mt_goto dX1_keepsStamps_49 (tgt := 2) rfl ?_
          exact ih (i + 1) (by omega) ((mall_go (by omega) (by simp [q1, q2, q3])).symm.trans hr) (by omega) (by omega)
        · have q3 := Int32.not_le.mp q3
          exact kk1 i (((mall_no (by omega) (by simp [q1, q2, q3])).symm.trans hr).symm)
def q_keepsStamps (xs : List mIt) : Bool := mall (fun i => decide (¬ (xk xs (i - 1) = xk xs i ∧ xt xs i < xt xs (i - 1)))) (xs.length - 1) 1
set_option maxRecDepth 100000 in
set_option maxHeartbeats 2000000 in
theorem kX1_keepsStamps {l : Launch} (hl : l.stackTraces = false) {h : mH} {n a room : Nat} {fl : Int32} {xs : List mIt} (H : rowAt h a room fl xs) : mC l mX1_keepsStamps rX1_keepsStamps [.ref a] h n (mRi (mb (q_keepsStamps xs)) h n) (mNX) := by
  obtain ⟨f, g, ea, ek, es, ql, qr, qk, qt⟩ := id H
  refine mm_enter hl (by decide +kernel) rfl rfl rfl (Nat.le_of_ble_eq_true rfl) ?_
  show mT _ _ _ _ 0 [.ref a, .double 0] [] _ _ 0 0
  refine mt_iconst dX1_keepsStamps_0 (v := nI 1) rfl ?_
  refine mp_istore_n dX1_keepsStamps_1 (ls' := [.ref a, .int (nI 1)]) rfl (by decide) rfl ?_
  refine tX1_keepsStamps_2 H (fun i_1 z2 => ?_) (fun i_3 z4 => ?_) (xs.length - 1 + 1) 1 (Nat.lt_succ_self _) rfl (by omega) (by decide)
  · refine mt_iconst dX1_keepsStamps_52 (v := nI 1) rfl ?_
    refine mt_ireturn dX1_keepsStamps_53 rfl rfl (Nat.le_of_ble_eq_true rfl) (Nat.le_of_ble_eq_true rfl) ?_
    exact ⟨congrArg (fun x => some (Value.int (mb x))) z2.symm, rfl, rfl⟩
  · refine mt_iconst dX1_keepsStamps_44 (v := nI 0) rfl ?_
    refine mt_ireturn dX1_keepsStamps_45 rfl rfl (Nat.le_of_ble_eq_true rfl) (Nat.le_of_ble_eq_true rfl) ?_
    exact ⟨congrArg (fun x => some (Value.int (mb x))) z4.symm, rfl, rfl⟩
abbrev rX1_room : Room := { frames := 0, cells := 0, slots := 0, locals := 0 }
set_option maxRecDepth 100000 in
set_option maxHeartbeats 2000000 in
theorem kX1_room {l : Launch} (hl : l.stackTraces = false) {h : mH} {n a room : Nat} {fl : Int32} {xs : List mIt} (H : rowAt h a room fl xs) : mC l mX1_room rX1_room [.ref a] h n (mRi (nI room) h n) (mNX) := by
  obtain ⟨f, g, ea, ek, es, ql, qr, qk, qt⟩ := id H
  refine mm_enter hl (by decide +kernel) rfl rfl rfl (Nat.le_of_ble_eq_true rfl) ?_
  show mT _ _ _ _ 0 [.ref a] [] _ _ 0 0
  refine mt_aload_n dX1_room_0 rfl rfl ?_
  refine mt_getfield mKX1 (i := 0) (by decide) mw_67 dX1_room_1 ea rfl ?_
  refine mt_alen dX1_room_4 ek (by decide) ?_
  refine mt_ireturn dX1_room_5 rfl rfl (Nat.le_of_ble_eq_true rfl) (Nat.le_of_ble_eq_true rfl) ?_
  exact ⟨rfl, rfl, rfl⟩
abbrev rX1_free : Room := { frames := 0, cells := 0, slots := 0, locals := 0 }
set_option maxRecDepth 100000 in
set_option maxHeartbeats 2000000 in
theorem kX1_free {l : Launch} (hl : l.stackTraces = false) {h : mH} {n a room : Nat} {fl : Int32} {xs : List mIt} (H : rowAt h a room fl xs) : mC l mX1_free rX1_free [.ref a] h n (mRi (nI (room - xs.length)) h n) (mNX) := by
  obtain ⟨f, g, ea, ek, es, ql, qr, qk, qt⟩ := id H
  refine mm_enter hl (by decide +kernel) rfl rfl rfl (Nat.le_of_ble_eq_true rfl) ?_
  show mT _ _ _ _ 0 [.ref a] [] _ _ 0 0
  refine mt_aload_n dX1_free_0 rfl rfl ?_
  refine mt_getfield mKX1 (i := 0) (by decide) mw_67 dX1_free_1 ea rfl ?_
  refine mt_alen dX1_free_4 ek (by decide) ?_
  refine mt_aload_n dX1_free_5 rfl rfl ?_
  refine mt_getfield mKX1 (i := 3) (by decide) mw_77 dX1_free_6 ea rfl ?_
  refine mp_isub dX1_free_9 (v := nI (room - xs.length)) (pk_sub (by omega)) ?_
  refine mt_ireturn dX1_free_10 rfl rfl (Nat.le_of_ble_eq_true rfl) (Nat.le_of_ble_eq_true rfl) ?_
  exact ⟨rfl, rfl, rfl⟩
abbrev rX1_append : Room := { frames := 0, cells := 0, slots := 0, locals := 0 }
set_option maxRecDepth 100000 in
set_option maxHeartbeats 2000000 in
theorem kX1_append {l : Launch} (hl : l.stackTraces = false) {h : mH} {n a room : Nat} {fl : Int32} {xs : List mIt} {k s : Int32} (H : rowAt h a room fl xs) (hlt : xs.length < room) : mC l mX1_append rX1_append [.ref a, .int k, .int s] h n (mRw a room fl (xs ++ [(k, s)]) h n) (mNX) := by
  obtain ⟨f_1, g_1, ea_1, ek_1, es_1, ql_1, qr_1, qk_1, qt_1⟩ := id H
  refine mm_enter hl (by decide +kernel) rfl rfl rfl (Nat.le_of_ble_eq_true rfl) ?_
  show mT _ _ _ _ 0 [.ref a, .int k, .int s] [] _ _ 0 0
  refine mt_aload_n dX1_append_0 rfl rfl ?_
  refine mt_getfield mKX1 (i := 3) (by decide) mw_77 dX1_append_1 ea_1 rfl ?_
  refine mt_aload_n dX1_append_4 rfl rfl ?_
  refine mt_getfield mKX1 (i := 0) (by decide) mw_67 dX1_append_5 ea_1 rfl ?_
  refine mt_alen dX1_append_8 ek_1 (by decide) ?_
  refine mt_icmp_ge dX1_append_9 (tgt := 42) rfl (fun q2 => ?_) (fun q2 => ?_)
  · have q2 := Int32.not_lt.mpr q2
    have q2 := (not_congr (nI_ltI (by omega) (by omega))).mp q2
    refine mt_return dX1_append_42 rfl (Nat.le_of_ble_eq_true rfl) (Nat.le_of_ble_eq_true rfl) ?_
    exact absurd hlt (by omega)
  · have q2 := Int32.not_le.mp q2
    have q2 := (nI_ltI (by omega) (by omega)).mp q2
    refine mt_aload_n dX1_append_12 rfl rfl ?_
    refine mt_getfield mKX1 (i := 0) (by decide) mw_67 dX1_append_13 ea_1 rfl ?_
    refine mt_aload_n dX1_append_16 rfl rfl ?_
    refine mt_getfield mKX1 (i := 3) (by decide) mw_77 dX1_append_17 ea_1 rfl ?_
    refine mt_iload_n dX1_append_20 rfl ?_
    refine mp_iastore dX1_append_21 ek_1 rfl (by omega) (by omega) (fun h3 e4 f5 => ?_)
    refine mt_aload_n dX1_append_22 rfl rfl ?_
    refine mt_getfield mKX1 (i := 1) (by decide) mw_70 dX1_append_23 ((f5 (a) (by omega)).trans ea_1) rfl ?_
    refine mt_aload_n dX1_append_26 rfl rfl ?_
    refine mt_getfield mKX1 (i := 3) (by decide) mw_77 dX1_append_27 ((f5 (a) (by omega)).trans ea_1) rfl ?_
    refine mt_iload_n dX1_append_30 rfl ?_
    refine mp_iastore dX1_append_31 ((f5 (a + 2) (by omega)).trans es_1) rfl (by omega) (by omega) (fun h6 e7 f8 => ?_)
    refine mt_aload_n dX1_append_32 rfl rfl ?_
    refine mt_dup dX1_append_33 rfl ?_
    refine mt_getfield mKX1 (i := 3) (by decide) mw_77 dX1_append_34 ((f8 (a) (by omega)).trans ((f5 (a) (by omega)).trans ea_1)) rfl ?_
    refine mt_iconst dX1_append_37 (v := nI 1) rfl ?_
    refine mp_iadd dX1_append_38 (v := nI (xs.length + 1)) (nI_add _ _) ?_
    refine mp_putfield mKX1 (i := 3) (fs' := [.ref (a + 1), .ref (a + 2), .int fl, .int (nI (xs.length + 1))]) (by decide) mw_77 rfl dX1_append_39 ((f8 (a) (by omega)).trans ((f5 (a) (by omega)).trans ea_1)) (Nat.le_of_ble_eq_true rfl) rfl rfl (fun h9 e10 f11 => ?_)
    refine mt_return dX1_append_42 rfl (Nat.le_of_ble_eq_true rfl) (Nat.le_of_ble_eq_true rfl) ?_
    exact ⟨rfl, rfl, rowAt.snoc (e10) ((f11 (a + 1) (by omega)).trans ((f8 (a + 1) (by omega)).trans e4)) ((f11 (a + 2) (by omega)).trans e7) hlt qr_1 qk_1 qt_1, fun j hj => (f11 j (by omega)).trans ((f8 j (by omega)).trans (f5 j (by omega)))⟩
abbrev rX1_empty : Room := { frames := 0, cells := 0, slots := 0, locals := 0 }
set_option maxRecDepth 100000 in
set_option maxHeartbeats 2000000 in
theorem kX1_empty {l : Launch} (hl : l.stackTraces = false) {h : mH} {n a room : Nat} {fl : Int32} {xs : List mIt} (H : rowAt h a room fl xs) : mC l mX1_empty rX1_empty [.ref a] h n (mRw a room fl [] h n) (mNX) := by
  refine mm_enter hl (by decide +kernel) rfl rfl rfl (Nat.le_of_ble_eq_true rfl) ?_
  show mT _ _ _ _ 0 [.ref a] [] _ _ 0 0
  refine mt_aload_n dX1_empty_0 rfl rfl ?_
  refine mt_iconst dX1_empty_1 (v := nI 0) rfl ?_
  obtain ⟨f_1, g_1, ea_1, ek_1, es_1, ql_1, qr_1, qk_1, qt_1⟩ := id H
  refine mp_putfield mKX1 (i := 3) (fs' := [.ref (a + 1), .ref (a + 2), .int fl, .int (nI 0)]) (by decide) mw_77 rfl dX1_empty_2 ea_1 (Nat.le_of_ble_eq_true rfl) rfl rfl (fun h2 e3 f4 => ?_)
  refine mt_return dX1_empty_5 rfl (Nat.le_of_ble_eq_true rfl) (Nat.le_of_ble_eq_true rfl) ?_
  exact ⟨rfl, rfl, ⟨_, _, e3, ((f4 (a + 1) (by omega)).trans ek_1), ((f4 (a + 2) (by omega)).trans es_1), Nat.zero_le _, qr_1, fun i hi => absurd hi (Nat.not_lt_zero _), fun i hi => absurd hi (Nat.not_lt_zero _)⟩, fun j hj => f4 j (by omega)⟩
abbrev rX1_otherKeys : Room := { frames := 1, cells := 0, slots := 0, locals := 21 }
set_option maxRecDepth 100000 in
set_option maxHeartbeats 2000000 in
theorem tX1_otherKeys_17 {l : Launch} {R : Room} {K : mK} {cc sc : Nat} {h : mH} {n a b room room2 : Nat} {fl fl2 : Int32} {xs ys : List mIt} {r : Int32}  (H : rowAt h a room fl xs) (H2 : rowAt h b room2 fl2 ys) (kk0 : ∀ (acc : Int32) (i : Nat), (acc = r) → mT l mX1_otherKeys R K 49 [.ref a, .ref b, .int (nI (min xs.length ys.length)), .int acc, .int (nI i)] [] h n cc sc) : ∀ (N0 : Nat) (i : Nat) (acc : Int32), ((min xs.length ys.length) - i) < N0 → (mlp (fun i acc => if xk xs i = xk ys i then acc else acc + 1) ((min xs.length ys.length) - i) i acc = r) → (i ≤ (min xs.length ys.length) + 1) → mT l mX1_otherKeys R K 17 [.ref a, .ref b, .int (nI (min xs.length ys.length)), .int acc, .int (nI i)] [] h n cc sc := by
  intro N0
  induction N0 with
  | zero => intro i acc hm; exact absurd hm (Nat.not_lt_zero _)
  | succ N0 ih =>
    intro i acc hm hr hi
    obtain ⟨f, g, ea, ek, es, ql, qr, qk, qt⟩ := id H
    obtain ⟨f2, g2, ea2, ek2, es2, ql2, qr2, qk2, qt2⟩ := id H2
    refine mt_iload dX1_otherKeys_17 rfl ?_
    refine mt_iload_n dX1_otherKeys_19 rfl ?_
    refine mt_icmp_ge dX1_otherKeys_20 (tgt := 49) rfl (fun q1 => ?_) (fun q1 => ?_)
    · have q1 := Int32.not_lt.mpr q1
      have q1 := (not_congr (nI_ltI (by omega) (by omega))).mp q1
      exact kk0 acc i ((mlp_end (by omega)).symm.trans hr)
    · have q1 := Int32.not_le.mp q1
      have q1 := (nI_ltI (by omega) (by omega)).mp q1
      refine mt_aload_n dX1_otherKeys_23 rfl rfl ?_
      refine mt_getfield mKX1 (i := 0) (by decide) mw_67 dX1_otherKeys_24 ea rfl ?_
      refine mt_iload dX1_otherKeys_27 rfl ?_
      refine mp_iaload dX1_otherKeys_29 ek rfl (by omega) (by omega) (v := xk xs i) (qk _ (by omega)) ?_
      refine mt_aload_n dX1_otherKeys_30 rfl rfl ?_
      refine mt_getfield mKX1 (i := 0) (by decide) mw_67 dX1_otherKeys_31 ea2 rfl ?_
      refine mt_iload dX1_otherKeys_34 rfl ?_
      refine mp_iaload dX1_otherKeys_36 ek2 rfl (by omega) (by omega) (v := xk ys i) (qk2 _ (by omega)) ?_
      refine mt_icmp_eq dX1_otherKeys_37 (tgt := 43) rfl (fun q2 => ?_) (fun q2 => ?_)
      · refine mp_iinc dX1_otherKeys_43 rfl (v := nI (i + 1)) mI_inc (ls' := [.ref a, .ref b, .int (nI (min xs.length ys.length)), .int acc, .int (nI (i + 1))]) rfl (by decide) rfl ?_
        refine mt_goto dX1_otherKeys_46 (tgt := 17) rfl ?_
        exact ih (i + 1) acc (by omega) ((mlp_go (by omega) (by simp [q1, q2, nI_0, mI_one] <;> rfl)).symm.trans hr) (by omega)
      · refine mp_iinc dX1_otherKeys_40 rfl (v := acc + 1) rfl (ls' := [.ref a, .ref b, .int (nI (min xs.length ys.length)), .int (acc + 1), .int (nI i)]) rfl (by decide) rfl ?_
        refine mp_iinc dX1_otherKeys_43 rfl (v := nI (i + 1)) mI_inc (ls' := [.ref a, .ref b, .int (nI (min xs.length ys.length)), .int (acc + 1), .int (nI (i + 1))]) rfl (by decide) rfl ?_
        refine mt_goto dX1_otherKeys_46 (tgt := 17) rfl ?_
        exact ih (i + 1) (acc + 1) (by omega) ((mlp_go (by omega) (by simp [q1, q2, nI_0, mI_one] <;> rfl)).symm.trans hr) (by omega)
def q_otherKeys (xs ys : List mIt) : Int32 := mlp (fun i acc => if xk xs i = xk ys i then acc else acc + 1) ((min xs.length ys.length) - 0) 0 (nI 0)
set_option maxRecDepth 100000 in
set_option maxHeartbeats 2000000 in
theorem kX1_otherKeys {l : Launch} (hl : l.stackTraces = false) {h : mH} {n a b room room2 : Nat} {fl fl2 : Int32} {xs ys : List mIt} (H : rowAt h a room fl xs) (H2 : rowAt h b room2 fl2 ys) : mC l mX1_otherKeys rX1_otherKeys [.ref a, .ref b] h n (mRi (q_otherKeys xs ys) h n) (mNX) := by
  obtain ⟨f, g, ea, ek, es, ql, qr, qk, qt⟩ := id H
  obtain ⟨f2, g2, ea2, ek2, es2, ql2, qr2, qk2, qt2⟩ := id H2
  refine mm_enter hl (by decide +kernel) rfl rfl rfl (Nat.le_of_ble_eq_true rfl) ?_
  show mT _ _ _ _ 0 [.ref a, .ref b, .double 0, .double 0, .double 0] [] _ _ 0 0
  refine mt_aload_n dX1_otherKeys_0 rfl rfl ?_
  refine mt_getfield mKX1 (i := 3) (by decide) mw_77 dX1_otherKeys_1 ea rfl ?_
  refine mt_aload_n dX1_otherKeys_4 rfl rfl ?_
  refine mt_getfield mKX1 (i := 3) (by decide) mw_77 dX1_otherKeys_5 ea2 rfl ?_
  refine mt_mmin dX1_otherKeys_8 mw_151 mw_152 mw_41 (mw_min) (Nat.le_of_ble_eq_true rfl) ⟨Nat.le_of_ble_eq_true rfl, Nat.le_of_ble_eq_true rfl⟩ (Nat.le_of_ble_eq_true rfl) (Nat.le_of_ble_eq_true rfl) (v := nI (min xs.length ys.length)) (mI_min (by omega) (by omega)) ?_
  refine mp_istore_n dX1_otherKeys_11 (ls' := [.ref a, .ref b, .int (nI (min xs.length ys.length)), .double 0, .double 0]) rfl (by decide) rfl ?_
  refine mt_iconst dX1_otherKeys_12 (v := nI 0) rfl ?_
  refine mp_istore_n dX1_otherKeys_13 (ls' := [.ref a, .ref b, .int (nI (min xs.length ys.length)), .int (nI 0), .double 0]) rfl (by decide) rfl ?_
  refine mt_iconst dX1_otherKeys_14 (v := nI 0) rfl ?_
  refine mp_istore dX1_otherKeys_15 (ls' := [.ref a, .ref b, .int (nI (min xs.length ys.length)), .int (nI 0), .int (nI 0)]) rfl (by decide) rfl ?_
  refine tX1_otherKeys_17 H H2 (fun acc_1 i_2 z3 => ?_) ((min xs.length ys.length) - 0 + 1) 0 (nI 0) (Nat.lt_succ_self _) rfl (by omega)
  refine mt_iload_n dX1_otherKeys_49 rfl ?_
  refine mt_ireturn dX1_otherKeys_50 rfl rfl (Nat.le_of_ble_eq_true rfl) (Nat.le_of_ble_eq_true rfl) ?_
  exact ⟨congrArg (fun x => some (Value.int x)) z3, rfl, rfl⟩
abbrev rX1_otherItems : Room := { frames := 1, cells := 0, slots := 0, locals := 21 }
set_option maxRecDepth 100000 in
set_option maxHeartbeats 2000000 in
theorem tX1_otherItems_17 {l : Launch} {R : Room} {K : mK} {cc sc : Nat} {h : mH} {n a b room room2 : Nat} {fl fl2 : Int32} {xs ys : List mIt} {r : Int32}  (H : rowAt h a room fl xs) (H2 : rowAt h b room2 fl2 ys) (kk0 : ∀ (acc : Int32) (i : Nat), (acc = r) → mT l mX1_otherItems R K 66 [.ref a, .ref b, .int (nI (min xs.length ys.length)), .int acc, .int (nI i)] [] h n cc sc) : ∀ (N0 : Nat) (i : Nat) (acc : Int32), ((min xs.length ys.length) - i) < N0 → (mlp (fun i acc => if xk xs i = xk ys i ∧ xt xs i = xt ys i then acc else acc + 1) ((min xs.length ys.length) - i) i acc = r) → (i ≤ (min xs.length ys.length) + 1) → mT l mX1_otherItems R K 17 [.ref a, .ref b, .int (nI (min xs.length ys.length)), .int acc, .int (nI i)] [] h n cc sc := by
  intro N0
  induction N0 with
  | zero => intro i acc hm; exact absurd hm (Nat.not_lt_zero _)
  | succ N0 ih =>
    intro i acc hm hr hi
    obtain ⟨f, g, ea, ek, es, ql, qr, qk, qt⟩ := id H
    obtain ⟨f2, g2, ea2, ek2, es2, ql2, qr2, qk2, qt2⟩ := id H2
    refine mt_iload dX1_otherItems_17 rfl ?_
    refine mt_iload_n dX1_otherItems_19 rfl ?_
    refine mt_icmp_ge dX1_otherItems_20 (tgt := 66) rfl (fun q1 => ?_) (fun q1 => ?_)
    · have q1 := Int32.not_lt.mpr q1
      have q1 := (not_congr (nI_ltI (by omega) (by omega))).mp q1
      exact kk0 acc i ((mlp_end (by omega)).symm.trans hr)
    · have q1 := Int32.not_le.mp q1
      have q1 := (nI_ltI (by omega) (by omega)).mp q1
      refine mt_aload_n dX1_otherItems_23 rfl rfl ?_
      refine mt_getfield mKX1 (i := 0) (by decide) mw_67 dX1_otherItems_24 ea rfl ?_
      refine mt_iload dX1_otherItems_27 rfl ?_
      refine mp_iaload dX1_otherItems_29 ek rfl (by omega) (by omega) (v := xk xs i) (qk _ (by omega)) ?_
      refine mt_aload_n dX1_otherItems_30 rfl rfl ?_
      refine mt_getfield mKX1 (i := 0) (by decide) mw_67 dX1_otherItems_31 ea2 rfl ?_
      refine mt_iload dX1_otherItems_34 rfl ?_
      refine mp_iaload dX1_otherItems_36 ek2 rfl (by omega) (by omega) (v := xk ys i) (qk2 _ (by omega)) ?_
      refine mt_icmp_ne dX1_otherItems_37 (tgt := 57) rfl (fun q2 => ?_) (fun q2 => ?_)
      · refine mp_iinc dX1_otherItems_57 rfl (v := acc + 1) rfl (ls' := [.ref a, .ref b, .int (nI (min xs.length ys.length)), .int (acc + 1), .int (nI i)]) rfl (by decide) rfl ?_
        refine mp_iinc dX1_otherItems_60 rfl (v := nI (i + 1)) mI_inc (ls' := [.ref a, .ref b, .int (nI (min xs.length ys.length)), .int (acc + 1), .int (nI (i + 1))]) rfl (by decide) rfl ?_
        refine mt_goto dX1_otherItems_63 (tgt := 17) rfl ?_
        exact ih (i + 1) (acc + 1) (by omega) ((mlp_go (by omega) (by simp [q1, q2, nI_0, mI_one] <;> rfl)).symm.trans hr) (by omega)
      · refine mt_aload_n dX1_otherItems_40 rfl rfl ?_
        refine mt_getfield mKX1 (i := 1) (by decide) mw_70 dX1_otherItems_41 ea rfl ?_
        refine mt_iload dX1_otherItems_44 rfl ?_
        refine mp_iaload dX1_otherItems_46 es rfl (by omega) (by omega) (v := xt xs i) (qt _ (by omega)) ?_
        refine mt_aload_n dX1_otherItems_47 rfl rfl ?_
        refine mt_getfield mKX1 (i := 1) (by decide) mw_70 dX1_otherItems_48 ea2 rfl ?_
        refine mt_iload dX1_otherItems_51 rfl ?_
        refine mp_iaload dX1_otherItems_53 es2 rfl (by omega) (by omega) (v := xt ys i) (qt2 _ (by omega)) ?_
        refine mt_icmp_eq dX1_otherItems_54 (tgt := 60) rfl (fun q3 => ?_) (fun q3 => ?_)
        · refine mp_iinc dX1_otherItems_60 rfl (v := nI (i + 1)) mI_inc (ls' := [.ref a, .ref b, .int (nI (min xs.length ys.length)), .int acc, .int (nI (i + 1))]) rfl (by decide) rfl ?_
          refine mt_goto dX1_otherItems_63 (tgt := 17) rfl ?_
          exact ih (i + 1) acc (by omega) ((mlp_go (by omega) (by simp [q1, q2, q3, nI_0, mI_one] <;> rfl)).symm.trans hr) (by omega)
        · refine mp_iinc dX1_otherItems_57 rfl (v := acc + 1) rfl (ls' := [.ref a, .ref b, .int (nI (min xs.length ys.length)), .int (acc + 1), .int (nI i)]) rfl (by decide) rfl ?_
          refine mp_iinc dX1_otherItems_60 rfl (v := nI (i + 1)) mI_inc (ls' := [.ref a, .ref b, .int (nI (min xs.length ys.length)), .int (acc + 1), .int (nI (i + 1))]) rfl (by decide) rfl ?_
          refine mt_goto dX1_otherItems_63 (tgt := 17) rfl ?_
          exact ih (i + 1) (acc + 1) (by omega) ((mlp_go (by omega) (by simp [q1, q2, q3, nI_0, mI_one] <;> rfl)).symm.trans hr) (by omega)
def q_otherItems (xs ys : List mIt) : Int32 := mlp (fun i acc => if xk xs i = xk ys i ∧ xt xs i = xt ys i then acc else acc + 1) ((min xs.length ys.length) - 0) 0 (nI 0)
set_option maxRecDepth 100000 in
set_option maxHeartbeats 2000000 in
theorem kX1_otherItems {l : Launch} (hl : l.stackTraces = false) {h : mH} {n a b room room2 : Nat} {fl fl2 : Int32} {xs ys : List mIt} (H : rowAt h a room fl xs) (H2 : rowAt h b room2 fl2 ys) : mC l mX1_otherItems rX1_otherItems [.ref a, .ref b] h n (mRi (q_otherItems xs ys) h n) (mNX) := by
  obtain ⟨f, g, ea, ek, es, ql, qr, qk, qt⟩ := id H
  obtain ⟨f2, g2, ea2, ek2, es2, ql2, qr2, qk2, qt2⟩ := id H2
  refine mm_enter hl (by decide +kernel) rfl rfl rfl (Nat.le_of_ble_eq_true rfl) ?_
  show mT _ _ _ _ 0 [.ref a, .ref b, .double 0, .double 0, .double 0] [] _ _ 0 0
  refine mt_aload_n dX1_otherItems_0 rfl rfl ?_
  refine mt_getfield mKX1 (i := 3) (by decide) mw_77 dX1_otherItems_1 ea rfl ?_
  refine mt_aload_n dX1_otherItems_4 rfl rfl ?_
  refine mt_getfield mKX1 (i := 3) (by decide) mw_77 dX1_otherItems_5 ea2 rfl ?_
  refine mt_mmin dX1_otherItems_8 mw_151 mw_152 mw_41 (mw_min) (Nat.le_of_ble_eq_true rfl) ⟨Nat.le_of_ble_eq_true rfl, Nat.le_of_ble_eq_true rfl⟩ (Nat.le_of_ble_eq_true rfl) (Nat.le_of_ble_eq_true rfl) (v := nI (min xs.length ys.length)) (mI_min (by omega) (by omega)) ?_
  refine mp_istore_n dX1_otherItems_11 (ls' := [.ref a, .ref b, .int (nI (min xs.length ys.length)), .double 0, .double 0]) rfl (by decide) rfl ?_
  refine mt_iconst dX1_otherItems_12 (v := nI 0) rfl ?_
  refine mp_istore_n dX1_otherItems_13 (ls' := [.ref a, .ref b, .int (nI (min xs.length ys.length)), .int (nI 0), .double 0]) rfl (by decide) rfl ?_
  refine mt_iconst dX1_otherItems_14 (v := nI 0) rfl ?_
  refine mp_istore dX1_otherItems_15 (ls' := [.ref a, .ref b, .int (nI (min xs.length ys.length)), .int (nI 0), .int (nI 0)]) rfl (by decide) rfl ?_
  refine tX1_otherItems_17 H H2 (fun acc_1 i_2 z3 => ?_) ((min xs.length ys.length) - 0 + 1) 0 (nI 0) (Nat.lt_succ_self _) rfl (by omega)
  refine mt_iload_n dX1_otherItems_66 rfl ?_
  refine mt_ireturn dX1_otherItems_67 rfl rfl (Nat.le_of_ble_eq_true rfl) (Nat.le_of_ble_eq_true rfl) ?_
  exact ⟨congrArg (fun x => some (Value.int x)) z3, rfl, rfl⟩
abbrev rX1_rankAt : Room := { frames := 0, cells := 0, slots := 0, locals := 0 }
def rankf (xs : List mIt) (i : Nat) : Nat := mlp (fun j acc => if xk xs j < xk xs i ∨ (j < i ∧ xk xs j = xk xs i) then acc + 1 else acc) (xs.length - 0) 0 0
theorem rankf_le {xs : List mIt} {i : Nat} : rankf xs i ≤ xs.length := by
  have := @mlp_le (fun j acc => if xk xs j < xk xs i ∨ (j < i ∧ xk xs j = xk xs i) then acc + 1 else acc) (fun j a => by split <;> omega) (xs.length - 0) 0 0
  unfold rankf
  omega
set_option maxRecDepth 100000 in
set_option maxHeartbeats 2000000 in
theorem tX1_rankAt_12 {l : Launch} {R : Room} {K : mK} {cc sc : Nat} {h : mH} {n a room : Nat} {fl : Int32} {xs : List mIt} {i r : Nat} (H : rowAt h a room fl xs) (kk0 : ∀ (acc : Nat) (j : Nat), (acc = r) → mT l mX1_rankAt R K 58 [.ref a, .int (nI i), .int (xk xs i), .int (nI acc), .int (nI j)] [] h n cc sc) : ∀ (N0 : Nat) (j : Nat) (acc : Nat), (xs.length - j) < N0 → (mlp (fun j acc => if xk xs j < xk xs i ∨ (j < i ∧ xk xs j = xk xs i) then acc + 1 else acc) (xs.length - j) j acc = r) → (j ≤ xs.length) → (i < xs.length) → (acc ≤ j) → mT l mX1_rankAt R K 12 [.ref a, .int (nI i), .int (xk xs i), .int (nI acc), .int (nI j)] [] h n cc sc := by
  intro N0
  induction N0 with
  | zero => intro j acc hm; exact absurd hm (Nat.not_lt_zero _)
  | succ N0 ih =>
    intro j acc hm hr hj hi ha
    obtain ⟨f, g, ea, ek, es, ql, qr, qk, qt⟩ := id H
    refine mt_iload dX1_rankAt_12 rfl ?_
    refine mt_aload_n dX1_rankAt_14 rfl rfl ?_
    refine mt_getfield mKX1 (i := 3) (by decide) mw_77 dX1_rankAt_15 ea rfl ?_
    refine mt_icmp_ge dX1_rankAt_18 (tgt := 58) rfl (fun q1 => ?_) (fun q1 => ?_)
    · have q1 := Int32.not_lt.mpr q1
      have q1 := (not_congr (nI_ltI (by omega) (by omega))).mp q1
      exact kk0 acc j ((mlp_end (by omega)).symm.trans hr)
    · have q1 := Int32.not_le.mp q1
      have q1 := (nI_ltI (by omega) (by omega)).mp q1
      refine mt_aload_n dX1_rankAt_21 rfl rfl ?_
      refine mt_getfield mKX1 (i := 0) (by decide) mw_67 dX1_rankAt_22 ea rfl ?_
      refine mt_iload dX1_rankAt_25 rfl ?_
      refine mp_iaload dX1_rankAt_27 ek rfl (by omega) (by omega) (v := xk xs j) (qk _ (by omega)) ?_
      refine mt_iload_n dX1_rankAt_28 rfl ?_
      refine mt_icmp_lt dX1_rankAt_29 (tgt := 49) rfl (fun q2 => ?_) (fun q2 => ?_)
      · refine mp_iinc dX1_rankAt_49 rfl (v := nI (acc + 1)) mI_inc (ls' := [.ref a, .int (nI i), .int (xk xs i), .int (nI (acc + 1)), .int (nI j)]) rfl (by decide) rfl ?_
        refine mp_iinc dX1_rankAt_52 rfl (v := nI (j + 1)) mI_inc (ls' := [.ref a, .int (nI i), .int (xk xs i), .int (nI (acc + 1)), .int (nI (j + 1))]) rfl (by decide) rfl ?_
        refine mt_goto dX1_rankAt_55 (tgt := 12) rfl ?_
        exact ih (j + 1) (acc + 1) (by omega) ((mlp_go (by omega) (by simp [q1, q2, nI_0, mI_one] <;> rfl)).symm.trans hr) (by omega) hi (by omega)
      · refine mt_iload dX1_rankAt_32 rfl ?_
        refine mt_iload_n dX1_rankAt_34 rfl ?_
        refine mt_icmp_ge dX1_rankAt_35 (tgt := 52) rfl (fun q3 => ?_) (fun q3 => ?_)
        · have q3 := Int32.not_lt.mpr q3
          have q3 := (not_congr (nI_ltI (by omega) (by omega))).mp q3
          refine mp_iinc dX1_rankAt_52 rfl (v := nI (j + 1)) mI_inc (ls' := [.ref a, .int (nI i), .int (xk xs i), .int (nI acc), .int (nI (j + 1))]) rfl (by decide) rfl ?_
          refine mt_goto dX1_rankAt_55 (tgt := 12) rfl ?_
          exact ih (j + 1) acc (by omega) ((mlp_go (by omega) (by simp [q1, q2, q3, nI_0, mI_one] <;> rfl)).symm.trans hr) (by omega) hi (by omega)
        · have q3 := Int32.not_le.mp q3
          have q3 := (nI_ltI (by omega) (by omega)).mp q3
          refine mt_aload_n dX1_rankAt_38 rfl rfl ?_
          refine mt_getfield mKX1 (i := 0) (by decide) mw_67 dX1_rankAt_39 ea rfl ?_
          refine mt_iload dX1_rankAt_42 rfl ?_
          refine mp_iaload dX1_rankAt_44 ek rfl (by omega) (by omega) (v := xk xs j) (qk _ (by omega)) ?_
          refine mt_iload_n dX1_rankAt_45 rfl ?_
          refine mt_icmp_ne dX1_rankAt_46 (tgt := 52) rfl (fun q4 => ?_) (fun q4 => ?_)
          · refine mp_iinc dX1_rankAt_52 rfl (v := nI (j + 1)) mI_inc (ls' := [.ref a, .int (nI i), .int (xk xs i), .int (nI acc), .int (nI (j + 1))]) rfl (by decide) rfl ?_
            refine mt_goto dX1_rankAt_55 (tgt := 12) rfl ?_
            exact ih (j + 1) acc (by omega) ((mlp_go (by omega) (by simp [q1, q2, q3, q4, nI_0, mI_one] <;> rfl)).symm.trans hr) (by omega) hi (by omega)
          · refine mp_iinc dX1_rankAt_49 rfl (v := nI (acc + 1)) mI_inc (ls' := [.ref a, .int (nI i), .int (xk xs i), .int (nI (acc + 1)), .int (nI j)]) rfl (by decide) rfl ?_
            refine mp_iinc dX1_rankAt_52 rfl (v := nI (j + 1)) mI_inc (ls' := [.ref a, .int (nI i), .int (xk xs i), .int (nI (acc + 1)), .int (nI (j + 1))]) rfl (by decide) rfl ?_
            refine mt_goto dX1_rankAt_55 (tgt := 12) rfl ?_
            exact ih (j + 1) (acc + 1) (by omega) ((mlp_go (by omega) (by simp [q1, q2, q3, q4, nI_0, mI_one] <;> rfl)).symm.trans hr) (by omega) hi (by omega)
set_option maxRecDepth 100000 in
set_option maxHeartbeats 2000000 in
theorem kX1_rankAt {l : Launch} (hl : l.stackTraces = false) {h : mH} {n a room : Nat} {fl : Int32} {xs : List mIt} {i : Nat} (H : rowAt h a room fl xs) (hi : i < xs.length) : mC l mX1_rankAt rX1_rankAt [.ref a, .int (nI i)] h n (mRi (nI (rankf xs i)) h n) (mNX) := by
  obtain ⟨f, g, ea, ek, es, ql, qr, qk, qt⟩ := id H
  refine mm_enter hl (by decide +kernel) rfl rfl rfl (Nat.le_of_ble_eq_true rfl) ?_
  show mT _ _ _ _ 0 [.ref a, .int (nI i), .double 0, .double 0, .double 0] [] _ _ 0 0
  refine mt_aload_n dX1_rankAt_0 rfl rfl ?_
  refine mt_getfield mKX1 (i := 0) (by decide) mw_67 dX1_rankAt_1 ea rfl ?_
  refine mt_iload_n dX1_rankAt_4 rfl ?_
  refine mp_iaload dX1_rankAt_5 ek rfl (by omega) (by omega) (v := xk xs i) (qk _ (by omega)) ?_
  refine mp_istore_n dX1_rankAt_6 (ls' := [.ref a, .int (nI i), .int (xk xs i), .double 0, .double 0]) rfl (by decide) rfl ?_
  refine mt_iconst dX1_rankAt_7 (v := nI 0) rfl ?_
  refine mp_istore_n dX1_rankAt_8 (ls' := [.ref a, .int (nI i), .int (xk xs i), .int (nI 0), .double 0]) rfl (by decide) rfl ?_
  refine mt_iconst dX1_rankAt_9 (v := nI 0) rfl ?_
  refine mp_istore dX1_rankAt_10 (ls' := [.ref a, .int (nI i), .int (xk xs i), .int (nI 0), .int (nI 0)]) rfl (by decide) rfl ?_
  refine tX1_rankAt_12 H (fun acc_1 j_2 z3 => ?_) (xs.length - 0 + 1) 0 0 (Nat.lt_succ_self _) rfl (by omega) hi (by omega)
  refine mt_iload_n dX1_rankAt_58 rfl ?_
  refine mt_ireturn dX1_rankAt_59 rfl rfl (Nat.le_of_ble_eq_true rfl) (Nat.le_of_ble_eq_true rfl) ?_
  exact ⟨congrArg (fun x => some (Value.int (nI x))) z3, rfl, rfl⟩
abbrev rX1_standsByRanksIn : Room := { frames := 1, cells := 0, slots := 0, locals := 24 }
set_option maxRecDepth 100000 in
set_option maxHeartbeats 2000000 in
theorem tX1_standsByRanksIn_2 {l : Launch} {K : mK} {h : mH} {n a b room room2 : Nat} {fl fl2 : Int32} {xs ys : List mIt} {r : Bool} (hl : l.stackTraces = false) (H : rowAt h a room fl xs) (H2 : rowAt h b room2 fl2 ys) (kk0 : ∀ (i : Nat), (r = true) → mT l mX1_standsByRanksIn rX1_standsByRanksIn K 62 [.ref a, .ref b, .int (nI i), .double 0] [] h n 0 0) (kk1 : ∀ (i : Nat), (r = false) → mT l mX1_standsByRanksIn rX1_standsByRanksIn K 54 [.ref a, .ref b, .int (nI i), .double 0] [] h n 0 0) : ∀ (N0 : Nat) (i : Nat), (xs.length - i) < N0 → (mall (fun i => decide (rankf xs i < ys.length ∧ xk ys (rankf xs i) = xk xs i ∧ xt ys (rankf xs i) = xt xs i)) (xs.length - i) i = r) → (i ≤ xs.length + 1) → mT l mX1_standsByRanksIn rX1_standsByRanksIn K 2 [.ref a, .ref b, .int (nI i), .double 0] [] h n 0 0 := by
  intro N0
  induction N0 with
  | zero => intro i hm; exact absurd hm (Nat.not_lt_zero _)
  | succ N0 ih =>
    intro i hm hr hi
    obtain ⟨f_1, g_1, ea_1, ek_1, es_1, ql_1, qr_1, qk_1, qt_1⟩ := id H
    obtain ⟨f_2, g_2, ea_2, ek_2, es_2, ql_2, qr_2, qk_2, qt_2⟩ := id H2
    refine mt_iload_n dX1_standsByRanksIn_2 rfl ?_
    refine mt_aload_n dX1_standsByRanksIn_3 rfl rfl ?_
    refine mt_getfield mKX1 (i := 3) (by decide) mw_77 dX1_standsByRanksIn_4 ea_1 rfl ?_
    refine mt_icmp_ge dX1_standsByRanksIn_7 (tgt := 62) rfl (fun q3 => ?_) (fun q3 => ?_)
    · have q3 := Int32.not_lt.mpr q3
      have q3 := (not_congr (nI_ltI (by omega) (by omega))).mp q3
      exact kk0 i (((mall_end (by omega)).symm.trans hr).symm)
    · have q3 := Int32.not_le.mp q3
      have q3 := (nI_ltI (by omega) (by omega)).mp q3
      refine mt_aload_n dX1_standsByRanksIn_10 rfl rfl ?_
      refine mt_iload_n dX1_standsByRanksIn_11 rfl ?_
      refine mt_callV (N := mX1_rankAt) (Rc := rX1_rankAt) (As := [.int (nI i)]) (st := []) dX1_standsByRanksIn_12 (kX1_rankAt hl H (by omega)) sX1_rankAt mw_198 mKX1 rfl ea_1 rfl (Nat.le_of_ble_eq_true rfl) ⟨⟨Nat.le_of_ble_eq_true rfl, Nat.le_of_ble_eq_true rfl⟩, Nat.le_of_ble_eq_true rfl, Nat.le_of_ble_eq_true rfl⟩ (fun v4 h5 n6 c7 => ?_) (fun _ _ _ hx => hx.elim)
      obtain ⟨c7a, c7b, c7c⟩ := c7
      rw [c7a, c7b, c7c]
      show mT _ _ _ _ 15 [.ref a, .ref b, .int (nI i), .double 0] [.int (nI (rankf xs i))] _ _ _ _
      refine mp_istore_n dX1_standsByRanksIn_15 (ls' := [.ref a, .ref b, .int (nI i), .int (nI (rankf xs i))]) rfl (by decide) rfl ?_
      have rl := @rankf_le xs i
      refine mt_iload_n dX1_standsByRanksIn_16 rfl ?_
      refine mt_aload_n dX1_standsByRanksIn_17 rfl rfl ?_
      refine mt_getfield mKX1 (i := 3) (by decide) mw_77 dX1_standsByRanksIn_18 ea_2 rfl ?_
      refine mt_icmp_ge dX1_standsByRanksIn_21 (tgt := 54) rfl (fun q8 => ?_) (fun q8 => ?_)
      · have q8 := Int32.not_lt.mpr q8
        have q8 := (not_congr (nI_ltI (by omega) (by omega))).mp q8
        refine mt_drop 3 (ls' := [.ref a, .ref b, .int (nI i), .double 0]) rfl ?_
        exact kk1 i (((mall_no (by omega) (by simp [q3, q8])).symm.trans hr).symm)
      · have q8 := Int32.not_le.mp q8
        have q8 := (nI_ltI (by omega) (by omega)).mp q8
        refine mt_aload_n dX1_standsByRanksIn_24 rfl rfl ?_
        refine mt_getfield mKX1 (i := 0) (by decide) mw_67 dX1_standsByRanksIn_25 ea_2 rfl ?_
        refine mt_iload_n dX1_standsByRanksIn_28 rfl ?_
        refine mp_iaload dX1_standsByRanksIn_29 ek_2 rfl (by omega) (by omega) (v := xk ys (rankf xs i)) (qk_2 _ (by omega)) ?_
        refine mt_aload_n dX1_standsByRanksIn_30 rfl rfl ?_
        refine mt_getfield mKX1 (i := 0) (by decide) mw_67 dX1_standsByRanksIn_31 ea_1 rfl ?_
        refine mt_iload_n dX1_standsByRanksIn_34 rfl ?_
        refine mp_iaload dX1_standsByRanksIn_35 ek_1 rfl (by omega) (by omega) (v := xk xs i) (qk_1 _ (by omega)) ?_
        refine mt_icmp_ne dX1_standsByRanksIn_36 (tgt := 54) rfl (fun q9 => ?_) (fun q9 => ?_)
        · refine mt_drop 3 (ls' := [.ref a, .ref b, .int (nI i), .double 0]) rfl ?_
          exact kk1 i (((mall_no (by omega) (by simp [q3, q8, q9])).symm.trans hr).symm)
        · refine mt_aload_n dX1_standsByRanksIn_39 rfl rfl ?_
          refine mt_getfield mKX1 (i := 1) (by decide) mw_70 dX1_standsByRanksIn_40 ea_2 rfl ?_
          refine mt_iload_n dX1_standsByRanksIn_43 rfl ?_
          refine mp_iaload dX1_standsByRanksIn_44 es_2 rfl (by omega) (by omega) (v := xt ys (rankf xs i)) (qt_2 _ (by omega)) ?_
          refine mt_aload_n dX1_standsByRanksIn_45 rfl rfl ?_
          refine mt_getfield mKX1 (i := 1) (by decide) mw_70 dX1_standsByRanksIn_46 ea_1 rfl ?_
          refine mt_iload_n dX1_standsByRanksIn_49 rfl ?_
          refine mp_iaload dX1_standsByRanksIn_50 es_1 rfl (by omega) (by omega) (v := xt xs i) (qt_1 _ (by omega)) ?_
          refine mt_icmp_eq dX1_standsByRanksIn_51 (tgt := 56) rfl (fun q10 => ?_) (fun q10 => ?_)
          · refine mp_iinc dX1_standsByRanksIn_56 rfl (v := nI (i + 1)) mI_inc (ls' := [.ref a, .ref b, .int (nI (i + 1)), .int (nI (rankf xs i))]) rfl (by decide) rfl ?_
            refine mt_goto dX1_standsByRanksIn_59 (tgt := 2) rfl ?_
            refine mt_drop 3 (ls' := [.ref a, .ref b, .int (nI (i + 1)), .double 0]) rfl ?_
            exact ih (i + 1) (by omega) ((mall_go (by omega) (by simp [q3, q8, q9, q10])).symm.trans hr) (by omega)
          · refine mt_drop 3 (ls' := [.ref a, .ref b, .int (nI i), .double 0]) rfl ?_
            exact kk1 i (((mall_no (by omega) (by simp [q3, q8, q9, q10])).symm.trans hr).symm)
def q_standsByRanksIn (xs ys : List mIt) : Bool := mall (fun i => decide (rankf xs i < ys.length ∧ xk ys (rankf xs i) = xk xs i ∧ xt ys (rankf xs i) = xt xs i)) (xs.length - 0) 0
set_option maxRecDepth 100000 in
set_option maxHeartbeats 2000000 in
theorem kX1_standsByRanksIn {l : Launch} (hl : l.stackTraces = false) {h : mH} {n a b room room2 : Nat} {fl fl2 : Int32} {xs ys : List mIt} (H : rowAt h a room fl xs) (H2 : rowAt h b room2 fl2 ys) : mC l mX1_standsByRanksIn rX1_standsByRanksIn [.ref a, .ref b] h n (mRi (mb (q_standsByRanksIn xs ys)) h n) (mNX) := by
  obtain ⟨f_1, g_1, ea_1, ek_1, es_1, ql_1, qr_1, qk_1, qt_1⟩ := id H
  obtain ⟨f_2, g_2, ea_2, ek_2, es_2, ql_2, qr_2, qk_2, qt_2⟩ := id H2
  refine mm_enter hl (by decide +kernel) rfl rfl rfl (Nat.le_of_ble_eq_true rfl) ?_
  show mT _ _ _ _ 0 [.ref a, .ref b, .double 0, .double 0] [] _ _ 0 0
  refine mt_iconst dX1_standsByRanksIn_0 (v := nI 0) rfl ?_
  refine mp_istore_n dX1_standsByRanksIn_1 (ls' := [.ref a, .ref b, .int (nI 0), .double 0]) rfl (by decide) rfl ?_
  refine tX1_standsByRanksIn_2 hl H H2 (fun i_3 z4 => ?_) (fun i_5 z6 => ?_) (xs.length - 0 + 1) 0 (Nat.lt_succ_self _) rfl (by omega)
  · refine mt_iconst dX1_standsByRanksIn_62 (v := nI 1) rfl ?_
    refine mt_ireturn dX1_standsByRanksIn_63 rfl rfl (Nat.le_of_ble_eq_true rfl) (Nat.le_of_ble_eq_true rfl) ?_
    exact ⟨congrArg (fun x => some (Value.int (mb x))) z4.symm, rfl, rfl⟩
  · refine mt_iconst dX1_standsByRanksIn_54 (v := nI 0) rfl ?_
    refine mt_ireturn dX1_standsByRanksIn_55 rfl rfl (Nat.le_of_ble_eq_true rfl) (Nat.le_of_ble_eq_true rfl) ?_
    exact ⟨congrArg (fun x => some (Value.int (mb x))) z6.symm, rfl, rfl⟩
abbrev rX1_wrongPairsWith : Room := { frames := 0, cells := 0, slots := 0, locals := 0 }
set_option maxRecDepth 100000 in
set_option maxHeartbeats 2000000 in
theorem tX1_wrongPairsWith_12 {l : Launch} {R : Room} {K : mK} {cc sc : Nat} {h : mH} {n a room : Nat} {fl : Int32} {xs : List mIt} {i : Nat} {r : Int32}  (H : rowAt h a room fl xs) (hi9 : i < xs.length) (kk0 : ∀ (acc : Int32) (j : Nat), (acc = r) → mT l mX1_wrongPairsWith R K 38 [.ref a, .int (nI i), .int (xk xs i), .int acc, .int (nI j)] [] h n cc sc) : ∀ (N0 : Nat) (j : Nat) (acc : Int32), (i - j) < N0 → (mlp (fun j acc => if xk xs i < xk xs j then acc + 1 else acc) (i - j) j acc = r) → (j ≤ i + 1) → mT l mX1_wrongPairsWith R K 12 [.ref a, .int (nI i), .int (xk xs i), .int acc, .int (nI j)] [] h n cc sc := by
  intro N0
  induction N0 with
  | zero => intro j acc hm; exact absurd hm (Nat.not_lt_zero _)
  | succ N0 ih =>
    intro j acc hm hr hi
    obtain ⟨f, g, ea, ek, es, ql, qr, qk, qt⟩ := id H
    refine mt_iload dX1_wrongPairsWith_12 rfl ?_
    refine mt_iload_n dX1_wrongPairsWith_14 rfl ?_
    refine mt_icmp_ge dX1_wrongPairsWith_15 (tgt := 38) rfl (fun q1 => ?_) (fun q1 => ?_)
    · have q1 := Int32.not_lt.mpr q1
      have q1 := (not_congr (nI_ltI (by omega) (by omega))).mp q1
      exact kk0 acc j ((mlp_end (by omega)).symm.trans hr)
    · have q1 := Int32.not_le.mp q1
      have q1 := (nI_ltI (by omega) (by omega)).mp q1
      refine mt_aload_n dX1_wrongPairsWith_18 rfl rfl ?_
      refine mt_getfield mKX1 (i := 0) (by decide) mw_67 dX1_wrongPairsWith_19 ea rfl ?_
      refine mt_iload dX1_wrongPairsWith_22 rfl ?_
      refine mp_iaload dX1_wrongPairsWith_24 ek rfl (by omega) (by omega) (v := xk xs j) (qk _ (by omega)) ?_
      refine mt_iload_n dX1_wrongPairsWith_25 rfl ?_
      refine mt_icmp_le dX1_wrongPairsWith_26 (tgt := 32) rfl (fun q2 => ?_) (fun q2 => ?_)
      · have q2 := Int32.not_lt.mpr q2
        refine mp_iinc dX1_wrongPairsWith_32 rfl (v := nI (j + 1)) mI_inc (ls' := [.ref a, .int (nI i), .int (xk xs i), .int acc, .int (nI (j + 1))]) rfl (by decide) rfl ?_
        refine mt_goto dX1_wrongPairsWith_35 (tgt := 12) rfl ?_
        exact ih (j + 1) acc (by omega) ((mlp_go (by omega) (by simp [q1, q2, nI_0, mI_one] <;> rfl)).symm.trans hr) (by omega)
      · have q2 := Int32.not_le.mp q2
        refine mp_iinc dX1_wrongPairsWith_29 rfl (v := acc + 1) rfl (ls' := [.ref a, .int (nI i), .int (xk xs i), .int (acc + 1), .int (nI j)]) rfl (by decide) rfl ?_
        refine mp_iinc dX1_wrongPairsWith_32 rfl (v := nI (j + 1)) mI_inc (ls' := [.ref a, .int (nI i), .int (xk xs i), .int (acc + 1), .int (nI (j + 1))]) rfl (by decide) rfl ?_
        refine mt_goto dX1_wrongPairsWith_35 (tgt := 12) rfl ?_
        exact ih (j + 1) (acc + 1) (by omega) ((mlp_go (by omega) (by simp [q1, q2, nI_0, mI_one] <;> rfl)).symm.trans hr) (by omega)
set_option maxRecDepth 100000 in
set_option maxHeartbeats 2000000 in
theorem tX1_wrongPairsWith_43 {l : Launch} {R : Room} {K : mK} {cc sc : Nat} {h : mH} {n a room : Nat} {fl : Int32} {xs : List mIt} {i : Nat} {r : Int32}  (H : rowAt h a room fl xs) (hi9 : i < xs.length) (kk0 : ∀ (acc : Int32) (j : Nat), (acc = r) → mT l mX1_wrongPairsWith R K 72 [.ref a, .int (nI i), .int (xk xs i), .int acc, .int (nI j)] [] h n cc sc) : ∀ (N0 : Nat) (j : Nat) (acc : Int32), (xs.length - j) < N0 → (mlp (fun j acc => if xk xs j < xk xs i then acc + 1 else acc) (xs.length - j) j acc = r) → (j ≤ xs.length + 1) → mT l mX1_wrongPairsWith R K 43 [.ref a, .int (nI i), .int (xk xs i), .int acc, .int (nI j)] [] h n cc sc := by
  intro N0
  induction N0 with
  | zero => intro j acc hm; exact absurd hm (Nat.not_lt_zero _)
  | succ N0 ih =>
    intro j acc hm hr hi
    obtain ⟨f, g, ea, ek, es, ql, qr, qk, qt⟩ := id H
    refine mt_iload dX1_wrongPairsWith_43 rfl ?_
    refine mt_aload_n dX1_wrongPairsWith_45 rfl rfl ?_
    refine mt_getfield mKX1 (i := 3) (by decide) mw_77 dX1_wrongPairsWith_46 ea rfl ?_
    refine mt_icmp_ge dX1_wrongPairsWith_49 (tgt := 72) rfl (fun q1 => ?_) (fun q1 => ?_)
    · have q1 := Int32.not_lt.mpr q1
      have q1 := (not_congr (nI_ltI (by omega) (by omega))).mp q1
      exact kk0 acc j ((mlp_end (by omega)).symm.trans hr)
    · have q1 := Int32.not_le.mp q1
      have q1 := (nI_ltI (by omega) (by omega)).mp q1
      refine mt_aload_n dX1_wrongPairsWith_52 rfl rfl ?_
      refine mt_getfield mKX1 (i := 0) (by decide) mw_67 dX1_wrongPairsWith_53 ea rfl ?_
      refine mt_iload dX1_wrongPairsWith_56 rfl ?_
      refine mp_iaload dX1_wrongPairsWith_58 ek rfl (by omega) (by omega) (v := xk xs j) (qk _ (by omega)) ?_
      refine mt_iload_n dX1_wrongPairsWith_59 rfl ?_
      refine mt_icmp_ge dX1_wrongPairsWith_60 (tgt := 66) rfl (fun q2 => ?_) (fun q2 => ?_)
      · have q2 := Int32.not_lt.mpr q2
        refine mp_iinc dX1_wrongPairsWith_66 rfl (v := nI (j + 1)) mI_inc (ls' := [.ref a, .int (nI i), .int (xk xs i), .int acc, .int (nI (j + 1))]) rfl (by decide) rfl ?_
        refine mt_goto dX1_wrongPairsWith_69 (tgt := 43) rfl ?_
        exact ih (j + 1) acc (by omega) ((mlp_go (by omega) (by simp [q1, q2, nI_0, mI_one] <;> rfl)).symm.trans hr) (by omega)
      · have q2 := Int32.not_le.mp q2
        refine mp_iinc dX1_wrongPairsWith_63 rfl (v := acc + 1) rfl (ls' := [.ref a, .int (nI i), .int (xk xs i), .int (acc + 1), .int (nI j)]) rfl (by decide) rfl ?_
        refine mp_iinc dX1_wrongPairsWith_66 rfl (v := nI (j + 1)) mI_inc (ls' := [.ref a, .int (nI i), .int (xk xs i), .int (acc + 1), .int (nI (j + 1))]) rfl (by decide) rfl ?_
        refine mt_goto dX1_wrongPairsWith_69 (tgt := 43) rfl ?_
        exact ih (j + 1) (acc + 1) (by omega) ((mlp_go (by omega) (by simp [q1, q2, nI_0, mI_one] <;> rfl)).symm.trans hr) (by omega)
def q_wrongPairsWith (xs : List mIt) (i : Nat) : Int32 := mlp (fun j acc => if xk xs j < xk xs i then acc + 1 else acc) (xs.length - (i + 1)) (i + 1) (mlp (fun j acc => if xk xs i < xk xs j then acc + 1 else acc) (i - 0) 0 (nI 0))
set_option maxRecDepth 100000 in
set_option maxHeartbeats 2000000 in
theorem kX1_wrongPairsWith {l : Launch} (hl : l.stackTraces = false) {h : mH} {n a room : Nat} {fl : Int32} {xs : List mIt} {i : Nat} (H : rowAt h a room fl xs) (hi9 : i < xs.length) : mC l mX1_wrongPairsWith rX1_wrongPairsWith [.ref a, .int (nI i)] h n (mRi (q_wrongPairsWith xs i) h n) (mNX) := by
  obtain ⟨f, g, ea, ek, es, ql, qr, qk, qt⟩ := id H
  refine mm_enter hl (by decide +kernel) rfl rfl rfl (Nat.le_of_ble_eq_true rfl) ?_
  show mT _ _ _ _ 0 [.ref a, .int (nI i), .double 0, .double 0, .double 0] [] _ _ 0 0
  refine mt_aload_n dX1_wrongPairsWith_0 rfl rfl ?_
  refine mt_getfield mKX1 (i := 0) (by decide) mw_67 dX1_wrongPairsWith_1 ea rfl ?_
  refine mt_iload_n dX1_wrongPairsWith_4 rfl ?_
  refine mp_iaload dX1_wrongPairsWith_5 ek rfl (by omega) (by omega) (v := xk xs i) (qk _ (by omega)) ?_
  refine mp_istore_n dX1_wrongPairsWith_6 (ls' := [.ref a, .int (nI i), .int (xk xs i), .double 0, .double 0]) rfl (by decide) rfl ?_
  refine mt_iconst dX1_wrongPairsWith_7 (v := nI 0) rfl ?_
  refine mp_istore_n dX1_wrongPairsWith_8 (ls' := [.ref a, .int (nI i), .int (xk xs i), .int (nI 0), .double 0]) rfl (by decide) rfl ?_
  refine mt_iconst dX1_wrongPairsWith_9 (v := nI 0) rfl ?_
  refine mp_istore dX1_wrongPairsWith_10 (ls' := [.ref a, .int (nI i), .int (xk xs i), .int (nI 0), .int (nI 0)]) rfl (by decide) rfl ?_
  refine tX1_wrongPairsWith_12 H hi9 (fun acc_1 j_2 z3 => ?_) (i - 0 + 1) 0 (nI 0) (Nat.lt_succ_self _) rfl (by omega)
  refine mt_iload_n dX1_wrongPairsWith_38 rfl ?_
  refine mt_iconst dX1_wrongPairsWith_39 (v := nI 1) rfl ?_
  refine mp_iadd dX1_wrongPairsWith_40 (v := nI (i + 1)) (nI_add _ _) ?_
  refine mp_istore dX1_wrongPairsWith_41 (ls' := [.ref a, .int (nI i), .int (xk xs i), .int acc_1, .int (nI (i + 1))]) rfl (by decide) rfl ?_
  refine tX1_wrongPairsWith_43 H hi9 (fun acc_4 j_5 z6 => ?_) (xs.length - (i + 1) + 1) (i + 1) acc_1 (Nat.lt_succ_self _) rfl (by omega)
  refine mt_iload_n dX1_wrongPairsWith_72 rfl ?_
  refine mt_ireturn dX1_wrongPairsWith_73 rfl rfl (Nat.le_of_ble_eq_true rfl) (Nat.le_of_ble_eq_true rfl) ?_
  exact ⟨congrArg (fun x => some (Value.int x)) (z6.trans (congrArg _ z3)), rfl, rfl⟩
abbrev rX1_wrongPairs : Room := { frames := 0, cells := 0, slots := 0, locals := 0 }
set_option maxRecDepth 100000 in
set_option maxHeartbeats 2000000 in
theorem tX1_wrongPairs_16 {l : Launch} {R : Room} {K : mK} {cc sc : Nat} {h : mH} {n a room : Nat} {fl : Int32} {xs : List mIt} {i : Nat} {r : Int32}  (H : rowAt h a room fl xs) (hi9 : i < xs.length) (kk0 : ∀ (acc : Int32) (j : Nat), (acc = r) → mT l mX1_wrongPairs R K 48 [.ref a, .int acc, .int (nI i), .int (nI j)] [] h n cc sc) : ∀ (N0 : Nat) (j : Nat) (acc : Int32), (xs.length - j) < N0 → (mlp (fun j acc => if xk xs j < xk xs i then acc + 1 else acc) (xs.length - j) j acc = r) → (j ≤ xs.length + 1) → mT l mX1_wrongPairs R K 16 [.ref a, .int acc, .int (nI i), .int (nI j)] [] h n cc sc := by
  intro N0
  induction N0 with
  | zero => intro j acc hm; exact absurd hm (Nat.not_lt_zero _)
  | succ N0 ih =>
    intro j acc hm hr hi
    obtain ⟨f, g, ea, ek, es, ql, qr, qk, qt⟩ := id H
    refine mt_iload_n dX1_wrongPairs_16 rfl ?_
    refine mt_aload_n dX1_wrongPairs_17 rfl rfl ?_
    refine mt_getfield mKX1 (i := 3) (by decide) mw_77 dX1_wrongPairs_18 ea rfl ?_
    refine mt_icmp_ge dX1_wrongPairs_21 (tgt := 48) rfl (fun q1 => ?_) (fun q1 => ?_)
    · have q1 := Int32.not_lt.mpr q1
      have q1 := (not_congr (nI_ltI (by omega) (by omega))).mp q1
      exact kk0 acc j ((mlp_end (by omega)).symm.trans hr)
    · have q1 := Int32.not_le.mp q1
      have q1 := (nI_ltI (by omega) (by omega)).mp q1
      refine mt_aload_n dX1_wrongPairs_24 rfl rfl ?_
      refine mt_getfield mKX1 (i := 0) (by decide) mw_67 dX1_wrongPairs_25 ea rfl ?_
      refine mt_iload_n dX1_wrongPairs_28 rfl ?_
      refine mp_iaload dX1_wrongPairs_29 ek rfl (by omega) (by omega) (v := xk xs i) (qk _ (by omega)) ?_
      refine mt_aload_n dX1_wrongPairs_30 rfl rfl ?_
      refine mt_getfield mKX1 (i := 0) (by decide) mw_67 dX1_wrongPairs_31 ea rfl ?_
      refine mt_iload_n dX1_wrongPairs_34 rfl ?_
      refine mp_iaload dX1_wrongPairs_35 ek rfl (by omega) (by omega) (v := xk xs j) (qk _ (by omega)) ?_
      refine mt_icmp_le dX1_wrongPairs_36 (tgt := 42) rfl (fun q2 => ?_) (fun q2 => ?_)
      · have q2 := Int32.not_lt.mpr q2
        refine mp_iinc dX1_wrongPairs_42 rfl (v := nI (j + 1)) mI_inc (ls' := [.ref a, .int acc, .int (nI i), .int (nI (j + 1))]) rfl (by decide) rfl ?_
        refine mt_goto dX1_wrongPairs_45 (tgt := 16) rfl ?_
        exact ih (j + 1) acc (by omega) ((mlp_go (by omega) (by simp [q1, q2, nI_0, mI_one] <;> rfl)).symm.trans hr) (by omega)
      · have q2 := Int32.not_le.mp q2
        refine mp_iinc dX1_wrongPairs_39 rfl (v := acc + 1) rfl (ls' := [.ref a, .int (acc + 1), .int (nI i), .int (nI j)]) rfl (by decide) rfl ?_
        refine mp_iinc dX1_wrongPairs_42 rfl (v := nI (j + 1)) mI_inc (ls' := [.ref a, .int (acc + 1), .int (nI i), .int (nI (j + 1))]) rfl (by decide) rfl ?_
        refine mt_goto dX1_wrongPairs_45 (tgt := 16) rfl ?_
        exact ih (j + 1) (acc + 1) (by omega) ((mlp_go (by omega) (by simp [q1, q2, nI_0, mI_one] <;> rfl)).symm.trans hr) (by omega)
set_option maxRecDepth 100000 in
set_option maxHeartbeats 2000000 in
theorem tX1_wrongPairs_4 {l : Launch} {R : Room} {K : mK} {cc sc : Nat} {h : mH} {n a room : Nat} {fl : Int32} {xs : List mIt} {r : Int32} (H : rowAt h a room fl xs) (kk0 : ∀ (acc : Int32) (i : Nat), (acc = r) → mT l mX1_wrongPairs R K 54 [.ref a, .int acc, .int (nI i), .double 0] [] h n cc sc) : ∀ (N0 : Nat) (i : Nat) (acc : Int32), (xs.length - i) < N0 → (mlp (fun i acc => mlp (fun j acc => if xk xs j < xk xs i then acc + 1 else acc) (xs.length - (i + 1)) (i + 1) acc) (xs.length - i) i acc = r) → (i ≤ xs.length) → mT l mX1_wrongPairs R K 4 [.ref a, .int acc, .int (nI i), .double 0] [] h n cc sc := by
  intro N0
  induction N0 with
  | zero => intro i acc hm; exact absurd hm (Nat.not_lt_zero _)
  | succ N0 ih =>
    intro i acc hm hr hi
    obtain ⟨f, g, ea, ek, es, ql, qr, qk, qt⟩ := id H
    refine mt_iload_n dX1_wrongPairs_4 rfl ?_
    refine mt_aload_n dX1_wrongPairs_5 rfl rfl ?_
    refine mt_getfield mKX1 (i := 3) (by decide) mw_77 dX1_wrongPairs_6 ea rfl ?_
    refine mt_icmp_ge dX1_wrongPairs_9 (tgt := 54) rfl (fun q1 => ?_) (fun q1 => ?_)
    · have q1 := Int32.not_lt.mpr q1
      have q1 := (not_congr (nI_ltI (by omega) (by omega))).mp q1
      exact kk0 acc i ((mlp_end (by omega)).symm.trans hr)
    · have q1 := Int32.not_le.mp q1
      have q1 := (nI_ltI (by omega) (by omega)).mp q1
      refine mt_iload_n dX1_wrongPairs_12 rfl ?_
      refine mt_iconst dX1_wrongPairs_13 (v := nI 1) rfl ?_
      refine mp_iadd dX1_wrongPairs_14 (v := nI (i + 1)) (nI_add _ _) ?_
      refine mp_istore_n dX1_wrongPairs_15 (ls' := [.ref a, .int acc, .int (nI i), .int (nI (i + 1))]) rfl (by decide) rfl ?_
      refine tX1_wrongPairs_16 H (by omega) (fun acc_2 j_3 z4 => ?_) (xs.length - (i + 1) + 1) (i + 1) acc (Nat.lt_succ_self _) rfl (by omega)
      refine mp_iinc dX1_wrongPairs_48 rfl (v := nI (i + 1)) mI_inc (ls' := [.ref a, .int acc_2, .int (nI (i + 1)), .int (nI j_3)]) rfl (by decide) rfl ?_
      refine mt_goto dX1_wrongPairs_51 (tgt := 4) rfl ?_
      refine mt_drop 3 (ls' := [.ref a, .int acc_2, .int (nI (i + 1)), .double 0]) rfl ?_
      exact ih (i + 1) acc_2 (by omega) ((mlp_go (f := fun i acc => mlp (fun j acc => if xk xs j < xk xs i then acc + 1 else acc) (xs.length - (i + 1)) (i + 1) acc) (by omega) z4.symm).symm.trans hr) (by omega)
def q_wrongPairs (xs : List mIt) : Int32 := mlp (fun i acc => mlp (fun j acc => if xk xs j < xk xs i then acc + 1 else acc) (xs.length - (i + 1)) (i + 1) acc) (xs.length - 0) 0 (nI 0)
set_option maxRecDepth 100000 in
set_option maxHeartbeats 2000000 in
theorem kX1_wrongPairs {l : Launch} (hl : l.stackTraces = false) {h : mH} {n a room : Nat} {fl : Int32} {xs : List mIt} (H : rowAt h a room fl xs) : mC l mX1_wrongPairs rX1_wrongPairs [.ref a] h n (mRi (q_wrongPairs xs) h n) (mNX) := by
  obtain ⟨f, g, ea, ek, es, ql, qr, qk, qt⟩ := id H
  refine mm_enter hl (by decide +kernel) rfl rfl rfl (Nat.le_of_ble_eq_true rfl) ?_
  show mT _ _ _ _ 0 [.ref a, .double 0, .double 0, .double 0] [] _ _ 0 0
  refine mt_iconst dX1_wrongPairs_0 (v := nI 0) rfl ?_
  refine mp_istore_n dX1_wrongPairs_1 (ls' := [.ref a, .int (nI 0), .double 0, .double 0]) rfl (by decide) rfl ?_
  refine mt_iconst dX1_wrongPairs_2 (v := nI 0) rfl ?_
  refine mp_istore_n dX1_wrongPairs_3 (ls' := [.ref a, .int (nI 0), .int (nI 0), .double 0]) rfl (by decide) rfl ?_
  refine tX1_wrongPairs_4 H (fun acc_1 i_2 z3 => ?_) (xs.length - 0 + 1) 0 (nI 0) (Nat.lt_succ_self _) rfl (by omega)
  refine mt_iload_n dX1_wrongPairs_54 rfl ?_
  refine mt_ireturn dX1_wrongPairs_55 rfl rfl (Nat.le_of_ble_eq_true rfl) (Nat.le_of_ble_eq_true rfl) ?_
  exact ⟨congrArg (fun x => some (Value.int x)) z3, rfl, rfl⟩
abbrev rX1_rightPairs : Room := { frames := 0, cells := 0, slots := 0, locals := 0 }
set_option maxRecDepth 100000 in
set_option maxHeartbeats 2000000 in
theorem tX1_rightPairs_16 {l : Launch} {R : Room} {K : mK} {cc sc : Nat} {h : mH} {n a room : Nat} {fl : Int32} {xs : List mIt} {i : Nat} {r : Int32}  (H : rowAt h a room fl xs) (hi9 : i < xs.length) (kk0 : ∀ (acc : Int32) (j : Nat), (acc = r) → mT l mX1_rightPairs R K 48 [.ref a, .int acc, .int (nI i), .int (nI j)] [] h n cc sc) : ∀ (N0 : Nat) (j : Nat) (acc : Int32), (xs.length - j) < N0 → (mlp (fun j acc => if xk xs i < xk xs j then acc + 1 else acc) (xs.length - j) j acc = r) → (j ≤ xs.length + 1) → mT l mX1_rightPairs R K 16 [.ref a, .int acc, .int (nI i), .int (nI j)] [] h n cc sc := by
  intro N0
  induction N0 with
  | zero => intro j acc hm; exact absurd hm (Nat.not_lt_zero _)
  | succ N0 ih =>
    intro j acc hm hr hi
    obtain ⟨f, g, ea, ek, es, ql, qr, qk, qt⟩ := id H
    refine mt_iload_n dX1_rightPairs_16 rfl ?_
    refine mt_aload_n dX1_rightPairs_17 rfl rfl ?_
    refine mt_getfield mKX1 (i := 3) (by decide) mw_77 dX1_rightPairs_18 ea rfl ?_
    refine mt_icmp_ge dX1_rightPairs_21 (tgt := 48) rfl (fun q1 => ?_) (fun q1 => ?_)
    · have q1 := Int32.not_lt.mpr q1
      have q1 := (not_congr (nI_ltI (by omega) (by omega))).mp q1
      exact kk0 acc j ((mlp_end (by omega)).symm.trans hr)
    · have q1 := Int32.not_le.mp q1
      have q1 := (nI_ltI (by omega) (by omega)).mp q1
      refine mt_aload_n dX1_rightPairs_24 rfl rfl ?_
      refine mt_getfield mKX1 (i := 0) (by decide) mw_67 dX1_rightPairs_25 ea rfl ?_
      refine mt_iload_n dX1_rightPairs_28 rfl ?_
      refine mp_iaload dX1_rightPairs_29 ek rfl (by omega) (by omega) (v := xk xs i) (qk _ (by omega)) ?_
      refine mt_aload_n dX1_rightPairs_30 rfl rfl ?_
      refine mt_getfield mKX1 (i := 0) (by decide) mw_67 dX1_rightPairs_31 ea rfl ?_
      refine mt_iload_n dX1_rightPairs_34 rfl ?_
      refine mp_iaload dX1_rightPairs_35 ek rfl (by omega) (by omega) (v := xk xs j) (qk _ (by omega)) ?_
      refine mt_icmp_ge dX1_rightPairs_36 (tgt := 42) rfl (fun q2 => ?_) (fun q2 => ?_)
      · have q2 := Int32.not_lt.mpr q2
        refine mp_iinc dX1_rightPairs_42 rfl (v := nI (j + 1)) mI_inc (ls' := [.ref a, .int acc, .int (nI i), .int (nI (j + 1))]) rfl (by decide) rfl ?_
        refine mt_goto dX1_rightPairs_45 (tgt := 16) rfl ?_
        exact ih (j + 1) acc (by omega) ((mlp_go (by omega) (by simp [q1, q2, nI_0, mI_one] <;> rfl)).symm.trans hr) (by omega)
      · have q2 := Int32.not_le.mp q2
        refine mp_iinc dX1_rightPairs_39 rfl (v := acc + 1) rfl (ls' := [.ref a, .int (acc + 1), .int (nI i), .int (nI j)]) rfl (by decide) rfl ?_
        refine mp_iinc dX1_rightPairs_42 rfl (v := nI (j + 1)) mI_inc (ls' := [.ref a, .int (acc + 1), .int (nI i), .int (nI (j + 1))]) rfl (by decide) rfl ?_
        refine mt_goto dX1_rightPairs_45 (tgt := 16) rfl ?_
        exact ih (j + 1) (acc + 1) (by omega) ((mlp_go (by omega) (by simp [q1, q2, nI_0, mI_one] <;> rfl)).symm.trans hr) (by omega)
set_option maxRecDepth 100000 in
set_option maxHeartbeats 2000000 in
theorem tX1_rightPairs_4 {l : Launch} {R : Room} {K : mK} {cc sc : Nat} {h : mH} {n a room : Nat} {fl : Int32} {xs : List mIt} {r : Int32} (H : rowAt h a room fl xs) (kk0 : ∀ (acc : Int32) (i : Nat), (acc = r) → mT l mX1_rightPairs R K 54 [.ref a, .int acc, .int (nI i), .double 0] [] h n cc sc) : ∀ (N0 : Nat) (i : Nat) (acc : Int32), (xs.length - i) < N0 → (mlp (fun i acc => mlp (fun j acc => if xk xs i < xk xs j then acc + 1 else acc) (xs.length - (i + 1)) (i + 1) acc) (xs.length - i) i acc = r) → (i ≤ xs.length) → mT l mX1_rightPairs R K 4 [.ref a, .int acc, .int (nI i), .double 0] [] h n cc sc := by
  intro N0
  induction N0 with
  | zero => intro i acc hm; exact absurd hm (Nat.not_lt_zero _)
  | succ N0 ih =>
    intro i acc hm hr hi
    obtain ⟨f, g, ea, ek, es, ql, qr, qk, qt⟩ := id H
    refine mt_iload_n dX1_rightPairs_4 rfl ?_
    refine mt_aload_n dX1_rightPairs_5 rfl rfl ?_
    refine mt_getfield mKX1 (i := 3) (by decide) mw_77 dX1_rightPairs_6 ea rfl ?_
    refine mt_icmp_ge dX1_rightPairs_9 (tgt := 54) rfl (fun q1 => ?_) (fun q1 => ?_)
    · have q1 := Int32.not_lt.mpr q1
      have q1 := (not_congr (nI_ltI (by omega) (by omega))).mp q1
      exact kk0 acc i ((mlp_end (by omega)).symm.trans hr)
    · have q1 := Int32.not_le.mp q1
      have q1 := (nI_ltI (by omega) (by omega)).mp q1
      refine mt_iload_n dX1_rightPairs_12 rfl ?_
      refine mt_iconst dX1_rightPairs_13 (v := nI 1) rfl ?_
      refine mp_iadd dX1_rightPairs_14 (v := nI (i + 1)) (nI_add _ _) ?_
      refine mp_istore_n dX1_rightPairs_15 (ls' := [.ref a, .int acc, .int (nI i), .int (nI (i + 1))]) rfl (by decide) rfl ?_
      refine tX1_rightPairs_16 H (by omega) (fun acc_2 j_3 z4 => ?_) (xs.length - (i + 1) + 1) (i + 1) acc (Nat.lt_succ_self _) rfl (by omega)
      refine mp_iinc dX1_rightPairs_48 rfl (v := nI (i + 1)) mI_inc (ls' := [.ref a, .int acc_2, .int (nI (i + 1)), .int (nI j_3)]) rfl (by decide) rfl ?_
      refine mt_goto dX1_rightPairs_51 (tgt := 4) rfl ?_
      refine mt_drop 3 (ls' := [.ref a, .int acc_2, .int (nI (i + 1)), .double 0]) rfl ?_
      exact ih (i + 1) acc_2 (by omega) ((mlp_go (f := fun i acc => mlp (fun j acc => if xk xs i < xk xs j then acc + 1 else acc) (xs.length - (i + 1)) (i + 1) acc) (by omega) z4.symm).symm.trans hr) (by omega)
def q_rightPairs (xs : List mIt) : Int32 := mlp (fun i acc => mlp (fun j acc => if xk xs i < xk xs j then acc + 1 else acc) (xs.length - (i + 1)) (i + 1) acc) (xs.length - 0) 0 (nI 0)
set_option maxRecDepth 100000 in
set_option maxHeartbeats 2000000 in
theorem kX1_rightPairs {l : Launch} (hl : l.stackTraces = false) {h : mH} {n a room : Nat} {fl : Int32} {xs : List mIt} (H : rowAt h a room fl xs) : mC l mX1_rightPairs rX1_rightPairs [.ref a] h n (mRi (q_rightPairs xs) h n) (mNX) := by
  obtain ⟨f, g, ea, ek, es, ql, qr, qk, qt⟩ := id H
  refine mm_enter hl (by decide +kernel) rfl rfl rfl (Nat.le_of_ble_eq_true rfl) ?_
  show mT _ _ _ _ 0 [.ref a, .double 0, .double 0, .double 0] [] _ _ 0 0
  refine mt_iconst dX1_rightPairs_0 (v := nI 0) rfl ?_
  refine mp_istore_n dX1_rightPairs_1 (ls' := [.ref a, .int (nI 0), .double 0, .double 0]) rfl (by decide) rfl ?_
  refine mt_iconst dX1_rightPairs_2 (v := nI 0) rfl ?_
  refine mp_istore_n dX1_rightPairs_3 (ls' := [.ref a, .int (nI 0), .int (nI 0), .double 0]) rfl (by decide) rfl ?_
  refine tX1_rightPairs_4 H (fun acc_1 i_2 z3 => ?_) (xs.length - 0 + 1) 0 (nI 0) (Nat.lt_succ_self _) rfl (by omega)
  refine mt_iload_n dX1_rightPairs_54 rfl ?_
  refine mt_ireturn dX1_rightPairs_55 rfl rfl (Nat.le_of_ble_eq_true rfl) (Nat.le_of_ble_eq_true rfl) ?_
  exact ⟨congrArg (fun x => some (Value.int x)) z3, rfl, rfl⟩
abbrev rX1_endOfRun : Room := { frames := 0, cells := 0, slots := 0, locals := 0 }
set_option maxRecDepth 100000 in
set_option maxHeartbeats 2000000 in
theorem tX1_endOfRun_4 {l : Launch} {R : Room} {K : mK} {cc sc : Nat} {h : mH} {n a room : Nat} {fl : Int32} {xs : List mIt} {i r : Nat} (H : rowAt h a room fl xs) (kk0 : ∀ (e : Nat), (e = r) → mT l mX1_endOfRun R K 35 [.ref a, .int (nI i), .int (nI e)] [] h n cc sc) : ∀ (N0 : Nat) (e : Nat), (xs.length - e) < N0 → (erun xs (xs.length - e) e = r) → (0 < e) → (e ≤ xs.length) → mT l mX1_endOfRun R K 4 [.ref a, .int (nI i), .int (nI e)] [] h n cc sc := by
  intro N0
  induction N0 with
  | zero => intro e hm; exact absurd hm (Nat.not_lt_zero _)
  | succ N0 ih =>
    intro e hm hr h0 he
    obtain ⟨f, g, ea, ek, es, ql, qr, qk, qt⟩ := id H
    refine mt_iload_n dX1_endOfRun_4 rfl ?_
    refine mt_aload_n dX1_endOfRun_5 rfl rfl ?_
    refine mt_getfield mKX1 (i := 3) (by decide) mw_77 dX1_endOfRun_6 ea rfl ?_
    refine mt_icmp_ge dX1_endOfRun_9 (tgt := 35) rfl (fun q1 => ?_) (fun q1 => ?_)
    · have q1 := Int32.not_lt.mpr q1
      have q1 := (not_congr (nI_ltI (by omega) (by omega))).mp q1
      exact kk0 e (by first | exact (erun_end (by omega)).symm.trans hr | exact (erun_no (by omega) (by assumption)).symm.trans hr)
    · have q1 := Int32.not_le.mp q1
      have q1 := (nI_ltI (by omega) (by omega)).mp q1
      refine mt_aload_n dX1_endOfRun_12 rfl rfl ?_
      refine mt_getfield mKX1 (i := 0) (by decide) mw_67 dX1_endOfRun_13 ea rfl ?_
      refine mt_iload_n dX1_endOfRun_16 rfl ?_
      refine mt_iconst dX1_endOfRun_17 (v := nI 1) rfl ?_
      refine mp_isub dX1_endOfRun_18 (v := nI (e - 1)) (pk_sub (by omega)) ?_
      refine mp_iaload dX1_endOfRun_19 ek rfl (by omega) (by omega) (v := xk xs (e - 1)) (qk _ (by omega)) ?_
      refine mt_aload_n dX1_endOfRun_20 rfl rfl ?_
      refine mt_getfield mKX1 (i := 0) (by decide) mw_67 dX1_endOfRun_21 ea rfl ?_
      refine mt_iload_n dX1_endOfRun_24 rfl ?_
      refine mp_iaload dX1_endOfRun_25 ek rfl (by omega) (by omega) (v := xk xs e) (qk _ (by omega)) ?_
      refine mt_icmp_gt dX1_endOfRun_26 (tgt := 35) rfl (fun q2 => ?_) (fun q2 => ?_)
      · exact kk0 e (by first | exact (erun_end (by omega)).symm.trans hr | exact (erun_no (by omega) (by assumption)).symm.trans hr)
      · refine mp_iinc dX1_endOfRun_29 rfl (v := nI (e + 1)) mI_inc (ls' := [.ref a, .int (nI i), .int (nI (e + 1))]) rfl (by decide) rfl ?_
        refine mt_goto dX1_endOfRun_32 (tgt := 4) rfl ?_
        exact ih (e + 1) (by omega) ((erun_go (by omega) (by assumption)).symm.trans hr) (by omega) (by omega)
def q_endOfRun (xs : List mIt) (i : Nat) : Nat := erun xs (xs.length - (i + 1)) (i + 1)
set_option maxRecDepth 100000 in
set_option maxHeartbeats 2000000 in
theorem kX1_endOfRun {l : Launch} (hl : l.stackTraces = false) {h : mH} {n a room : Nat} {fl : Int32} {xs : List mIt} {i : Nat} (H : rowAt h a room fl xs) (hi : i < xs.length) : mC l mX1_endOfRun rX1_endOfRun [.ref a, .int (nI i)] h n (mRi (nI (q_endOfRun xs i)) h n) (mNX) := by
  obtain ⟨f, g, ea, ek, es, ql, qr, qk, qt⟩ := id H
  refine mm_enter hl (by decide +kernel) rfl rfl rfl (Nat.le_of_ble_eq_true rfl) ?_
  show mT _ _ _ _ 0 [.ref a, .int (nI i), .double 0] [] _ _ 0 0
  refine mt_iload_n dX1_endOfRun_0 rfl ?_
  refine mt_iconst dX1_endOfRun_1 (v := nI 1) rfl ?_
  refine mp_iadd dX1_endOfRun_2 (v := nI (i + 1)) (nI_add _ _) ?_
  refine mp_istore_n dX1_endOfRun_3 (ls' := [.ref a, .int (nI i), .int (nI (i + 1))]) rfl (by decide) rfl ?_
  refine tX1_endOfRun_4 H (fun e_1 z2 => ?_) (xs.length - (i + 1) + 1) (i + 1) (Nat.lt_succ_self _) rfl (by omega) (by omega)
  refine mt_iload_n dX1_endOfRun_35 rfl ?_
  refine mt_ireturn dX1_endOfRun_36 rfl rfl (Nat.le_of_ble_eq_true rfl) (Nat.le_of_ble_eq_true rfl) ?_
  exact ⟨congrArg (fun x => some (Value.int (nI x))) z2, rfl, rfl⟩
abbrev rX1_firstPlaceOf : Room := { frames := 0, cells := 0, slots := 0, locals := 0 }
set_option maxRecDepth 100000 in
set_option maxHeartbeats 2000000 in
theorem tX1_firstPlaceOf_2 {l : Launch} {R : Room} {K : mK} {cc sc : Nat} {h : mH} {n a room : Nat} {fl : Int32} {xs : List mIt} {key r : Int32} (H : rowAt h a room fl xs) (kk0 : ∀ (i : Nat), (nI i = r) → mT l mX1_firstPlaceOf R K 20 [.ref a, .int key, .int (nI i)] [] h n cc sc) (kk1 : ∀ (i : Nat), (-1 = r) → mT l mX1_firstPlaceOf R K 28 [.ref a, .int key, .int (nI i)] [] h n cc sc) : ∀ (N0 : Nat) (i : Nat), (xs.length - i) < N0 → (mff (fun i => decide (xk xs i = key)) (xs.length - i) i = r) → (i ≤ xs.length) → mT l mX1_firstPlaceOf R K 2 [.ref a, .int key, .int (nI i)] [] h n cc sc := by
  intro N0
  induction N0 with
  | zero => intro i hm; exact absurd hm (Nat.not_lt_zero _)
  | succ N0 ih =>
    intro i hm hr hi
    obtain ⟨f, g, ea, ek, es, ql, qr, qk, qt⟩ := id H
    refine mt_iload_n dX1_firstPlaceOf_2 rfl ?_
    refine mt_aload_n dX1_firstPlaceOf_3 rfl rfl ?_
    refine mt_getfield mKX1 (i := 3) (by decide) mw_77 dX1_firstPlaceOf_4 ea rfl ?_
    refine mt_icmp_ge dX1_firstPlaceOf_7 (tgt := 28) rfl (fun q1 => ?_) (fun q1 => ?_)
    · have q1 := Int32.not_lt.mpr q1
      have q1 := (not_congr (nI_ltI (by omega) (by omega))).mp q1
      exact kk1 i ((mff_end (by omega)).symm.trans hr)
    · have q1 := Int32.not_le.mp q1
      have q1 := (nI_ltI (by omega) (by omega)).mp q1
      refine mt_aload_n dX1_firstPlaceOf_10 rfl rfl ?_
      refine mt_getfield mKX1 (i := 0) (by decide) mw_67 dX1_firstPlaceOf_11 ea rfl ?_
      refine mt_iload_n dX1_firstPlaceOf_14 rfl ?_
      refine mp_iaload dX1_firstPlaceOf_15 ek rfl (by omega) (by omega) (v := xk xs i) (qk _ (by omega)) ?_
      refine mt_iload_n dX1_firstPlaceOf_16 rfl ?_
      refine mt_icmp_ne dX1_firstPlaceOf_17 (tgt := 22) rfl (fun q2 => ?_) (fun q2 => ?_)
      · refine mp_iinc dX1_firstPlaceOf_22 rfl (v := nI (i + 1)) mI_inc (ls' := [.ref a, .int key, .int (nI (i + 1))]) rfl (by decide) rfl ?_
        refine mt_goto dX1_firstPlaceOf_25 (tgt := 2) rfl ?_
        exact ih (i + 1) (by omega) ((mff_go (by omega) (by simp [q2])).symm.trans hr) (by omega)
      · exact kk0 i ((mff_yes (by omega) (by simp [q2])).symm.trans hr)
def q_firstPlaceOf (xs : List mIt) (key : Int32) : Int32 := mff (fun i => decide (xk xs i = key)) (xs.length - 0) 0
set_option maxRecDepth 100000 in
set_option maxHeartbeats 2000000 in
theorem kX1_firstPlaceOf {l : Launch} (hl : l.stackTraces = false) {h : mH} {n a room : Nat} {fl : Int32} {xs : List mIt} {key : Int32} (H : rowAt h a room fl xs) : mC l mX1_firstPlaceOf rX1_firstPlaceOf [.ref a, .int key] h n (mRi (q_firstPlaceOf xs key) h n) (mNX) := by
  obtain ⟨f, g, ea, ek, es, ql, qr, qk, qt⟩ := id H
  refine mm_enter hl (by decide +kernel) rfl rfl rfl (Nat.le_of_ble_eq_true rfl) ?_
  show mT _ _ _ _ 0 [.ref a, .int key, .double 0] [] _ _ 0 0
  refine mt_iconst dX1_firstPlaceOf_0 (v := nI 0) rfl ?_
  refine mp_istore_n dX1_firstPlaceOf_1 (ls' := [.ref a, .int key, .int (nI 0)]) rfl (by decide) rfl ?_
  refine tX1_firstPlaceOf_2 H (fun i_1 z2 => ?_) (fun i_3 z4 => ?_) (xs.length - 0 + 1) 0 (Nat.lt_succ_self _) rfl (by omega)
  · refine mt_iload_n dX1_firstPlaceOf_20 rfl ?_
    refine mt_ireturn dX1_firstPlaceOf_21 rfl rfl (Nat.le_of_ble_eq_true rfl) (Nat.le_of_ble_eq_true rfl) ?_
    exact ⟨congrArg (fun x => some (Value.int x)) z2, rfl, rfl⟩
  · refine mt_iconst dX1_firstPlaceOf_28 (v := -1) rfl ?_
    refine mt_ireturn dX1_firstPlaceOf_29 rfl rfl (Nat.le_of_ble_eq_true rfl) (Nat.le_of_ble_eq_true rfl) ?_
    exact ⟨congrArg (fun x => some (Value.int x)) z4, rfl, rfl⟩
abbrev rX1_lastPlaceOf : Room := { frames := 0, cells := 0, slots := 0, locals := 0 }
set_option maxRecDepth 100000 in
set_option maxHeartbeats 2000000 in
theorem tX1_lastPlaceOf_7 {l : Launch} {R : Room} {K : mK} {cc sc : Nat} {h : mH} {n a room : Nat} {fl : Int32} {xs : List mIt} {key r : Int32} (H : rowAt h a room fl xs) (kk0 : ∀ (d : Nat), (nI d = r) → mT l mX1_lastPlaceOf R K 21 [.ref a, .int key, .int (nI d)] [] h n cc sc) (kk1 : (-1 = r) → mT l mX1_lastPlaceOf R K 29 [.ref a, .int key, .int (-1)] [] h n cc sc) : ∀ (N0 : Nat) (d : Nat), d < N0 → (mfl (fun i => decide (xk xs i = key)) d = r) → (d ≤ xs.length) → mT l mX1_lastPlaceOf R K 7 [.ref a, .int key, .int (mpr d)] [] h n cc sc := by
  intro N0
  induction N0 with
  | zero => intro d hm; exact absurd hm (Nat.not_lt_zero _)
  | succ N0 ih =>
    intro d hm hr hi
    obtain ⟨f, g, ea, ek, es, ql, qr, qk, qt⟩ := id H
    rcases d with _ | d
    · show mT _ _ _ _ 7 [.ref a, .int key, .int (-1)] [] _ _ _ _
      refine mt_iload_n dX1_lastPlaceOf_7 rfl ?_
      refine mt_if_lt dX1_lastPlaceOf_8 (tgt := 29) rfl (fun q1 => ?_) (fun q1 => ?_)
      · exact kk1 hr
      · exact (q1 (by decide)).elim
    · rw [mpr_s]
      refine mt_iload_n dX1_lastPlaceOf_7 rfl ?_
      refine mt_if_lt dX1_lastPlaceOf_8 (tgt := 29) rfl (fun q2 => ?_) (fun q2 => ?_)
      · have q2 := (mI_lt0 (by omega)).mp q2
        exact q2.elim
      · have q2 := (not_congr (mI_lt0 (by omega))).mp q2
        refine mt_aload_n dX1_lastPlaceOf_11 rfl rfl ?_
        refine mt_getfield mKX1 (i := 0) (by decide) mw_67 dX1_lastPlaceOf_12 ea rfl ?_
        refine mt_iload_n dX1_lastPlaceOf_15 rfl ?_
        refine mp_iaload dX1_lastPlaceOf_16 ek rfl (by omega) (by omega) (v := xk xs d) (qk _ (by omega)) ?_
        refine mt_iload_n dX1_lastPlaceOf_17 rfl ?_
        refine mt_icmp_ne dX1_lastPlaceOf_18 (tgt := 23) rfl (fun q3 => ?_) (fun q3 => ?_)
        · refine mp_iinc dX1_lastPlaceOf_23 rfl (v := mpr d) mpr_dec (ls' := [.ref a, .int key, .int (mpr d)]) rfl (by decide) rfl ?_
          refine mt_goto dX1_lastPlaceOf_26 (tgt := 7) rfl ?_
          exact ih d (by omega) ((if_neg (by simp [q3])).symm.trans hr) (by omega)
        · exact kk0 d ((if_pos (by simp [q3])).symm.trans hr)
def q_lastPlaceOf (xs : List mIt) (key : Int32) : Int32 := mfl (fun i => decide (xk xs i = key)) xs.length
set_option maxRecDepth 100000 in
set_option maxHeartbeats 2000000 in
theorem kX1_lastPlaceOf {l : Launch} (hl : l.stackTraces = false) {h : mH} {n a room : Nat} {fl : Int32} {xs : List mIt} {key : Int32} (H : rowAt h a room fl xs) : mC l mX1_lastPlaceOf rX1_lastPlaceOf [.ref a, .int key] h n (mRi (q_lastPlaceOf xs key) h n) (mNX) := by
  obtain ⟨f, g, ea, ek, es, ql, qr, qk, qt⟩ := id H
  refine mm_enter hl (by decide +kernel) rfl rfl rfl (Nat.le_of_ble_eq_true rfl) ?_
  show mT _ _ _ _ 0 [.ref a, .int key, .double 0] [] _ _ 0 0
  refine mt_aload_n dX1_lastPlaceOf_0 rfl rfl ?_
  refine mt_getfield mKX1 (i := 3) (by decide) mw_77 dX1_lastPlaceOf_1 ea rfl ?_
  refine mt_iconst dX1_lastPlaceOf_4 (v := nI 1) rfl ?_
  refine mp_isub dX1_lastPlaceOf_5 (v := mpr xs.length) rfl ?_
  refine mp_istore_n dX1_lastPlaceOf_6 (ls' := [.ref a, .int key, .int (mpr xs.length)]) rfl (by decide) rfl ?_
  refine tX1_lastPlaceOf_7 H (fun d_1 z2 => ?_) (fun z3 => ?_) (xs.length + 1) xs.length (Nat.lt_succ_self _) rfl (by omega)
  · refine mt_iload_n dX1_lastPlaceOf_21 rfl ?_
    refine mt_ireturn dX1_lastPlaceOf_22 rfl rfl (Nat.le_of_ble_eq_true rfl) (Nat.le_of_ble_eq_true rfl) ?_
    exact ⟨congrArg (fun x => some (Value.int x)) z2, rfl, rfl⟩
  · refine mt_iconst dX1_lastPlaceOf_29 (v := -1) rfl ?_
    refine mt_ireturn dX1_lastPlaceOf_30 rfl rfl (Nat.le_of_ble_eq_true rfl) (Nat.le_of_ble_eq_true rfl) ?_
    exact ⟨congrArg (fun x => some (Value.int x)) z3, rfl, rfl⟩
abbrev rX1_wrongerByExchange : Room := { frames := 0, cells := 0, slots := 0, locals := 0 }
def q_wrongerByExchange (xs : List mIt) (i : Nat) : Int32 := if xk xs i = xk xs (i + 1) then nI 0 else if xk xs i < xk xs (i + 1) then nI 1 else -1
set_option maxRecDepth 100000 in
set_option maxHeartbeats 2000000 in
theorem kX1_wrongerByExchange {l : Launch} (hl : l.stackTraces = false) {h : mH} {n a room : Nat} {fl : Int32} {xs : List mIt} {i : Nat} (H : rowAt h a room fl xs) (hi : i + 1 < xs.length) : mC l mX1_wrongerByExchange rX1_wrongerByExchange [.ref a, .int (nI i)] h n (mRi (q_wrongerByExchange xs i) h n) (mNX) := by
  obtain ⟨f, g, ea, ek, es, ql, qr, qk, qt⟩ := id H
  refine mm_enter hl (by decide +kernel) rfl rfl rfl (Nat.le_of_ble_eq_true rfl) ?_
  show mT _ _ _ _ 0 [.ref a, .int (nI i)] [] _ _ 0 0
  refine mt_aload_n dX1_wrongerByExchange_0 rfl rfl ?_
  refine mt_getfield mKX1 (i := 0) (by decide) mw_67 dX1_wrongerByExchange_1 ea rfl ?_
  refine mt_iload_n dX1_wrongerByExchange_4 rfl ?_
  refine mp_iaload dX1_wrongerByExchange_5 ek rfl (by omega) (by omega) (v := xk xs i) (qk _ (by omega)) ?_
  refine mt_aload_n dX1_wrongerByExchange_6 rfl rfl ?_
  refine mt_getfield mKX1 (i := 0) (by decide) mw_67 dX1_wrongerByExchange_7 ea rfl ?_
  refine mt_iload_n dX1_wrongerByExchange_10 rfl ?_
  refine mt_iconst dX1_wrongerByExchange_11 (v := nI 1) rfl ?_
  refine mp_iadd dX1_wrongerByExchange_12 (v := nI (i + 1)) (nI_add _ _) ?_
  refine mp_iaload dX1_wrongerByExchange_13 ek rfl (by omega) (by omega) (v := xk xs (i + 1)) (qk _ (by omega)) ?_
  refine mt_icmp_ne dX1_wrongerByExchange_14 (tgt := 19) rfl (fun q1 => ?_) (fun q1 => ?_)
  · refine mt_aload_n dX1_wrongerByExchange_19 rfl rfl ?_
    refine mt_getfield mKX1 (i := 0) (by decide) mw_67 dX1_wrongerByExchange_20 ea rfl ?_
    refine mt_iload_n dX1_wrongerByExchange_23 rfl ?_
    refine mp_iaload dX1_wrongerByExchange_24 ek rfl (by omega) (by omega) (v := xk xs i) (qk _ (by omega)) ?_
    refine mt_aload_n dX1_wrongerByExchange_25 rfl rfl ?_
    refine mt_getfield mKX1 (i := 0) (by decide) mw_67 dX1_wrongerByExchange_26 ea rfl ?_
    refine mt_iload_n dX1_wrongerByExchange_29 rfl ?_
    refine mt_iconst dX1_wrongerByExchange_30 (v := nI 1) rfl ?_
    refine mp_iadd dX1_wrongerByExchange_31 (v := nI (i + 1)) (nI_add _ _) ?_
    refine mp_iaload dX1_wrongerByExchange_32 ek rfl (by omega) (by omega) (v := xk xs (i + 1)) (qk _ (by omega)) ?_
    refine mt_icmp_ge dX1_wrongerByExchange_33 (tgt := 40) rfl (fun q2 => ?_) (fun q2 => ?_)
    · have q2 := Int32.not_lt.mpr q2
      refine mt_iconst dX1_wrongerByExchange_40 (v := -1) rfl ?_
      refine mt_ireturn dX1_wrongerByExchange_41 rfl rfl (Nat.le_of_ble_eq_true rfl) (Nat.le_of_ble_eq_true rfl) ?_
      exact ⟨by simp [q_wrongerByExchange, q1, q2], rfl, rfl⟩
    · have q2 := Int32.not_le.mp q2
      refine mt_iconst dX1_wrongerByExchange_36 (v := nI 1) rfl ?_
      refine mt_goto dX1_wrongerByExchange_37 (tgt := 41) rfl ?_
      refine mt_ireturn dX1_wrongerByExchange_41 rfl rfl (Nat.le_of_ble_eq_true rfl) (Nat.le_of_ble_eq_true rfl) ?_
      exact ⟨by simp [q_wrongerByExchange, q1, q2], rfl, rfl⟩
  · refine mt_iconst dX1_wrongerByExchange_17 (v := nI 0) rfl ?_
    refine mt_ireturn dX1_wrongerByExchange_18 rfl rfl (Nat.le_of_ble_eq_true rfl) (Nat.le_of_ble_eq_true rfl) ?_
    exact ⟨by simp [q_wrongerByExchange, q1], rfl, rfl⟩
abbrev rX1_become : Room := { frames := 1, cells := 0, slots := 0, locals := 26 }
set_option maxRecDepth 100000 in
set_option maxHeartbeats 2000000 in
theorem kX1_become {l : Launch} (hl : l.stackTraces = false) {h : mH} {n a b room room2 : Nat} {fl fl2 : Int32} {xs ys : List mIt} (H : rowAt h a room fl xs) (H2 : rowAt h b room2 fl2 ys) (hab : b + 3 ≤ a ∨ a + 3 ≤ b) (hle : ys.length ≤ room) : mC l mX1_become rX1_become [.ref a, .ref b] h n (mRw a room fl ys h n) (mNX) := by
  obtain ⟨f_1, g_1, ea_1, ek_1, es_1, ql_1, qr_1, qk_1, qt_1⟩ := id H
  obtain ⟨f_2, g_2, ea_2, ek_2, es_2, ql_2, qr_2, qk_2, qt_2⟩ := id H2
  refine mm_enter hl (by decide +kernel) rfl rfl rfl (Nat.le_of_ble_eq_true rfl) ?_
  show mT _ _ _ _ 0 [.ref a, .ref b, .double 0] [] _ _ 0 0
  refine mt_aload_n dX1_become_0 rfl rfl ?_
  refine mt_getfield mKX1 (i := 3) (by decide) mw_77 dX1_become_1 ea_2 rfl ?_
  refine mt_aload_n dX1_become_4 rfl rfl ?_
  refine mt_getfield mKX1 (i := 0) (by decide) mw_67 dX1_become_5 ea_1 rfl ?_
  refine mt_alen dX1_become_8 ek_1 (by decide) ?_
  refine mt_mmin dX1_become_9 mw_151 mw_152 mw_41 (mw_min) (Nat.le_of_ble_eq_true rfl) ⟨Nat.le_of_ble_eq_true rfl, Nat.le_of_ble_eq_true rfl⟩ (Nat.le_of_ble_eq_true rfl) (Nat.le_of_ble_eq_true rfl) (v := nI (min ys.length room)) (mI_min (by omega) (by omega)) ?_
  refine mp_istore_n dX1_become_12 (ls' := [.ref a, .ref b, .int (nI (min ys.length room))]) rfl (by decide) rfl ?_
  refine mt_aload_n dX1_become_13 rfl rfl ?_
  refine mt_getfield mKX1 (i := 0) (by decide) mw_67 dX1_become_14 ea_2 rfl ?_
  refine mt_iconst dX1_become_17 (v := nI 0) rfl ?_
  refine mt_aload_n dX1_become_18 rfl rfl ?_
  refine mt_getfield mKX1 (i := 0) (by decide) mw_67 dX1_become_19 ea_1 rfl ?_
  refine mt_iconst dX1_become_22 (v := nI 0) rfl ?_
  refine mt_iload_n dX1_become_23 rfl ?_
  refine mp_acopy dX1_become_24 mw_154 mw_156 mw_155 mw_42 ek_2 ek_1 rfl rfl rfl (by omega) (by omega) (by omega) (by omega) (Nat.le_of_ble_eq_true rfl) ⟨Nat.le_of_ble_eq_true rfl, Nat.le_of_ble_eq_true rfl⟩ (fun h3 e4 f5 => ?_)
  refine mt_aload_n dX1_become_27 rfl rfl ?_
  refine mt_getfield mKX1 (i := 1) (by decide) mw_70 dX1_become_28 ((f5 (b) (by omega)).trans ea_2) rfl ?_
  refine mt_iconst dX1_become_31 (v := nI 0) rfl ?_
  refine mt_aload_n dX1_become_32 rfl rfl ?_
  refine mt_getfield mKX1 (i := 1) (by decide) mw_70 dX1_become_33 ((f5 (a) (by omega)).trans ea_1) rfl ?_
  refine mt_iconst dX1_become_36 (v := nI 0) rfl ?_
  refine mt_iload_n dX1_become_37 rfl ?_
  refine mp_acopy dX1_become_38 mw_154 mw_156 mw_155 mw_42 ((f5 (b + 2) (by omega)).trans es_2) ((f5 (a + 2) (by omega)).trans es_1) rfl rfl rfl (by omega) (by omega) (by omega) (by omega) (Nat.le_of_ble_eq_true rfl) ⟨Nat.le_of_ble_eq_true rfl, Nat.le_of_ble_eq_true rfl⟩ (fun h6 e7 f8 => ?_)
  refine mt_aload_n dX1_become_41 rfl rfl ?_
  refine mt_iload_n dX1_become_42 rfl ?_
  refine mp_putfield mKX1 (i := 3) (fs' := [.ref (a + 1), .ref (a + 2), .int fl, .int (nI (min ys.length room))]) (by decide) mw_77 rfl dX1_become_43 ((f8 (a) (by omega)).trans ((f5 (a) (by omega)).trans ea_1)) (Nat.le_of_ble_eq_true rfl) rfl rfl (fun h9 e10 f11 => ?_)
  refine mt_return dX1_become_46 rfl (Nat.le_of_ble_eq_true rfl) (Nat.le_of_ble_eq_true rfl) ?_
  exact ⟨rfl, rfl, rowAt.copied (e10) ((f11 (a + 1) (by omega)).trans ((f8 (a + 1) (by omega)).trans e4)) ((f11 (a + 2) (by omega)).trans e7) (Nat.min_eq_left hle) hle qr_1 qk_2 qt_2, fun j hj => (f11 j (by omega)).trans ((f8 j (by omega)).trans (f5 j (by omega)))⟩
abbrev rX1_trade : Room := { frames := 0, cells := 0, slots := 0, locals := 0 }
set_option maxRecDepth 100000 in
set_option maxHeartbeats 2000000 in
theorem kX1_trade {l : Launch} (hl : l.stackTraces = false) {h : mH} {n a room : Nat} {fl : Int32} {xs : List mIt} {i j : Nat} (H : rowAt h a room fl xs) (hi : i < xs.length) (hj : j < xs.length) : mC l mX1_trade rX1_trade [.ref a, .int (nI i), .int (nI j)] h n (mRw a room fl (swp xs i j) h n) (mNX) := by
  obtain ⟨f_1, g_1, ea_1, ek_1, es_1, ql_1, qr_1, qk_1, qt_1⟩ := id H
  refine mm_enter hl (by decide +kernel) rfl rfl rfl (Nat.le_of_ble_eq_true rfl) ?_
  show mT _ _ _ _ 0 [.ref a, .int (nI i), .int (nI j), .double 0, .double 0] [] _ _ 0 0
  refine mt_aload_n dX1_trade_0 rfl rfl ?_
  refine mt_getfield mKX1 (i := 0) (by decide) mw_67 dX1_trade_1 ea_1 rfl ?_
  refine mt_iload_n dX1_trade_4 rfl ?_
  refine mp_iaload dX1_trade_5 ek_1 rfl (by omega) (by omega) (v := xk xs i) (qk_1 _ (by omega)) ?_
  refine mp_istore_n dX1_trade_6 (ls' := [.ref a, .int (nI i), .int (nI j), .int (xk xs i), .double 0]) rfl (by decide) rfl ?_
  refine mt_aload_n dX1_trade_7 rfl rfl ?_
  refine mt_getfield mKX1 (i := 1) (by decide) mw_70 dX1_trade_8 ea_1 rfl ?_
  refine mt_iload_n dX1_trade_11 rfl ?_
  refine mp_iaload dX1_trade_12 es_1 rfl (by omega) (by omega) (v := xt xs i) (qt_1 _ (by omega)) ?_
  refine mp_istore dX1_trade_13 (ls' := [.ref a, .int (nI i), .int (nI j), .int (xk xs i), .int (xt xs i)]) rfl (by decide) rfl ?_
  refine mt_aload_n dX1_trade_15 rfl rfl ?_
  refine mt_getfield mKX1 (i := 0) (by decide) mw_67 dX1_trade_16 ea_1 rfl ?_
  refine mt_iload_n dX1_trade_19 rfl ?_
  refine mt_aload_n dX1_trade_20 rfl rfl ?_
  refine mt_getfield mKX1 (i := 0) (by decide) mw_67 dX1_trade_21 ea_1 rfl ?_
  refine mt_iload_n dX1_trade_24 rfl ?_
  refine mp_iaload dX1_trade_25 ek_1 rfl (by omega) (by omega) (v := xk xs j) (qk_1 _ (by omega)) ?_
  refine mp_iastore dX1_trade_26 ek_1 rfl (by omega) (by omega) (fun h2 e3 f4 => ?_)
  refine mt_aload_n dX1_trade_27 rfl rfl ?_
  refine mt_getfield mKX1 (i := 1) (by decide) mw_70 dX1_trade_28 ((f4 (a) (by omega)).trans ea_1) rfl ?_
  refine mt_iload_n dX1_trade_31 rfl ?_
  refine mt_aload_n dX1_trade_32 rfl rfl ?_
  refine mt_getfield mKX1 (i := 1) (by decide) mw_70 dX1_trade_33 ((f4 (a) (by omega)).trans ea_1) rfl ?_
  refine mt_iload_n dX1_trade_36 rfl ?_
  refine mp_iaload dX1_trade_37 ((f4 (a + 2) (by omega)).trans es_1) rfl (by omega) (by omega) (v := xt xs j) (qt_1 _ (by omega)) ?_
  refine mp_iastore dX1_trade_38 ((f4 (a + 2) (by omega)).trans es_1) rfl (by omega) (by omega) (fun h5 e6 f7 => ?_)
  refine mt_aload_n dX1_trade_39 rfl rfl ?_
  refine mt_getfield mKX1 (i := 0) (by decide) mw_67 dX1_trade_40 ((f7 (a) (by omega)).trans ((f4 (a) (by omega)).trans ea_1)) rfl ?_
  refine mt_iload_n dX1_trade_43 rfl ?_
  refine mt_iload_n dX1_trade_44 rfl ?_
  refine mp_iastore dX1_trade_45 ((f7 (a + 1) (by omega)).trans e3) rfl (by omega) (by omega) (fun h8 e9 f10 => ?_)
  refine mt_aload_n dX1_trade_46 rfl rfl ?_
  refine mt_getfield mKX1 (i := 1) (by decide) mw_70 dX1_trade_47 ((f10 (a) (by omega)).trans ((f7 (a) (by omega)).trans ((f4 (a) (by omega)).trans ea_1))) rfl ?_
  refine mt_iload_n dX1_trade_50 rfl ?_
  refine mt_iload dX1_trade_51 rfl ?_
  refine mp_iastore dX1_trade_53 ((f10 (a + 2) (by omega)).trans e6) rfl (by omega) (by omega) (fun h11 e12 f13 => ?_)
  refine mt_return dX1_trade_54 rfl (Nat.le_of_ble_eq_true rfl) (Nat.le_of_ble_eq_true rfl) ?_
  exact ⟨rfl, rfl, rowAt_swp ((f13 (a) (by omega)).trans ((f10 (a) (by omega)).trans ((f7 (a) (by omega)).trans ((f4 (a) (by omega)).trans ea_1)))) ((f13 (a + 1) (by omega)).trans e9) (e12) hi hj ql_1 qr_1 qk_1 qt_1, fun j hj => (f13 j (by omega)).trans ((f10 j (by omega)).trans ((f7 j (by omega)).trans (f4 j (by omega))))⟩
abbrev rX1_init : Room := { frames := 1, cells := 2, slots := 2 * 320, locals := 20 }
set_option maxRecDepth 100000 in
set_option maxHeartbeats 2000000 in
theorem kX1_init {l : Launch} (hl : l.stackTraces = false) {h : mH} {a room : Nat} {fl : Int32} (H : h a = .inr (.inr (3, [.null, .null, .int (nI 0), .int (nI 0)]))) (hr : room ≤ 320) (hfl : mfit .boolean (.int fl) = true) : mC l mX1_init rX1_init [.ref a, .int (nI room), .int fl] h (a + 1) (fun v h' n' => v = none ∧ n' = a + 3 ∧ rowAt h' a room fl [] ∧ ∀ j, j < a → h' j = h j) (mNX) := by
  refine mm_enter hl (by decide +kernel) rfl rfl rfl (Nat.le_of_ble_eq_true rfl) ?_
  show mT _ _ _ _ 0 [.ref a, .int (nI room), .int fl] [] _ _ 0 0
  refine mt_aload_n dX1_init_0 rfl rfl ?_
  refine mt_objInit dX1_init_1 mw_66 mw_58 mw_59 (Nat.le_of_ble_eq_true rfl) ⟨Nat.le_of_ble_eq_true rfl, Nat.le_of_ble_eq_true rfl⟩ ?_
  refine mt_aload_n dX1_init_4 rfl rfl ?_
  refine mt_iload_n dX1_init_5 rfl ?_
  refine mp_newarray dX1_init_6 mw_87 rfl (by omega) (by simp only [rX1_init]; omega) (by simp only [rX1_init]; omega) (fun h1 e2 f3 => ?_)
  refine mp_putfinal mKX1 (i := 0) (fs' := [.ref (a + 1), .null, .int (nI 0), .int (nI 0)]) (by decide) mw_67 rfl rfl rfl dX1_init_8 ((f3 (a) (by omega)).trans H) (Nat.le_of_ble_eq_true rfl) rfl rfl (fun h4 e5 f6 => ?_)
  refine mt_aload_n dX1_init_11 rfl rfl ?_
  refine mt_iload_n dX1_init_12 rfl ?_
  refine mp_newarray dX1_init_13 mw_87 rfl (by omega) (by simp only [rX1_init]; omega) (by simp only [rX1_init]; omega) (fun h7 e8 f9 => ?_)
  refine mp_putfinal mKX1 (i := 1) (fs' := [.ref (a + 1), .ref (a + 2), .int (nI 0), .int (nI 0)]) (by decide) mw_70 rfl rfl rfl dX1_init_15 ((f9 (a) (by omega)).trans e5) (Nat.le_of_ble_eq_true rfl) rfl rfl (fun h10 e11 f12 => ?_)
  refine mt_aload_n dX1_init_18 rfl rfl ?_
  refine mt_iload_n dX1_init_19 rfl ?_
  refine mp_putfinal mKX1 (i := 2) (fs' := [.ref (a + 1), .ref (a + 2), .int fl, .int (nI 0)]) (by decide) mw_73 rfl rfl rfl dX1_init_20 e11 (Nat.le_of_ble_eq_true rfl) rfl hfl (fun h13 e14 f15 => ?_)
  refine mt_return dX1_init_23 rfl (by simp only [rX1_init]; omega) (by simp only [rX1_init]; omega) ?_
  exact ⟨rfl, rfl, ⟨_, _, e14, ((f15 (a + 1) (by omega)).trans ((f12 (a + 1) (by omega)).trans ((f9 (a + 1) (by omega)).trans ((f6 (a + 1) (by omega)).trans e2)))), ((f15 (a + 2) (by omega)).trans ((f12 (a + 2) (by omega)).trans e8)), Nat.zero_le _, hr, fun i hi => absurd hi (Nat.not_lt_zero _), fun i hi => absurd hi (Nat.not_lt_zero _)⟩, fun j hj => (f15 j (by omega)).trans ((f12 j (by omega)).trans ((f9 j (by omega)).trans ((f6 j (by omega)).trans (f3 j (by omega)))))⟩
abbrev rX1_appendSpan : Room := { frames := 1, cells := 0, slots := 0, locals := 22 }
set_option maxRecDepth 100000 in
set_option maxHeartbeats 2000000 in
theorem tX1_appendSpan_3 {l : Launch} {K : mK} {n a b room room2 s e : Nat} {fl fl2 : Int32} {ys r : List mIt} {h0 : mH} (hl : l.stackTraces = false) (hab : b + 3 ≤ a ∨ a + 3 ≤ b) (he : e ≤ ys.length) (kk0 : ∀ (i : Nat) (h : mH), (rowAt h a room fl r) → (∀ j, (j < a ∨ a + 3 ≤ j) → h j = h0 j) → mT l mX1_appendSpan rX1_appendSpan K 33 [.ref a, .ref b, .int (nI s), .int (nI e), .int (nI i)] [] h n 0 0) : ∀ (N0 : Nat) (i : Nat) (h : mH) (xs : List mIt), (e - i) < N0 → (rowAt h a room fl xs) → (rowAt h b room2 fl2 ys) → (∀ j, (j < a ∨ a + 3 ≤ j) → h j = h0 j) → (xs ++ span ys i e = r) → (xs.length + (e - i) ≤ room) → (i ≤ e) → mT l mX1_appendSpan rX1_appendSpan K 3 [.ref a, .ref b, .int (nI s), .int (nI e), .int (nI i)] [] h n 0 0 := by
  intro N0
  induction N0 with
  | zero => intro i h xs hm; exact absurd hm (Nat.not_lt_zero _)
  | succ N0 ih =>
    intro i h xs hm H H2 hfr hxs hro hi
    obtain ⟨f_1, g_1, ea_1, ek_1, es_1, ql_1, qr_1, qk_1, qt_1⟩ := id H
    obtain ⟨f_2, g_2, ea_2, ek_2, es_2, ql_2, qr_2, qk_2, qt_2⟩ := id H2
    refine mt_iload dX1_appendSpan_3 rfl ?_
    refine mt_iload_n dX1_appendSpan_5 rfl ?_
    refine mt_icmp_ge dX1_appendSpan_6 (tgt := 33) rfl (fun q3 => ?_) (fun q3 => ?_)
    · have q3 := Int32.not_lt.mpr q3
      have q3 := (not_congr (nI_ltI (by omega) (by omega))).mp q3
      exact kk0 i h (((span_end (by omega)).symm.trans hxs) ▸ H) hfr
    · have q3 := Int32.not_le.mp q3
      have q3 := (nI_ltI (by omega) (by omega)).mp q3
      refine mt_aload_n dX1_appendSpan_9 rfl rfl ?_
      refine mt_aload_n dX1_appendSpan_10 rfl rfl ?_
      refine mt_getfield mKX1 (i := 0) (by decide) mw_67 dX1_appendSpan_11 ea_2 rfl ?_
      refine mt_iload dX1_appendSpan_14 rfl ?_
      refine mp_iaload dX1_appendSpan_16 ek_2 rfl (by omega) (by omega) (v := xk ys i) (qk_2 _ (by omega)) ?_
      refine mt_aload_n dX1_appendSpan_17 rfl rfl ?_
      refine mt_getfield mKX1 (i := 1) (by decide) mw_70 dX1_appendSpan_18 ea_2 rfl ?_
      refine mt_iload dX1_appendSpan_21 rfl ?_
      refine mp_iaload dX1_appendSpan_23 es_2 rfl (by omega) (by omega) (v := xt ys i) (qt_2 _ (by omega)) ?_
      refine mt_callV (N := mX1_append) (Rc := rX1_append) (As := [.int (xk ys i), .int (xt ys i)]) (st := []) dX1_appendSpan_24 (kX1_append hl H (by first | omega | assumption | (simp only [List.length_append, List.length_cons, List.length_nil]; omega))) sX1_append mw_177 mKX1 rfl ea_1 rfl (Nat.le_of_ble_eq_true rfl) ⟨⟨Nat.le_of_ble_eq_true rfl, Nat.le_of_ble_eq_true rfl⟩, Nat.le_of_ble_eq_true rfl, Nat.le_of_ble_eq_true rfl⟩ (fun v4 h5 n6 c7 => ?_) (fun _ _ _ hx => hx.elim)
      obtain ⟨c7a, c7b, c7c, c7d⟩ := c7
      rw [c7a, c7b]
      show mT _ _ _ _ 27 [.ref a, .ref b, .int (nI s), .int (nI e), .int (nI i)] [] _ _ _ _
      refine mp_iinc dX1_appendSpan_27 rfl (v := nI (i + 1)) mI_inc (ls' := [.ref a, .ref b, .int (nI s), .int (nI e), .int (nI (i + 1))]) rfl (by decide) rfl ?_
      refine mt_goto dX1_appendSpan_30 (tgt := 3) rfl ?_
      have H8 : rowAt h5 b room2 fl2 ys := (H2).fr (fun j j1 j2 => c7d j (by omega))
      exact ih (i + 1) h5 (xs ++ [(xk ys i, xt ys i)]) (by omega) c7c H8 (fun j hj => (c7d j (by omega)).trans (hfr j hj)) ((span_go (by omega) he).trans hxs) (by rw [List.length_append]; simp only [List.length_cons, List.length_nil]; omega) (by omega)
set_option maxRecDepth 100000 in
set_option maxHeartbeats 2000000 in
theorem kX1_appendSpan {l : Launch} (hl : l.stackTraces = false) {h : mH} {n a b room room2 : Nat} {fl fl2 : Int32} {xs ys : List mIt} {i e : Nat} (H : rowAt h a room fl xs) (H2 : rowAt h b room2 fl2 ys) (hab : b + 3 ≤ a ∨ a + 3 ≤ b) (he : e ≤ ys.length) (hro : xs.length + (e - i) ≤ room) (hi : i ≤ e) : mC l mX1_appendSpan rX1_appendSpan [.ref a, .ref b, .int (nI i), .int (nI e)] h n (mRw a room fl (xs ++ span ys i e) h n) (mNX) := by
  obtain ⟨f_1, g_1, ea_1, ek_1, es_1, ql_1, qr_1, qk_1, qt_1⟩ := id H
  obtain ⟨f_2, g_2, ea_2, ek_2, es_2, ql_2, qr_2, qk_2, qt_2⟩ := id H2
  refine mm_enter hl (by decide +kernel) rfl rfl rfl (Nat.le_of_ble_eq_true rfl) ?_
  show mT _ _ _ _ 0 [.ref a, .ref b, .int (nI i), .int (nI e), .double 0] [] _ _ 0 0
  refine mt_iload_n dX1_appendSpan_0 rfl ?_
  refine mp_istore dX1_appendSpan_1 (ls' := [.ref a, .ref b, .int (nI i), .int (nI e), .int (nI i)]) rfl (by decide) rfl ?_
  refine tX1_appendSpan_3 hl hab he (fun i_3 h_4 z5 z6 => ?_) (e - i + 1) i h xs (Nat.lt_succ_self _) H H2 (fun _ _ => rfl) rfl hro hi
  refine mt_return dX1_appendSpan_33 rfl (Nat.le_of_ble_eq_true rfl) (Nat.le_of_ble_eq_true rfl) ?_
  exact ⟨rfl, rfl, z5, z6⟩
