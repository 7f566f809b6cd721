/-! ===== the class Row ===== -/
abbrev rX1_itemsWith : Room := { frames := 0, cells := 0, slots := 0, locals := 0 }
set_option maxRecDepth 100000 in
set_option maxHeartbeats 2000000 in
theorem tX1_itemsWith_4 {l : Launch} {R : Room} {K : mK} {cc sc : Nat} {h : mH} {n a room : Nat} {fl : Int32} {xs : List mIt} {key : Int32} {r : Int32}  (H : rowAt h a room fl xs) (kk0 : ∀ (acc : Int32) (i : Nat), (acc = r) → mT l mX1_itemsWith R K 31 [.ref a, .int key, .int acc, .int (nI i)] [] h n cc sc) : ∀ (N0 : Nat) (i : Nat) (acc : Int32), (xs.length - i) < N0 → (mlp (fun i acc => if xk xs i = key then acc + 1 else acc) (xs.length - i) i acc = r) → (i ≤ xs.length + 1) → mT l mX1_itemsWith R K 4 [.ref a, .int key, .int acc, .int (nI i)] [] h n cc sc := by
  intro N0
  induction N0 with
  | zero => intro i acc hm; exact absurd hm (Nat.not_lt_zero _)
  | succ N0 ih =>
    intro i acc hm hr hi
    obtain ⟨f, g, ea, ek, es, ql, qr, qk, qt⟩ := id H
    refine mt_iload_n dX1_itemsWith_4 rfl ?_
    refine mt_aload_n dX1_itemsWith_5 rfl rfl ?_
    refine mt_getfield mKX1 (i := 3) (by decide) mw_77 dX1_itemsWith_6 ea rfl ?_
    refine mt_icmp_ge dX1_itemsWith_9 (tgt := 31) rfl (fun q1 => ?_) (fun q1 => ?_)
    · have q1 := Int32.not_lt.mpr q1
      have q1 := (not_congr (nI_ltI (by omega) (by omega))).mp q1
      exact kk0 acc i ((mlp_end (by omega)).symm.trans hr)
    · have q1 := Int32.not_le.mp q1
      have q1 := (nI_ltI (by omega) (by omega)).mp q1
      refine mt_aload_n dX1_itemsWith_12 rfl rfl ?_
      refine mt_getfield mKX1 (i := 0) (by decide) mw_67 dX1_itemsWith_13 ea rfl ?_
      refine mt_iload_n dX1_itemsWith_16 rfl ?_
      refine mp_iaload dX1_itemsWith_17 ek rfl (by omega) (by omega) (v := xk xs i) (qk _ (by omega)) ?_
      refine mt_iload_n dX1_itemsWith_18 rfl ?_
      refine mt_icmp_ne dX1_itemsWith_19 (tgt := 25) rfl (fun q2 => ?_) (fun q2 => ?_)
      · refine mp_iinc dX1_itemsWith_25 rfl (v := nI (i + 1)) mI_inc (ls' := [.ref a, .int key, .int acc, .int (nI (i + 1))]) rfl (by decide) rfl ?_
        refine mt_goto dX1_itemsWith_28 (tgt := 4) rfl ?_
        exact ih (i + 1) acc (by omega) ((mlp_go (by omega) (by simp [q1, q2, nI_0, mI_one] <;> rfl)).symm.trans hr) (by omega)
      · refine mp_iinc dX1_itemsWith_22 rfl (v := acc + 1) rfl (ls' := [.ref a, .int key, .int (acc + 1), .int (nI i)]) rfl (by decide) rfl ?_
        refine mp_iinc dX1_itemsWith_25 rfl (v := nI (i + 1)) mI_inc (ls' := [.ref a, .int key, .int (acc + 1), .int (nI (i + 1))]) rfl (by decide) rfl ?_
        refine mt_goto dX1_itemsWith_28 (tgt := 4) rfl ?_
        exact ih (i + 1) (acc + 1) (by omega) ((mlp_go (by omega) (by simp [q1, q2, nI_0, mI_one] <;> rfl)).symm.trans hr) (by omega)
def q_itemsWith (xs : List mIt) (key : Int32) : Int32 := mlp (fun i acc => if xk xs i = key then acc + 1 else acc) (xs.length - 0) 0 (nI 0)
set_option maxRecDepth 100000 in
set_option maxHeartbeats 2000000 in
theorem kX1_itemsWith {l : Launch} (hl : l.stackTraces = false) {h : mH} {n a room : Nat} {fl : Int32} {xs : List mIt} {key : Int32} (H : rowAt h a room fl xs) : mC l mX1_itemsWith rX1_itemsWith [.ref a, .int key] h n (mRi (q_itemsWith xs key) h n) (mNX) := by
  obtain ⟨f, g, ea, ek, es, ql, qr, qk, qt⟩ := id H
  refine mm_enter hl (by decide +kernel) rfl rfl rfl (Nat.le_of_ble_eq_true rfl) ?_
  show mT _ _ _ _ 0 [.ref a, .int key, .double 0, .double 0] [] _ _ 0 0
  refine mt_iconst dX1_itemsWith_0 (v := nI 0) rfl ?_
  refine mp_istore_n dX1_itemsWith_1 (ls' := [.ref a, .int key, .int (nI 0), .double 0]) rfl (by decide) rfl ?_
  refine mt_iconst dX1_itemsWith_2 (v := nI 0) rfl ?_
  refine mp_istore_n dX1_itemsWith_3 (ls' := [.ref a, .int key, .int (nI 0), .int (nI 0)]) rfl (by decide) rfl ?_
  refine tX1_itemsWith_4 H (fun acc_1 i_2 z3 => ?_) (xs.length - 0 + 1) 0 (nI 0) (Nat.lt_succ_self _) rfl (by omega)
  refine mt_iload_n dX1_itemsWith_31 rfl ?_
  refine mt_ireturn dX1_itemsWith_32 rfl rfl (Nat.le_of_ble_eq_true rfl) (Nat.le_of_ble_eq_true rfl) ?_
  exact ⟨congrArg (fun x => some (Value.int x)) z3, rfl, rfl⟩
abbrev rX1_itemsBelow : Room := { frames := 0, cells := 0, slots := 0, locals := 0 }
set_option maxRecDepth 100000 in
set_option maxHeartbeats 2000000 in
theorem tX1_itemsBelow_4 {l : Launch} {R : Room} {K : mK} {cc sc : Nat} {h : mH} {n a room : Nat} {fl : Int32} {xs : List mIt} {key : Int32} {r : Int32}  (H : rowAt h a room fl xs) (kk0 : ∀ (acc : Int32) (i : Nat), (acc = r) → mT l mX1_itemsBelow R K 31 [.ref a, .int key, .int acc, .int (nI i)] [] h n cc sc) : ∀ (N0 : Nat) (i : Nat) (acc : Int32), (xs.length - i) < N0 → (mlp (fun i acc => if xk xs i < key then acc + 1 else acc) (xs.length - i) i acc = r) → (i ≤ xs.length + 1) → mT l mX1_itemsBelow R K 4 [.ref a, .int key, .int acc, .int (nI i)] [] h n cc sc := by
  intro N0
  induction N0 with
  | zero => intro i acc hm; exact absurd hm (Nat.not_lt_zero _)
  | succ N0 ih =>
    intro i acc hm hr hi
    obtain ⟨f, g, ea, ek, es, ql, qr, qk, qt⟩ := id H
    refine mt_iload_n dX1_itemsBelow_4 rfl ?_
    refine mt_aload_n dX1_itemsBelow_5 rfl rfl ?_
    refine mt_getfield mKX1 (i := 3) (by decide) mw_77 dX1_itemsBelow_6 ea rfl ?_
    refine mt_icmp_ge dX1_itemsBelow_9 (tgt := 31) rfl (fun q1 => ?_) (fun q1 => ?_)
    · have q1 := Int32.not_lt.mpr q1
      have q1 := (not_congr (nI_ltI (by omega) (by omega))).mp q1
      exact kk0 acc i ((mlp_end (by omega)).symm.trans hr)
    · have q1 := Int32.not_le.mp q1
      have q1 := (nI_ltI (by omega) (by omega)).mp q1
      refine mt_aload_n dX1_itemsBelow_12 rfl rfl ?_
      refine mt_getfield mKX1 (i := 0) (by decide) mw_67 dX1_itemsBelow_13 ea rfl ?_
      refine mt_iload_n dX1_itemsBelow_16 rfl ?_
      refine mp_iaload dX1_itemsBelow_17 ek rfl (by omega) (by omega) (v := xk xs i) (qk _ (by omega)) ?_
      refine mt_iload_n dX1_itemsBelow_18 rfl ?_
      refine mt_icmp_ge dX1_itemsBelow_19 (tgt := 25) rfl (fun q2 => ?_) (fun q2 => ?_)
      · have q2 := Int32.not_lt.mpr q2
        refine mp_iinc dX1_itemsBelow_25 rfl (v := nI (i + 1)) mI_inc (ls' := [.ref a, .int key, .int acc, .int (nI (i + 1))]) rfl (by decide) rfl ?_
        refine mt_goto dX1_itemsBelow_28 (tgt := 4) rfl ?_
        exact ih (i + 1) acc (by omega) ((mlp_go (by omega) (by simp [q1, q2, nI_0, mI_one] <;> rfl)).symm.trans hr) (by omega)
      · have q2 := Int32.not_le.mp q2
        refine mp_iinc dX1_itemsBelow_22 rfl (v := acc + 1) rfl (ls' := [.ref a, .int key, .int (acc + 1), .int (nI i)]) rfl (by decide) rfl ?_
        refine mp_iinc dX1_itemsBelow_25 rfl (v := nI (i + 1)) mI_inc (ls' := [.ref a, .int key, .int (acc + 1), .int (nI (i + 1))]) rfl (by decide) rfl ?_
        refine mt_goto dX1_itemsBelow_28 (tgt := 4) rfl ?_
        exact ih (i + 1) (acc + 1) (by omega) ((mlp_go (by omega) (by simp [q1, q2, nI_0, mI_one] <;> rfl)).symm.trans hr) (by omega)
def q_itemsBelow (xs : List mIt) (key : Int32) : Int32 := mlp (fun i acc => if xk xs i < key then acc + 1 else acc) (xs.length - 0) 0 (nI 0)
set_option maxRecDepth 100000 in
set_option maxHeartbeats 2000000 in
theorem kX1_itemsBelow {l : Launch} (hl : l.stackTraces = false) {h : mH} {n a room : Nat} {fl : Int32} {xs : List mIt} {key : Int32} (H : rowAt h a room fl xs) : mC l mX1_itemsBelow rX1_itemsBelow [.ref a, .int key] h n (mRi (q_itemsBelow xs key) h n) (mNX) := by
  obtain ⟨f, g, ea, ek, es, ql, qr, qk, qt⟩ := id H
  refine mm_enter hl (by decide +kernel) rfl rfl rfl (Nat.le_of_ble_eq_true rfl) ?_
  show mT _ _ _ _ 0 [.ref a, .int key, .double 0, .double 0] [] _ _ 0 0
  refine mt_iconst dX1_itemsBelow_0 (v := nI 0) rfl ?_
  refine mp_istore_n dX1_itemsBelow_1 (ls' := [.ref a, .int key, .int (nI 0), .double 0]) rfl (by decide) rfl ?_
  refine mt_iconst dX1_itemsBelow_2 (v := nI 0) rfl ?_
  refine mp_istore_n dX1_itemsBelow_3 (ls' := [.ref a, .int key, .int (nI 0), .int (nI 0)]) rfl (by decide) rfl ?_
  refine tX1_itemsBelow_4 H (fun acc_1 i_2 z3 => ?_) (xs.length - 0 + 1) 0 (nI 0) (Nat.lt_succ_self _) rfl (by omega)
  refine mt_iload_n dX1_itemsBelow_31 rfl ?_
  refine mt_ireturn dX1_itemsBelow_32 rfl rfl (Nat.le_of_ble_eq_true rfl) (Nat.le_of_ble_eq_true rfl) ?_
  exact ⟨congrArg (fun x => some (Value.int x)) z3, rfl, rfl⟩
abbrev rX1_keysTogether : Room := { frames := 0, cells := 0, slots := 0, locals := 0 }
set_option maxRecDepth 100000 in
set_option maxHeartbeats 2000000 in
theorem tX1_keysTogether_4 {l : Launch} {R : Room} {K : mK} {cc sc : Nat} {h : mH} {n a room : Nat} {fl : Int32} {xs : List mIt} {r : Int32}  (H : rowAt h a room fl xs) (kk0 : ∀ (acc : Int32) (i : Nat), (acc = r) → mT l mX1_keysTogether R K 27 [.ref a, .int acc, .int (nI i)] [] h n cc sc) : ∀ (N0 : Nat) (i : Nat) (acc : Int32), (xs.length - i) < N0 → (mlp (fun i acc => acc + xk xs i) (xs.length - i) i acc = r) → (i ≤ xs.length + 1) → mT l mX1_keysTogether R K 4 [.ref a, .int acc, .int (nI i)] [] h n cc sc := by
  intro N0
  induction N0 with
  | zero => intro i acc hm; exact absurd hm (Nat.not_lt_zero _)
  | succ N0 ih =>
    intro i acc hm hr hi
    obtain ⟨f, g, ea, ek, es, ql, qr, qk, qt⟩ := id H
    refine mt_iload_n dX1_keysTogether_4 rfl ?_
    refine mt_aload_n dX1_keysTogether_5 rfl rfl ?_
    refine mt_getfield mKX1 (i := 3) (by decide) mw_77 dX1_keysTogether_6 ea rfl ?_
    refine mt_icmp_ge dX1_keysTogether_9 (tgt := 27) rfl (fun q1 => ?_) (fun q1 => ?_)
    · have q1 := Int32.not_lt.mpr q1
      have q1 := (not_congr (nI_ltI (by omega) (by omega))).mp q1
      exact kk0 acc i ((mlp_end (by omega)).symm.trans hr)
    · have q1 := Int32.not_le.mp q1
      have q1 := (nI_ltI (by omega) (by omega)).mp q1
      refine mt_iload_n dX1_keysTogether_12 rfl ?_
      refine mt_aload_n dX1_keysTogether_13 rfl rfl ?_
      refine mt_getfield mKX1 (i := 0) (by decide) mw_67 dX1_keysTogether_14 ea rfl ?_
      refine mt_iload_n dX1_keysTogether_17 rfl ?_
      refine mp_iaload dX1_keysTogether_18 ek rfl (by omega) (by omega) (v := xk xs i) (qk _ (by omega)) ?_
      refine mp_iadd dX1_keysTogether_19 (v := acc + (xk xs i)) rfl ?_
      refine mp_istore_n dX1_keysTogether_20 (ls' := [.ref a, .int (acc + (xk xs i)), .int (nI i)]) rfl (by decide) rfl ?_
      refine mp_iinc dX1_keysTogether_21 rfl (v := nI (i + 1)) mI_inc (ls' := [.ref a, .int (acc + (xk xs i)), .int (nI (i + 1))]) rfl (by decide) rfl ?_
      refine mt_goto dX1_keysTogether_24 (tgt := 4) rfl ?_
      exact ih (i + 1) (acc + (xk xs i)) (by omega) ((mlp_go (by omega) (by simp [q1, nI_0, mI_one] <;> rfl)).symm.trans hr) (by omega)
def q_keysTogether (xs : List mIt) : Int32 := mlp (fun i acc => acc + xk xs i) (xs.length - 0) 0 (nI 0)
set_option maxRecDepth 100000 in
set_option maxHeartbeats 2000000 in
theorem kX1_keysTogether {l : Launch} (hl : l.stackTraces = false) {h : mH} {n a room : Nat} {fl : Int32} {xs : List mIt} (H : rowAt h a room fl xs) : mC l mX1_keysTogether rX1_keysTogether [.ref a] h n (mRi (q_keysTogether xs) h n) (mNX) := by
  obtain ⟨f, g, ea, ek, es, ql, qr, qk, qt⟩ := id H
  refine mm_enter hl (by decide +kernel) rfl rfl rfl (Nat.le_of_ble_eq_true rfl) ?_
  show mT _ _ _ _ 0 [.ref a, .double 0, .double 0] [] _ _ 0 0
  refine mt_iconst dX1_keysTogether_0 (v := nI 0) rfl ?_
  refine mp_istore_n dX1_keysTogether_1 (ls' := [.ref a, .int (nI 0), .double 0]) rfl (by decide) rfl ?_
  refine mt_iconst dX1_keysTogether_2 (v := nI 0) rfl ?_
  refine mp_istore_n dX1_keysTogether_3 (ls' := [.ref a, .int (nI 0), .int (nI 0)]) rfl (by decide) rfl ?_
  refine tX1_keysTogether_4 H (fun acc_1 i_2 z3 => ?_) (xs.length - 0 + 1) 0 (nI 0) (Nat.lt_succ_self _) rfl (by omega)
  refine mt_iload_n dX1_keysTogether_27 rfl ?_
  refine mt_ireturn dX1_keysTogether_28 rfl rfl (Nat.le_of_ble_eq_true rfl) (Nat.le_of_ble_eq_true rfl) ?_
  exact ⟨congrArg (fun x => some (Value.int x)) z3, rfl, rfl⟩
abbrev rX1_runsInAll : Room := { frames := 0, cells := 0, slots := 0, locals := 0 }
set_option maxRecDepth 100000 in
set_option maxHeartbeats 2000000 in
theorem tX1_runsInAll_4 {l : Launch} {R : Room} {K : mK} {cc sc : Nat} {h : mH} {n a room : Nat} {fl : Int32} {xs : List mIt} {r : Int32}  (H : rowAt h a room fl xs) (kk0 : ∀ (acc : Int32) (i : Nat), (acc = r) → mT l mX1_runsInAll R K 42 [.ref a, .int acc, .int (nI i)] [] h n cc sc) : ∀ (N0 : Nat) (i : Nat) (acc : Int32), (xs.length - i) < N0 → (mlp (fun i acc => if i = 0 ∨ xk xs i < xk xs (i - 1) then acc + 1 else acc) (xs.length - i) i acc = r) → (i ≤ xs.length + 1) → mT l mX1_runsInAll R K 4 [.ref a, .int acc, .int (nI i)] [] h n cc sc := by
  intro N0
  induction N0 with
  | zero => intro i acc hm; exact absurd hm (Nat.not_lt_zero _)
  | succ N0 ih =>
    intro i acc hm hr hi
    obtain ⟨f, g, ea, ek, es, ql, qr, qk, qt⟩ := id H
    refine mt_iload_n dX1_runsInAll_4 rfl ?_
    refine mt_aload_n dX1_runsInAll_5 rfl rfl ?_
    refine mt_getfield mKX1 (i := 3) (by decide) mw_77 dX1_runsInAll_6 ea rfl ?_
    refine mt_icmp_ge dX1_runsInAll_9 (tgt := 42) rfl (fun q1 => ?_) (fun q1 => ?_)
    · have q1 := Int32.not_lt.mpr q1
      have q1 := (not_congr (nI_ltI (by omega) (by omega))).mp q1
      exact kk0 acc i ((mlp_end (by omega)).symm.trans hr)
    · have q1 := Int32.not_le.mp q1
      have q1 := (nI_ltI (by omega) (by omega)).mp q1
      refine mt_iload_n dX1_runsInAll_12 rfl ?_
      refine mt_if_eq dX1_runsInAll_13 (tgt := 33) rfl (fun q2 => ?_) (fun q2 => ?_)
      · have q2 := (mI_eq0 (by omega)).mp q2
        refine mp_iinc dX1_runsInAll_33 rfl (v := acc + 1) rfl (ls' := [.ref a, .int (acc + 1), .int (nI i)]) rfl (by decide) rfl ?_
        refine mp_iinc dX1_runsInAll_36 rfl (v := nI (i + 1)) mI_inc (ls' := [.ref a, .int (acc + 1), .int (nI (i + 1))]) rfl (by decide) rfl ?_
        refine mt_goto dX1_runsInAll_39 (tgt := 4) rfl ?_
        exact ih (i + 1) (acc + 1) (by omega) ((mlp_go (by omega) (by simp [q1, q2, nI_0, mI_one] <;> rfl)).symm.trans hr) (by omega)
      · have q2 := (not_congr (mI_eq0 (by omega))).mp q2
        refine mt_aload_n dX1_runsInAll_16 rfl rfl ?_
        refine mt_getfield mKX1 (i := 0) (by decide) mw_67 dX1_runsInAll_17 ea rfl ?_
        refine mt_iload_n dX1_runsInAll_20 rfl ?_
        refine mp_iaload dX1_runsInAll_21 ek rfl (by omega) (by omega) (v := xk xs i) (qk _ (by omega)) ?_
        refine mt_aload_n dX1_runsInAll_22 rfl rfl ?_
        refine mt_getfield mKX1 (i := 0) (by decide) mw_67 dX1_runsInAll_23 ea rfl ?_
        refine mt_iload_n dX1_runsInAll_26 rfl ?_
        refine mt_iconst dX1_runsInAll_27 (v := nI 1) rfl ?_
        refine mp_isub dX1_runsInAll_28 (v := nI (i - 1)) (pk_sub (by omega)) ?_
        refine mp_iaload dX1_runsInAll_29 ek rfl (by omega) (by omega) (v := xk xs (i - 1)) (qk _ (by omega)) ?_
        refine mt_icmp_ge dX1_runsInAll_30 (tgt := 36) rfl (fun q3 => ?_) (fun q3 => ?_)
        · have q3 := Int32.not_lt.mpr q3
          refine mp_iinc dX1_runsInAll_36 rfl (v := nI (i + 1)) mI_inc (ls' := [.ref a, .int acc, .int (nI (i + 1))]) rfl (by decide) rfl ?_
          refine mt_goto dX1_runsInAll_39 (tgt := 4) rfl ?_
          exact ih (i + 1) acc (by omega) ((mlp_go (by omega) (by simp [q1, q2, q3, nI_0, mI_one] <;> rfl)).symm.trans hr) (by omega)
        · have q3 := Int32.not_le.mp q3
          refine mp_iinc dX1_runsInAll_33 rfl (v := acc + 1) rfl (ls' := [.ref a, .int (acc + 1), .int (nI i)]) rfl (by decide) rfl ?_
          refine mp_iinc dX1_runsInAll_36 rfl (v := nI (i + 1)) mI_inc (ls' := [.ref a, .int (acc + 1), .int (nI (i + 1))]) rfl (by decide) rfl ?_
          refine mt_goto dX1_runsInAll_39 (tgt := 4) rfl ?_
          exact ih (i + 1) (acc + 1) (by omega) ((mlp_go (by omega) (by simp [q1, q2, q3, nI_0, mI_one] <;> rfl)).symm.trans hr) (by omega)
def q_runsInAll (xs : List mIt) : Int32 := mlp (fun i acc => if i = 0 ∨ xk xs i < xk xs (i - 1) then acc + 1 else acc) (xs.length - 0) 0 (nI 0)
set_option maxRecDepth 100000 in
set_option maxHeartbeats 2000000 in
theorem kX1_runsInAll {l : Launch} (hl : l.stackTraces = false) {h : mH} {n a room : Nat} {fl : Int32} {xs : List mIt} (H : rowAt h a room fl xs) : mC l mX1_runsInAll rX1_runsInAll [.ref a] h n (mRi (q_runsInAll xs) h n) (mNX) := by
  obtain ⟨f, g, ea, ek, es, ql, qr, qk, qt⟩ := id H
  refine mm_enter hl (by decide +kernel) rfl rfl rfl (Nat.le_of_ble_eq_true rfl) ?_
  show mT _ _ _ _ 0 [.ref a, .double 0, .double 0] [] _ _ 0 0
  refine mt_iconst dX1_runsInAll_0 (v := nI 0) rfl ?_
  refine mp_istore_n dX1_runsInAll_1 (ls' := [.ref a, .int (nI 0), .double 0]) rfl (by decide) rfl ?_
  refine mt_iconst dX1_runsInAll_2 (v := nI 0) rfl ?_
  refine mp_istore_n dX1_runsInAll_3 (ls' := [.ref a, .int (nI 0), .int (nI 0)]) rfl (by decide) rfl ?_
  refine tX1_runsInAll_4 H (fun acc_1 i_2 z3 => ?_) (xs.length - 0 + 1) 0 (nI 0) (Nat.lt_succ_self _) rfl (by omega)
  refine mt_iload_n dX1_runsInAll_42 rfl ?_
  refine mt_ireturn dX1_runsInAll_43 rfl rfl (Nat.le_of_ble_eq_true rfl) (Nat.le_of_ble_eq_true rfl) ?_
  exact ⟨congrArg (fun x => some (Value.int x)) z3, rfl, rfl⟩
abbrev rX1_unlikeKeysOfSorted : Room := { frames := 0, cells := 0, slots := 0, locals := 0 }
set_option maxRecDepth 100000 in
set_option maxHeartbeats 2000000 in
theorem tX1_unlikeKeysOfSorted_4 {l : Launch} {R : Room} {K : mK} {cc sc : Nat} {h : mH} {n a room : Nat} {fl : Int32} {xs : List mIt} {r : Int32}  (H : rowAt h a room fl xs) (kk0 : ∀ (acc : Int32) (i : Nat), (acc = r) → mT l mX1_unlikeKeysOfSorted R K 42 [.ref a, .int acc, .int (nI i)] [] h n cc sc) : ∀ (N0 : Nat) (i : Nat) (acc : Int32), (xs.length - i) < N0 → (mlp (fun i acc => if i = 0 ∨ ¬ xk xs i = xk xs (i - 1) then acc + 1 else acc) (xs.length - i) i acc = r) → (i ≤ xs.length + 1) → mT l mX1_unlikeKeysOfSorted R K 4 [.ref a, .int acc, .int (nI i)] [] h n cc sc := by
  intro N0
  induction N0 with
  | zero => intro i acc hm; exact absurd hm (Nat.not_lt_zero _)
  | succ N0 ih =>
    intro i acc hm hr hi
    obtain ⟨f, g, ea, ek, es, ql, qr, qk, qt⟩ := id H
    refine mt_iload_n dX1_unlikeKeysOfSorted_4 rfl ?_
    refine mt_aload_n dX1_unlikeKeysOfSorted_5 rfl rfl ?_
    refine mt_getfield mKX1 (i := 3) (by decide) mw_77 dX1_unlikeKeysOfSorted_6 ea rfl ?_
    refine mt_icmp_ge dX1_unlikeKeysOfSorted_9 (tgt := 42) rfl (fun q1 => ?_) (fun q1 => ?_)
    · have q1 := Int32.not_lt.mpr q1
      have q1 := (not_congr (nI_ltI (by omega) (by omega))).mp q1
      exact kk0 acc i ((mlp_end (by omega)).symm.trans hr)
    · have q1 := Int32.not_le.mp q1
      have q1 := (nI_ltI (by omega) (by omega)).mp q1
      refine mt_iload_n dX1_unlikeKeysOfSorted_12 rfl ?_
      refine mt_if_eq dX1_unlikeKeysOfSorted_13 (tgt := 33) rfl (fun q2 => ?_) (fun q2 => ?_)
      · have q2 := (mI_eq0 (by omega)).mp q2
        refine mp_iinc dX1_unlikeKeysOfSorted_33 rfl (v := acc + 1) rfl (ls' := [.ref a, .int (acc + 1), .int (nI i)]) rfl (by decide) rfl ?_
        refine mp_iinc dX1_unlikeKeysOfSorted_36 rfl (v := nI (i + 1)) mI_inc (ls' := [.ref a, .int (acc + 1), .int (nI (i + 1))]) rfl (by decide) rfl ?_
        refine mt_goto dX1_unlikeKeysOfSorted_39 (tgt := 4) rfl ?_
        exact ih (i + 1) (acc + 1) (by omega) ((mlp_go (by omega) (by simp [q1, q2, nI_0, mI_one] <;> rfl)).symm.trans hr) (by omega)
      · have q2 := (not_congr (mI_eq0 (by omega))).mp q2
        refine mt_aload_n dX1_unlikeKeysOfSorted_16 rfl rfl ?_
        refine mt_getfield mKX1 (i := 0) (by decide) mw_67 dX1_unlikeKeysOfSorted_17 ea rfl ?_
        refine mt_iload_n dX1_unlikeKeysOfSorted_20 rfl ?_
        refine mp_iaload dX1_unlikeKeysOfSorted_21 ek rfl (by omega) (by omega) (v := xk xs i) (qk _ (by omega)) ?_
        refine mt_aload_n dX1_unlikeKeysOfSorted_22 rfl rfl ?_
        refine mt_getfield mKX1 (i := 0) (by decide) mw_67 dX1_unlikeKeysOfSorted_23 ea rfl ?_
        refine mt_iload_n dX1_unlikeKeysOfSorted_26 rfl ?_
        refine mt_iconst dX1_unlikeKeysOfSorted_27 (v := nI 1) rfl ?_
        refine mp_isub dX1_unlikeKeysOfSorted_28 (v := nI (i - 1)) (pk_sub (by omega)) ?_
        refine mp_iaload dX1_unlikeKeysOfSorted_29 ek rfl (by omega) (by omega) (v := xk xs (i - 1)) (qk _ (by omega)) ?_
        refine mt_icmp_eq dX1_unlikeKeysOfSorted_30 (tgt := 36) rfl (fun q3 => ?_) (fun q3 => ?_)
        · refine mp_iinc dX1_unlikeKeysOfSorted_36 rfl (v := nI (i + 1)) mI_inc (ls' := [.ref a, .int acc, .int (nI (i + 1))]) rfl (by decide) rfl ?_
          refine mt_goto dX1_unlikeKeysOfSorted_39 (tgt := 4) rfl ?_
          exact ih (i + 1) acc (by omega) ((mlp_go (by omega) (by simp [q1, q2, q3, nI_0, mI_one] <;> rfl)).symm.trans hr) (by omega)
        · refine mp_iinc dX1_unlikeKeysOfSorted_33 rfl (v := acc + 1) rfl (ls' := [.ref a, .int (acc + 1), .int (nI i)]) rfl (by decide) rfl ?_
          refine mp_iinc dX1_unlikeKeysOfSorted_36 rfl (v := nI (i + 1)) mI_inc (ls' := [.ref a, .int (acc + 1), .int (nI (i + 1))]) rfl (by decide) rfl ?_
          refine mt_goto dX1_unlikeKeysOfSorted_39 (tgt := 4) rfl ?_
          exact ih (i + 1) (acc + 1) (by omega) ((mlp_go (by omega) (by simp [q1, q2, q3, nI_0, mI_one] <;> rfl)).symm.trans hr) (by omega)
def q_unlikeKeysOfSorted (xs : List mIt) : Int32 := mlp (fun i acc => if i = 0 ∨ ¬ xk xs i = xk xs (i - 1) then acc + 1 else acc) (xs.length - 0) 0 (nI 0)
set_option maxRecDepth 100000 in
set_option maxHeartbeats 2000000 in
theorem kX1_unlikeKeysOfSorted {l : Launch} (hl : l.stackTraces = false) {h : mH} {n a room : Nat} {fl : Int32} {xs : List mIt} (H : rowAt h a room fl xs) : mC l mX1_unlikeKeysOfSorted rX1_unlikeKeysOfSorted [.ref a] h n (mRi (q_unlikeKeysOfSorted xs) h n) (mNX) := by
  obtain ⟨f, g, ea, ek, es, ql, qr, qk, qt⟩ := id H
  refine mm_enter hl (by decide +kernel) rfl rfl rfl (Nat.le_of_ble_eq_true rfl) ?_
  show mT _ _ _ _ 0 [.ref a, .double 0, .double 0] [] _ _ 0 0
  refine mt_iconst dX1_unlikeKeysOfSorted_0 (v := nI 0) rfl ?_
  refine mp_istore_n dX1_unlikeKeysOfSorted_1 (ls' := [.ref a, .int (nI 0), .double 0]) rfl (by decide) rfl ?_
  refine mt_iconst dX1_unlikeKeysOfSorted_2 (v := nI 0) rfl ?_
  refine mp_istore_n dX1_unlikeKeysOfSorted_3 (ls' := [.ref a, .int (nI 0), .int (nI 0)]) rfl (by decide) rfl ?_
  refine tX1_unlikeKeysOfSorted_4 H (fun acc_1 i_2 z3 => ?_) (xs.length - 0 + 1) 0 (nI 0) (Nat.lt_succ_self _) rfl (by omega)
  refine mt_iload_n dX1_unlikeKeysOfSorted_42 rfl ?_
  refine mt_ireturn dX1_unlikeKeysOfSorted_43 rfl rfl (Nat.le_of_ble_eq_true rfl) (Nat.le_of_ble_eq_true rfl) ?_
  exact ⟨congrArg (fun x => some (Value.int x)) z3, rfl, rfl⟩
abbrev rX1_leastKey : Room := { frames := 0, cells := 0, slots := 0, locals := 0 }
set_option maxRecDepth 100000 in
set_option maxHeartbeats 2000000 in
theorem tX1_leastKey_5 {l : Launch} {R : Room} {K : mK} {cc sc : Nat} {h : mH} {n a room : Nat} {fl : Int32} {xs : List mIt} {r : Int32}  (H : rowAt h a room fl xs) (kk0 : ∀ (acc : Int32) (i : Nat), (acc = r) → mT l mX1_leastKey R K 40 [.ref a, .int acc, .int (nI i)] [] h n cc sc) : ∀ (N0 : Nat) (i : Nat) (acc : Int32), (xs.length - i) < N0 → (mlp (fun i acc => if i = 0 ∨ xk xs i < acc then xk xs i else acc) (xs.length - i) i acc = r) → (i ≤ xs.length + 1) → mT l mX1_leastKey R K 5 [.ref a, .int acc, .int (nI i)] [] h n cc sc := by
  intro N0
  induction N0 with
  | zero => intro i acc hm; exact absurd hm (Nat.not_lt_zero _)
  | succ N0 ih =>
    intro i acc hm hr hi
    obtain ⟨f, g, ea, ek, es, ql, qr, qk, qt⟩ := id H
    refine mt_iload_n dX1_leastKey_5 rfl ?_
    refine mt_aload_n dX1_leastKey_6 rfl rfl ?_
    refine mt_getfield mKX1 (i := 3) (by decide) mw_77 dX1_leastKey_7 ea rfl ?_
    refine mt_icmp_ge dX1_leastKey_10 (tgt := 40) rfl (fun q1 => ?_) (fun q1 => ?_)
    · have q1 := Int32.not_lt.mpr q1
      have q1 := (not_congr (nI_ltI (by omega) (by omega))).mp q1
      exact kk0 acc i ((mlp_end (by omega)).symm.trans hr)
    · have q1 := Int32.not_le.mp q1
      have q1 := (nI_ltI (by omega) (by omega)).mp q1
      refine mt_iload_n dX1_leastKey_13 rfl ?_
      refine mt_if_eq dX1_leastKey_14 (tgt := 27) rfl (fun q2 => ?_) (fun q2 => ?_)
      · have q2 := (mI_eq0 (by omega)).mp q2
        refine mt_aload_n dX1_leastKey_27 rfl rfl ?_
        refine mt_getfield mKX1 (i := 0) (by decide) mw_67 dX1_leastKey_28 ea rfl ?_
        refine mt_iload_n dX1_leastKey_31 rfl ?_
        refine mp_iaload dX1_leastKey_32 ek rfl (by omega) (by omega) (v := xk xs i) (qk _ (by omega)) ?_
        refine mp_istore_n dX1_leastKey_33 (ls' := [.ref a, .int (xk xs i), .int (nI i)]) rfl (by decide) rfl ?_
        refine mp_iinc dX1_leastKey_34 rfl (v := nI (i + 1)) mI_inc (ls' := [.ref a, .int (xk xs i), .int (nI (i + 1))]) rfl (by decide) rfl ?_
        refine mt_goto dX1_leastKey_37 (tgt := 5) rfl ?_
        exact ih (i + 1) (xk xs i) (by omega) ((mlp_go (by omega) (by simp [q1, q2, nI_0, mI_one] <;> rfl)).symm.trans hr) (by omega)
      · have q2 := (not_congr (mI_eq0 (by omega))).mp q2
        refine mt_aload_n dX1_leastKey_17 rfl rfl ?_
        refine mt_getfield mKX1 (i := 0) (by decide) mw_67 dX1_leastKey_18 ea rfl ?_
        refine mt_iload_n dX1_leastKey_21 rfl ?_
        refine mp_iaload dX1_leastKey_22 ek rfl (by omega) (by omega) (v := xk xs i) (qk _ (by omega)) ?_
        refine mt_iload_n dX1_leastKey_23 rfl ?_
        refine mt_icmp_ge dX1_leastKey_24 (tgt := 34) rfl (fun q3 => ?_) (fun q3 => ?_)
        · have q3 := Int32.not_lt.mpr q3
          refine mp_iinc dX1_leastKey_34 rfl (v := nI (i + 1)) mI_inc (ls' := [.ref a, .int acc, .int (nI (i + 1))]) rfl (by decide) rfl ?_
          refine mt_goto dX1_leastKey_37 (tgt := 5) rfl ?_
          exact ih (i + 1) acc (by omega) ((mlp_go (by omega) (by simp [q1, q2, q3, nI_0, mI_one] <;> rfl)).symm.trans hr) (by omega)
        · have q3 := Int32.not_le.mp q3
          refine mt_aload_n dX1_leastKey_27 rfl rfl ?_
          refine mt_getfield mKX1 (i := 0) (by decide) mw_67 dX1_leastKey_28 ea rfl ?_
          refine mt_iload_n dX1_leastKey_31 rfl ?_
          refine mp_iaload dX1_leastKey_32 ek rfl (by omega) (by omega) (v := xk xs i) (qk _ (by omega)) ?_
          refine mp_istore_n dX1_leastKey_33 (ls' := [.ref a, .int (xk xs i), .int (nI i)]) rfl (by decide) rfl ?_
          refine mp_iinc dX1_leastKey_34 rfl (v := nI (i + 1)) mI_inc (ls' := [.ref a, .int (xk xs i), .int (nI (i + 1))]) rfl (by decide) rfl ?_
          refine mt_goto dX1_leastKey_37 (tgt := 5) rfl ?_
          exact ih (i + 1) (xk xs i) (by omega) ((mlp_go (by omega) (by simp [q1, q2, q3, nI_0, mI_one] <;> rfl)).symm.trans hr) (by omega)
def q_leastKey (xs : List mIt) : Int32 := mlp (fun i acc => if i = 0 ∨ xk xs i < acc then xk xs i else acc) (xs.length - 0) 0 ((-100000))
set_option maxRecDepth 100000 in
set_option maxHeartbeats 2000000 in
theorem kX1_leastKey {l : Launch} (hl : l.stackTraces = false) {h : mH} {n a room : Nat} {fl : Int32} {xs : List mIt} (H : rowAt h a room fl xs) : mC l mX1_leastKey rX1_leastKey [.ref a] h n (mRi (q_leastKey xs) h n) (mNX) := by
  obtain ⟨f, g, ea, ek, es, ql, qr, qk, qt⟩ := id H
  refine mm_enter hl (by decide +kernel) rfl rfl rfl (Nat.le_of_ble_eq_true rfl) ?_
  show mT _ _ _ _ 0 [.ref a, .double 0, .double 0] [] _ _ 0 0
  refine mt_ldc (v := (-100000)) dX1_leastKey_0 mw_999 ?_
  refine mp_istore_n dX1_leastKey_2 (ls' := [.ref a, .int (-100000), .double 0]) rfl (by decide) rfl ?_
  refine mt_iconst dX1_leastKey_3 (v := nI 0) rfl ?_
  refine mp_istore_n dX1_leastKey_4 (ls' := [.ref a, .int (-100000), .int (nI 0)]) rfl (by decide) rfl ?_
  refine tX1_leastKey_5 H (fun acc_1 i_2 z3 => ?_) (xs.length - 0 + 1) 0 (-100000) (Nat.lt_succ_self _) rfl (by omega)
  refine mt_iload_n dX1_leastKey_40 rfl ?_
  refine mt_ireturn dX1_leastKey_41 rfl rfl (Nat.le_of_ble_eq_true rfl) (Nat.le_of_ble_eq_true rfl) ?_
  exact ⟨congrArg (fun x => some (Value.int x)) z3, rfl, rfl⟩
abbrev rX1_greatestKey : Room := { frames := 1, cells := 0, slots := 0, locals := 21 }
set_option maxRecDepth 100000 in
set_option maxHeartbeats 2000000 in
theorem tX1_greatestKey_5 {l : Launch} {K : mK} {h : mH} {n a room : Nat} {fl : Int32} {xs : List mIt} {r : Int32}  (H : rowAt h a room fl xs) (kk0 : ∀ (acc : Int32) (i : Nat), (acc = r) → mT l mX1_greatestKey rX1_greatestKey K 30 [.ref a, .int acc, .int (nI i)] [] h n 0 0) : ∀ (N0 : Nat) (i : Nat) (acc : Int32), (xs.length - i) < N0 → (mlp (fun i acc => if acc < xk xs i then xk xs i else acc) (xs.length - i) i acc = r) → (i ≤ xs.length + 1) → mT l mX1_greatestKey rX1_greatestKey K 5 [.ref a, .int acc, .int (nI i)] [] h n 0 0 := by
  intro N0
  induction N0 with
  | zero => intro i acc hm; exact absurd hm (Nat.not_lt_zero _)
  | succ N0 ih =>
    intro i acc hm hr hi
    obtain ⟨f, g, ea, ek, es, ql, qr, qk, qt⟩ := id H
    refine mt_iload_n dX1_greatestKey_5 rfl ?_
    refine mt_aload_n dX1_greatestKey_6 rfl rfl ?_
    refine mt_getfield mKX1 (i := 3) (by decide) mw_77 dX1_greatestKey_7 ea rfl ?_
    refine mt_icmp_ge dX1_greatestKey_10 (tgt := 30) rfl (fun q1 => ?_) (fun q1 => ?_)
    · have q1 := Int32.not_lt.mpr q1
      have q1 := (not_congr (nI_ltI (by omega) (by omega))).mp q1
      exact kk0 acc i ((mlp_end (by omega)).symm.trans hr)
    · have q1 := Int32.not_le.mp q1
      have q1 := (nI_ltI (by omega) (by omega)).mp q1
      refine mt_iload_n dX1_greatestKey_13 rfl ?_
      refine mt_aload_n dX1_greatestKey_14 rfl rfl ?_
      refine mt_getfield mKX1 (i := 0) (by decide) mw_67 dX1_greatestKey_15 ea rfl ?_
      refine mt_iload_n dX1_greatestKey_18 rfl ?_
      refine mp_iaload dX1_greatestKey_19 ek rfl (by omega) (by omega) (v := xk xs i) (qk _ (by omega)) ?_
      refine mt_mmax dX1_greatestKey_20 mw_348 mw_349 mw_41 (mw_max) (Nat.le_of_ble_eq_true rfl) ⟨Nat.le_of_ble_eq_true rfl, Nat.le_of_ble_eq_true rfl⟩ (Nat.le_of_ble_eq_true rfl) (Nat.le_of_ble_eq_true rfl) (v := if acc < (xk xs i) then (xk xs i) else acc) rfl ?_
      refine mp_istore_n dX1_greatestKey_23 (ls' := [.ref a, .int (if acc < (xk xs i) then (xk xs i) else acc), .int (nI i)]) rfl (by decide) rfl ?_
      refine mp_iinc dX1_greatestKey_24 rfl (v := nI (i + 1)) mI_inc (ls' := [.ref a, .int (if acc < (xk xs i) then (xk xs i) else acc), .int (nI (i + 1))]) rfl (by decide) rfl ?_
      refine mt_goto dX1_greatestKey_27 (tgt := 5) rfl ?_
      exact ih (i + 1) (if acc < (xk xs i) then (xk xs i) else acc) (by omega) ((mlp_go (by omega) (by simp [q1, nI_0, mI_one] <;> rfl)).symm.trans hr) (by omega)
def q_greatestKey (xs : List mIt) : Int32 := mlp (fun i acc => if acc < xk xs i then xk xs i else acc) (xs.length - 0) 0 ((-100000))
set_option maxRecDepth 100000 in
set_option maxHeartbeats 2000000 in
theorem kX1_greatestKey {l : Launch} (hl : l.stackTraces = false) {h : mH} {n a room : Nat} {fl : Int32} {xs : List mIt} (H : rowAt h a room fl xs) : mC l mX1_greatestKey rX1_greatestKey [.ref a] h n (mRi (q_greatestKey xs) h n) (mNX) := by
  obtain ⟨f, g, ea, ek, es, ql, qr, qk, qt⟩ := id H
  refine mm_enter hl (by decide +kernel) rfl rfl rfl (Nat.le_of_ble_eq_true rfl) ?_
  show mT _ _ _ _ 0 [.ref a, .double 0, .double 0] [] _ _ 0 0
  refine mt_ldc (v := (-100000)) dX1_greatestKey_0 mw_999 ?_
  refine mp_istore_n dX1_greatestKey_2 (ls' := [.ref a, .int (-100000), .double 0]) rfl (by decide) rfl ?_
  refine mt_iconst dX1_greatestKey_3 (v := nI 0) rfl ?_
  refine mp_istore_n dX1_greatestKey_4 (ls' := [.ref a, .int (-100000), .int (nI 0)]) rfl (by decide) rfl ?_
  refine tX1_greatestKey_5 H (fun acc_1 i_2 z3 => ?_) (xs.length - 0 + 1) 0 (-100000) (Nat.lt_succ_self _) rfl (by omega)
  refine mt_iload_n dX1_greatestKey_30 rfl ?_
  refine mt_ireturn dX1_greatestKey_31 rfl rfl (Nat.le_of_ble_eq_true rfl) (Nat.le_of_ble_eq_true rfl) ?_
  exact ⟨congrArg (fun x => some (Value.int x)) z3, rfl, rfl⟩
abbrev rX1_longestRun : Room := { frames := 1, cells := 0, slots := 0, locals := 21 }
set_option maxRecDepth 100000 in
set_option maxHeartbeats 2000000 in
theorem tX1_longestRun_6 {l : Launch} {K : mK} {h : mH} {n a room : Nat} {fl : Int32} {xs : List mIt} {r : Int32 × Int32}  (H : rowAt h a room fl xs) (kk0 : ∀ (acc : Int32) (run : Int32) (i : Nat), ((acc, run) = r) → mT l mX1_longestRun rX1_longestRun K 55 [.ref a, .int acc, .int run, .int (nI i)] [] h n 0 0) : ∀ (N0 : Nat) (i : Nat) (acc : Int32) (run : Int32), (xs.length - i) < N0 → (mlp (fun i (p : Int32 × Int32) => let run := if 0 < i ∧ xk xs i < xk xs (i - 1) then 1 else p.2 + 1; (if p.1 < run then run else p.1, run)) (xs.length - i) i (acc, run) = r) → (i ≤ xs.length + 1) → mT l mX1_longestRun rX1_longestRun K 6 [.ref a, .int acc, .int run, .int (nI i)] [] h n 0 0 := by
  intro N0
  induction N0 with
  | zero => intro i acc run hm; exact absurd hm (Nat.not_lt_zero _)
  | succ N0 ih =>
    intro i acc run hm hr hi
    obtain ⟨f, g, ea, ek, es, ql, qr, qk, qt⟩ := id H
    refine mt_iload_n dX1_longestRun_6 rfl ?_
    refine mt_aload_n dX1_longestRun_7 rfl rfl ?_
    refine mt_getfield mKX1 (i := 3) (by decide) mw_77 dX1_longestRun_8 ea rfl ?_
    refine mt_icmp_ge dX1_longestRun_11 (tgt := 55) rfl (fun q1 => ?_) (fun q1 => ?_)
    · have q1 := Int32.not_lt.mpr q1
      have q1 := (not_congr (nI_ltI (by omega) (by omega))).mp q1
      exact kk0 acc run i ((mlp_end (by omega)).symm.trans hr)
    · have q1 := Int32.not_le.mp q1
      have q1 := (nI_ltI (by omega) (by omega)).mp q1
      refine mt_iload_n dX1_longestRun_14 rfl ?_
      refine mt_if_le dX1_longestRun_15 (tgt := 39) rfl (fun q2 => ?_) (fun q2 => ?_)
      · have q2 := Int32.not_lt.mpr q2
        have q2 := (not_congr (mI_gt0 (by omega))).mp q2
        refine mt_iload_n dX1_longestRun_39 rfl ?_
        refine mt_iconst dX1_longestRun_40 (v := nI 1) rfl ?_
        refine mp_iadd dX1_longestRun_41 (v := run + (nI 1)) rfl ?_
        refine mp_istore_n dX1_longestRun_42 (ls' := [.ref a, .int acc, .int (run + (nI 1)), .int (nI i)]) rfl (by decide) rfl ?_
        refine mt_iload_n dX1_longestRun_43 rfl ?_
        refine mt_iload_n dX1_longestRun_44 rfl ?_
        refine mt_mmax dX1_longestRun_45 mw_348 mw_349 mw_41 (mw_max) (Nat.le_of_ble_eq_true rfl) ⟨Nat.le_of_ble_eq_true rfl, Nat.le_of_ble_eq_true rfl⟩ (Nat.le_of_ble_eq_true rfl) (Nat.le_of_ble_eq_true rfl) (v := if acc < (run + (nI 1)) then (run + (nI 1)) else acc) rfl ?_
        refine mp_istore_n dX1_longestRun_48 (ls' := [.ref a, .int (if acc < (run + (nI 1)) then (run + (nI 1)) else acc), .int (run + (nI 1)), .int (nI i)]) rfl (by decide) rfl ?_
        refine mp_iinc dX1_longestRun_49 rfl (v := nI (i + 1)) mI_inc (ls' := [.ref a, .int (if acc < (run + (nI 1)) then (run + (nI 1)) else acc), .int (run + (nI 1)), .int (nI (i + 1))]) rfl (by decide) rfl ?_
        refine mt_goto dX1_longestRun_52 (tgt := 6) rfl ?_
        exact ih (i + 1) (if acc < (run + (nI 1)) then (run + (nI 1)) else acc) (run + (nI 1)) (by omega) ((mlp_go (by omega) (by simp [q1, q2, nI_0, mI_one] <;> rfl)).symm.trans hr) (by omega)
      · have q2 := Int32.not_le.mp q2
        have q2 := (mI_gt0 (by omega)).mp q2
        refine mt_aload_n dX1_longestRun_18 rfl rfl ?_
        refine mt_getfield mKX1 (i := 0) (by decide) mw_67 dX1_longestRun_19 ea rfl ?_
        refine mt_iload_n dX1_longestRun_22 rfl ?_
        refine mp_iaload dX1_longestRun_23 ek rfl (by omega) (by omega) (v := xk xs i) (qk _ (by omega)) ?_
        refine mt_aload_n dX1_longestRun_24 rfl rfl ?_
        refine mt_getfield mKX1 (i := 0) (by decide) mw_67 dX1_longestRun_25 ea rfl ?_
        refine mt_iload_n dX1_longestRun_28 rfl ?_
        refine mt_iconst dX1_longestRun_29 (v := nI 1) rfl ?_
        refine mp_isub dX1_longestRun_30 (v := nI (i - 1)) (pk_sub (by omega)) ?_
        refine mp_iaload dX1_longestRun_31 ek rfl (by omega) (by omega) (v := xk xs (i - 1)) (qk _ (by omega)) ?_
        refine mt_icmp_ge dX1_longestRun_32 (tgt := 39) rfl (fun q3 => ?_) (fun q3 => ?_)
        · have q3 := Int32.not_lt.mpr q3
          refine mt_iload_n dX1_longestRun_39 rfl ?_
          refine mt_iconst dX1_longestRun_40 (v := nI 1) rfl ?_
          refine mp_iadd dX1_longestRun_41 (v := run + (nI 1)) rfl ?_
          refine mp_istore_n dX1_longestRun_42 (ls' := [.ref a, .int acc, .int (run + (nI 1)), .int (nI i)]) rfl (by decide) rfl ?_
          refine mt_iload_n dX1_longestRun_43 rfl ?_
          refine mt_iload_n dX1_longestRun_44 rfl ?_
          refine mt_mmax dX1_longestRun_45 mw_348 mw_349 mw_41 (mw_max) (Nat.le_of_ble_eq_true rfl) ⟨Nat.le_of_ble_eq_true rfl, Nat.le_of_ble_eq_true rfl⟩ (Nat.le_of_ble_eq_true rfl) (Nat.le_of_ble_eq_true rfl) (v := if acc < (run + (nI 1)) then (run + (nI 1)) else acc) rfl ?_
          refine mp_istore_n dX1_longestRun_48 (ls' := [.ref a, .int (if acc < (run + (nI 1)) then (run + (nI 1)) else acc), .int (run + (nI 1)), .int (nI i)]) rfl (by decide) rfl ?_
          refine mp_iinc dX1_longestRun_49 rfl (v := nI (i + 1)) mI_inc (ls' := [.ref a, .int (if acc < (run + (nI 1)) then (run + (nI 1)) else acc), .int (run + (nI 1)), .int (nI (i + 1))]) rfl (by decide) rfl ?_
          refine mt_goto dX1_longestRun_52 (tgt := 6) rfl ?_
          exact ih (i + 1) (if acc < (run + (nI 1)) then (run + (nI 1)) else acc) (run + (nI 1)) (by omega) ((mlp_go (by omega) (by simp [q1, q2, q3, nI_0, mI_one] <;> rfl)).symm.trans hr) (by omega)
        · have q3 := Int32.not_le.mp q3
          refine mt_iconst dX1_longestRun_35 (v := nI 1) rfl ?_
          refine mt_goto dX1_longestRun_36 (tgt := 42) rfl ?_
          refine mp_istore_n dX1_longestRun_42 (ls' := [.ref a, .int acc, .int (nI 1), .int (nI i)]) rfl (by decide) rfl ?_
          refine mt_iload_n dX1_longestRun_43 rfl ?_
          refine mt_iload_n dX1_longestRun_44 rfl ?_
          refine mt_mmax dX1_longestRun_45 mw_348 mw_349 mw_41 (mw_max) (Nat.le_of_ble_eq_true rfl) ⟨Nat.le_of_ble_eq_true rfl, Nat.le_of_ble_eq_true rfl⟩ (Nat.le_of_ble_eq_true rfl) (Nat.le_of_ble_eq_true rfl) (v := if acc < (nI 1) then (nI 1) else acc) rfl ?_
          refine mp_istore_n dX1_longestRun_48 (ls' := [.ref a, .int (if acc < (nI 1) then (nI 1) else acc), .int (nI 1), .int (nI i)]) rfl (by decide) rfl ?_
          refine mp_iinc dX1_longestRun_49 rfl (v := nI (i + 1)) mI_inc (ls' := [.ref a, .int (if acc < (nI 1) then (nI 1) else acc), .int (nI 1), .int (nI (i + 1))]) rfl (by decide) rfl ?_
          refine mt_goto dX1_longestRun_52 (tgt := 6) rfl ?_
          exact ih (i + 1) (if acc < (nI 1) then (nI 1) else acc) (nI 1) (by omega) ((mlp_go (by omega) (by simp [q1, q2, q3, nI_0, mI_one] <;> rfl)).symm.trans hr) (by omega)
def q_longestRun (xs : List mIt) : Int32 := (mlp (fun i (p : Int32 × Int32) => let run := if 0 < i ∧ xk xs i < xk xs (i - 1) then 1 else p.2 + 1; (if p.1 < run then run else p.1, run)) (xs.length - 0) 0 (nI 0, nI 0)).1
set_option maxRecDepth 100000 in
set_option maxHeartbeats 2000000 in
theorem kX1_longestRun {l : Launch} (hl : l.stackTraces = false) {h : mH} {n a room : Nat} {fl : Int32} {xs : List mIt} (H : rowAt h a room fl xs) : mC l mX1_longestRun rX1_longestRun [.ref a] h n (mRi (q_longestRun xs) h n) (mNX) := by
  obtain ⟨f, g, ea, ek, es, ql, qr, qk, qt⟩ := id H
  refine mm_enter hl (by decide +kernel) rfl rfl rfl (Nat.le_of_ble_eq_true rfl) ?_
  show mT _ _ _ _ 0 [.ref a, .double 0, .double 0, .double 0] [] _ _ 0 0
  refine mt_iconst dX1_longestRun_0 (v := nI 0) rfl ?_
  refine mp_istore_n dX1_longestRun_1 (ls' := [.ref a, .int (nI 0), .double 0, .double 0]) rfl (by decide) rfl ?_
  refine mt_iconst dX1_longestRun_2 (v := nI 0) rfl ?_
  refine mp_istore_n dX1_longestRun_3 (ls' := [.ref a, .int (nI 0), .int (nI 0), .double 0]) rfl (by decide) rfl ?_
  refine mt_iconst dX1_longestRun_4 (v := nI 0) rfl ?_
  refine mp_istore_n dX1_longestRun_5 (ls' := [.ref a, .int (nI 0), .int (nI 0), .int (nI 0)]) rfl (by decide) rfl ?_
  refine tX1_longestRun_6 H (fun acc_1 run_2 i_3 z4 => ?_) (xs.length - 0 + 1) 0 (nI 0) (nI 0) (Nat.lt_succ_self _) rfl (by omega)
  refine mt_iload_n dX1_longestRun_55 rfl ?_
  refine mt_ireturn dX1_longestRun_56 rfl rfl (Nat.le_of_ble_eq_true rfl) (Nat.le_of_ble_eq_true rfl) ?_
  exact ⟨congrArg (fun x => some (Value.int x.1)) z4, rfl, rfl⟩
abbrev rX1_tiedPairsOfSorted : Room := { frames := 0, cells := 0, slots := 0, locals := 0 }
set_option maxRecDepth 100000 in
set_option maxHeartbeats 2000000 in
theorem tX1_tiedPairsOfSorted_6 {l : Launch} {R : Room} {K : mK} {cc sc : Nat} {h : mH} {n a room : Nat} {fl : Int32} {xs : List mIt} {r : Int32 × Int32}  (H : rowAt h a room fl xs) (kk0 : ∀ (acc : Int32) (run : Int32) (i : Nat), ((acc, run) = r) → mT l mX1_tiedPairsOfSorted R K 49 [.ref a, .int acc, .int run, .int (nI i)] [] h n cc sc) : ∀ (N0 : Nat) (i : Nat) (acc : Int32) (run : Int32), (xs.length - i) < N0 → (mlp (fun i (p : Int32 × Int32) => let al := if xk xs i = xk xs (i - 1) then p.2 + 1 else 0; (p.1 + al, al)) (xs.length - i) i (acc, run) = r) → (i ≤ xs.length + 1) → (0 < i) → mT l mX1_tiedPairsOfSorted R K 6 [.ref a, .int acc, .int run, .int (nI i)] [] h n cc sc := by
  intro N0
  induction N0 with
  | zero => intro i acc run hm; exact absurd hm (Nat.not_lt_zero _)
  | succ N0 ih =>
    intro i acc run hm hr hi h0
    obtain ⟨f, g, ea, ek, es, ql, qr, qk, qt⟩ := id H
    refine mt_iload_n dX1_tiedPairsOfSorted_6 rfl ?_
    refine mt_aload_n dX1_tiedPairsOfSorted_7 rfl rfl ?_
    refine mt_getfield mKX1 (i := 3) (by decide) mw_77 dX1_tiedPairsOfSorted_8 ea rfl ?_
    refine mt_icmp_ge dX1_tiedPairsOfSorted_11 (tgt := 49) rfl (fun q1 => ?_) (fun q1 => ?_)
    · have q1 := Int32.not_lt.mpr q1
      have q1 := (not_congr (nI_ltI (by omega) (by omega))).mp q1
      exact kk0 acc run i ((mlp_end (by omega)).symm.trans hr)
    · have q1 := Int32.not_le.mp q1
      have q1 := (nI_ltI (by omega) (by omega)).mp q1
      refine mt_aload_n dX1_tiedPairsOfSorted_14 rfl rfl ?_
      refine mt_getfield mKX1 (i := 0) (by decide) mw_67 dX1_tiedPairsOfSorted_15 ea rfl ?_
      refine mt_iload_n dX1_tiedPairsOfSorted_18 rfl ?_
      refine mp_iaload dX1_tiedPairsOfSorted_19 ek rfl (by omega) (by omega) (v := xk xs i) (qk _ (by omega)) ?_
      refine mt_aload_n dX1_tiedPairsOfSorted_20 rfl rfl ?_
      refine mt_getfield mKX1 (i := 0) (by decide) mw_67 dX1_tiedPairsOfSorted_21 ea rfl ?_
      refine mt_iload_n dX1_tiedPairsOfSorted_24 rfl ?_
      refine mt_iconst dX1_tiedPairsOfSorted_25 (v := nI 1) rfl ?_
      refine mp_isub dX1_tiedPairsOfSorted_26 (v := nI (i - 1)) (pk_sub (by omega)) ?_
      refine mp_iaload dX1_tiedPairsOfSorted_27 ek rfl (by omega) (by omega) (v := xk xs (i - 1)) (qk _ (by omega)) ?_
      refine mt_icmp_ne dX1_tiedPairsOfSorted_28 (tgt := 37) rfl (fun q2 => ?_) (fun q2 => ?_)
      · refine mt_iconst dX1_tiedPairsOfSorted_37 (v := nI 0) rfl ?_
        refine mp_istore_n dX1_tiedPairsOfSorted_38 (ls' := [.ref a, .int acc, .int (nI 0), .int (nI i)]) rfl (by decide) rfl ?_
        refine mt_iload_n dX1_tiedPairsOfSorted_39 rfl ?_
        refine mt_iload_n dX1_tiedPairsOfSorted_40 rfl ?_
        refine mp_iadd dX1_tiedPairsOfSorted_41 (v := acc + (nI 0)) rfl ?_
        refine mp_istore_n dX1_tiedPairsOfSorted_42 (ls' := [.ref a, .int (acc + (nI 0)), .int (nI 0), .int (nI i)]) rfl (by decide) rfl ?_
        refine mp_iinc dX1_tiedPairsOfSorted_43 rfl (v := nI (i + 1)) mI_inc (ls' := [.ref a, .int (acc + (nI 0)), .int (nI 0), .int (nI (i + 1))]) rfl (by decide) rfl ?_
        refine mt_goto dX1_tiedPairsOfSorted_46 (tgt := 6) rfl ?_
        exact ih (i + 1) (acc + (nI 0)) (nI 0) (by omega) ((mlp_go (by omega) (by simp [q1, q2, nI_0, mI_one] <;> rfl)).symm.trans hr) (by omega) (by omega)
      · refine mt_iload_n dX1_tiedPairsOfSorted_31 rfl ?_
        refine mt_iconst dX1_tiedPairsOfSorted_32 (v := nI 1) rfl ?_
        refine mp_iadd dX1_tiedPairsOfSorted_33 (v := run + (nI 1)) rfl ?_
        refine mt_goto dX1_tiedPairsOfSorted_34 (tgt := 38) rfl ?_
        refine mp_istore_n dX1_tiedPairsOfSorted_38 (ls' := [.ref a, .int acc, .int (run + (nI 1)), .int (nI i)]) rfl (by decide) rfl ?_
        refine mt_iload_n dX1_tiedPairsOfSorted_39 rfl ?_
        refine mt_iload_n dX1_tiedPairsOfSorted_40 rfl ?_
        refine mp_iadd dX1_tiedPairsOfSorted_41 (v := acc + (run + (nI 1))) rfl ?_
        refine mp_istore_n dX1_tiedPairsOfSorted_42 (ls' := [.ref a, .int (acc + (run + (nI 1))), .int (run + (nI 1)), .int (nI i)]) rfl (by decide) rfl ?_
        refine mp_iinc dX1_tiedPairsOfSorted_43 rfl (v := nI (i + 1)) mI_inc (ls' := [.ref a, .int (acc + (run + (nI 1))), .int (run + (nI 1)), .int (nI (i + 1))]) rfl (by decide) rfl ?_
        refine mt_goto dX1_tiedPairsOfSorted_46 (tgt := 6) rfl ?_
        exact ih (i + 1) (acc + (run + (nI 1))) (run + (nI 1)) (by omega) ((mlp_go (by omega) (by simp [q1, q2, nI_0, mI_one] <;> rfl)).symm.trans hr) (by omega) (by omega)
def q_tiedPairsOfSorted (xs : List mIt) : Int32 := (mlp (fun i (p : Int32 × Int32) => let al := if xk xs i = xk xs (i - 1) then p.2 + 1 else 0; (p.1 + al, al)) (xs.length - 1) 1 (nI 0, nI 0)).1
set_option maxRecDepth 100000 in
set_option maxHeartbeats 2000000 in
theorem kX1_tiedPairsOfSorted {l : Launch} (hl : l.stackTraces = false) {h : mH} {n a room : Nat} {fl : Int32} {xs : List mIt} (H : rowAt h a room fl xs) : mC l mX1_tiedPairsOfSorted rX1_tiedPairsOfSorted [.ref a] h n (mRi (q_tiedPairsOfSorted xs) h n) (mNX) := by
  obtain ⟨f, g, ea, ek, es, ql, qr, qk, qt⟩ := id H
  refine mm_enter hl (by decide +kernel) rfl rfl rfl (Nat.le_of_ble_eq_true rfl) ?_
  show mT _ _ _ _ 0 [.ref a, .double 0, .double 0, .double 0] [] _ _ 0 0
  refine mt_iconst dX1_tiedPairsOfSorted_0 (v := nI 0) rfl ?_
  refine mp_istore_n dX1_tiedPairsOfSorted_1 (ls' := [.ref a, .int (nI 0), .double 0, .double 0]) rfl (by decide) rfl ?_
  refine mt_iconst dX1_tiedPairsOfSorted_2 (v := nI 0) rfl ?_
  refine mp_istore_n dX1_tiedPairsOfSorted_3 (ls' := [.ref a, .int (nI 0), .int (nI 0), .double 0]) rfl (by decide) rfl ?_
  refine mt_iconst dX1_tiedPairsOfSorted_4 (v := nI 1) rfl ?_
  refine mp_istore_n dX1_tiedPairsOfSorted_5 (ls' := [.ref a, .int (nI 0), .int (nI 0), .int (nI 1)]) rfl (by decide) rfl ?_
  refine tX1_tiedPairsOfSorted_6 H (fun acc_1 run_2 i_3 z4 => ?_) (xs.length - 1 + 1) 1 (nI 0) (nI 0) (Nat.lt_succ_self _) rfl (by omega) (by decide)
  refine mt_iload_n dX1_tiedPairsOfSorted_49 rfl ?_
  refine mt_ireturn dX1_tiedPairsOfSorted_50 rfl rfl (Nat.le_of_ble_eq_true rfl) (Nat.le_of_ble_eq_true rfl) ?_
  exact ⟨congrArg (fun x => some (Value.int x.1)) z4, rfl, rfl⟩
abbrev rX1_commonestKeyOfSorted : Room := { frames := 0, cells := 0, slots := 0, locals := 0 }
set_option maxRecDepth 100000 in
set_option maxHeartbeats 2000000 in
theorem tX1_commonestKeyOfSorted_10 {l : Launch} {R : Room} {K : mK} {cc sc : Nat} {h : mH} {n a room : Nat} {fl : Int32} {xs : List mIt} {r : Int32 × Int32 × Int32}  (H : rowAt h a room fl xs) (kk0 : ∀ (com : Int32) (most : Int32) (al : Int32) (i : Nat), ((com, most, al) = r) → mT l mX1_commonestKeyOfSorted R K 72 [.ref a, .int com, .int most, .int al, .int (nI i)] [] h n cc sc) : ∀ (N0 : Nat) (i : Nat) (com : Int32) (most : Int32) (al : Int32), (xs.length - i) < N0 → (mlp (fun i (p : Int32 × Int32 × Int32) => let al := if 0 < i ∧ xk xs i = xk xs (i - 1) then p.2.2 + 1 else 1; if p.2.1 < al then (xk xs i, al, al) else (p.1, p.2.1, al)) (xs.length - i) i (com, most, al) = r) → (i ≤ xs.length + 1) → mT l mX1_commonestKeyOfSorted R K 10 [.ref a, .int com, .int most, .int al, .int (nI i)] [] h n cc sc := by
  intro N0
  induction N0 with
  | zero => intro i com most al hm; exact absurd hm (Nat.not_lt_zero _)
  | succ N0 ih =>
    intro i com most al hm hr hi
    obtain ⟨f, g, ea, ek, es, ql, qr, qk, qt⟩ := id H
    refine mt_iload dX1_commonestKeyOfSorted_10 rfl ?_
    refine mt_aload_n dX1_commonestKeyOfSorted_12 rfl rfl ?_
    refine mt_getfield mKX1 (i := 3) (by decide) mw_77 dX1_commonestKeyOfSorted_13 ea rfl ?_
    refine mt_icmp_ge dX1_commonestKeyOfSorted_16 (tgt := 72) rfl (fun q1 => ?_) (fun q1 => ?_)
    · have q1 := Int32.not_lt.mpr q1
      have q1 := (not_congr (nI_ltI (by omega) (by omega))).mp q1
      exact kk0 com most al i ((mlp_end (by omega)).symm.trans hr)
    · have q1 := Int32.not_le.mp q1
      have q1 := (nI_ltI (by omega) (by omega)).mp q1
      refine mt_iload dX1_commonestKeyOfSorted_19 rfl ?_
      refine mt_if_le dX1_commonestKeyOfSorted_21 (tgt := 49) rfl (fun q2 => ?_) (fun q2 => ?_)
      · have q2 := Int32.not_lt.mpr q2
        have q2 := (not_congr (mI_gt0 (by omega))).mp q2
        refine mt_iconst dX1_commonestKeyOfSorted_49 (v := nI 1) rfl ?_
        refine mp_istore_n dX1_commonestKeyOfSorted_50 (ls' := [.ref a, .int com, .int most, .int (nI 1), .int (nI i)]) rfl (by decide) rfl ?_
        refine mt_iload_n dX1_commonestKeyOfSorted_51 rfl ?_
        refine mt_iload_n dX1_commonestKeyOfSorted_52 rfl ?_
        refine mt_icmp_le dX1_commonestKeyOfSorted_53 (tgt := 66) rfl (fun q3 => ?_) (fun q3 => ?_)
        · have q3 := Int32.not_lt.mpr q3
          simp only [mI_one, nI_0] at q3
          refine mp_iinc dX1_commonestKeyOfSorted_66 rfl (v := nI (i + 1)) mI_inc (ls' := [.ref a, .int com, .int most, .int (nI 1), .int (nI (i + 1))]) rfl (by decide) rfl ?_
          refine mt_goto dX1_commonestKeyOfSorted_69 (tgt := 10) rfl ?_
          exact ih (i + 1) com most (nI 1) (by omega) ((mlp_go (by omega) (by simp [q1, q2, q3, nI_0, mI_one] <;> rfl)).symm.trans hr) (by omega)
        · have q3 := Int32.not_le.mp q3
          simp only [mI_one, nI_0] at q3
          refine mt_iload_n dX1_commonestKeyOfSorted_56 rfl ?_
          refine mp_istore_n dX1_commonestKeyOfSorted_57 (ls' := [.ref a, .int com, .int (nI 1), .int (nI 1), .int (nI i)]) rfl (by decide) rfl ?_
          refine mt_aload_n dX1_commonestKeyOfSorted_58 rfl rfl ?_
          refine mt_getfield mKX1 (i := 0) (by decide) mw_67 dX1_commonestKeyOfSorted_59 ea rfl ?_
          refine mt_iload dX1_commonestKeyOfSorted_62 rfl ?_
          refine mp_iaload dX1_commonestKeyOfSorted_64 ek rfl (by omega) (by omega) (v := xk xs i) (qk _ (by omega)) ?_
          refine mp_istore_n dX1_commonestKeyOfSorted_65 (ls' := [.ref a, .int (xk xs i), .int (nI 1), .int (nI 1), .int (nI i)]) rfl (by decide) rfl ?_
          refine mp_iinc dX1_commonestKeyOfSorted_66 rfl (v := nI (i + 1)) mI_inc (ls' := [.ref a, .int (xk xs i), .int (nI 1), .int (nI 1), .int (nI (i + 1))]) rfl (by decide) rfl ?_
          refine mt_goto dX1_commonestKeyOfSorted_69 (tgt := 10) rfl ?_
          exact ih (i + 1) (xk xs i) (nI 1) (nI 1) (by omega) ((mlp_go (by omega) (by simp [q1, q2, q3, nI_0, mI_one] <;> rfl)).symm.trans hr) (by omega)
      · have q2 := Int32.not_le.mp q2
        have q2 := (mI_gt0 (by omega)).mp q2
        refine mt_aload_n dX1_commonestKeyOfSorted_24 rfl rfl ?_
        refine mt_getfield mKX1 (i := 0) (by decide) mw_67 dX1_commonestKeyOfSorted_25 ea rfl ?_
        refine mt_iload dX1_commonestKeyOfSorted_28 rfl ?_
        refine mp_iaload dX1_commonestKeyOfSorted_30 ek rfl (by omega) (by omega) (v := xk xs i) (qk _ (by omega)) ?_
        refine mt_aload_n dX1_commonestKeyOfSorted_31 rfl rfl ?_
        refine mt_getfield mKX1 (i := 0) (by decide) mw_67 dX1_commonestKeyOfSorted_32 ea rfl ?_
        refine mt_iload dX1_commonestKeyOfSorted_35 rfl ?_
        refine mt_iconst dX1_commonestKeyOfSorted_37 (v := nI 1) rfl ?_
        refine mp_isub dX1_commonestKeyOfSorted_38 (v := nI (i - 1)) (pk_sub (by omega)) ?_
        refine mp_iaload dX1_commonestKeyOfSorted_39 ek rfl (by omega) (by omega) (v := xk xs (i - 1)) (qk _ (by omega)) ?_
        refine mt_icmp_ne dX1_commonestKeyOfSorted_40 (tgt := 49) rfl (fun q4 => ?_) (fun q4 => ?_)
        · refine mt_iconst dX1_commonestKeyOfSorted_49 (v := nI 1) rfl ?_
          refine mp_istore_n dX1_commonestKeyOfSorted_50 (ls' := [.ref a, .int com, .int most, .int (nI 1), .int (nI i)]) rfl (by decide) rfl ?_
          refine mt_iload_n dX1_commonestKeyOfSorted_51 rfl ?_
          refine mt_iload_n dX1_commonestKeyOfSorted_52 rfl ?_
          refine mt_icmp_le dX1_commonestKeyOfSorted_53 (tgt := 66) rfl (fun q5 => ?_) (fun q5 => ?_)
          · have q5 := Int32.not_lt.mpr q5
            simp only [mI_one, nI_0] at q5
            refine mp_iinc dX1_commonestKeyOfSorted_66 rfl (v := nI (i + 1)) mI_inc (ls' := [.ref a, .int com, .int most, .int (nI 1), .int (nI (i + 1))]) rfl (by decide) rfl ?_
            refine mt_goto dX1_commonestKeyOfSorted_69 (tgt := 10) rfl ?_
            exact ih (i + 1) com most (nI 1) (by omega) ((mlp_go (by omega) (by simp [q1, q2, q4, q5, nI_0, mI_one] <;> rfl)).symm.trans hr) (by omega)
          · have q5 := Int32.not_le.mp q5
            simp only [mI_one, nI_0] at q5
            refine mt_iload_n dX1_commonestKeyOfSorted_56 rfl ?_
            refine mp_istore_n dX1_commonestKeyOfSorted_57 (ls' := [.ref a, .int com, .int (nI 1), .int (nI 1), .int (nI i)]) rfl (by decide) rfl ?_
            refine mt_aload_n dX1_commonestKeyOfSorted_58 rfl rfl ?_
            refine mt_getfield mKX1 (i := 0) (by decide) mw_67 dX1_commonestKeyOfSorted_59 ea rfl ?_
            refine mt_iload dX1_commonestKeyOfSorted_62 rfl ?_
            refine mp_iaload dX1_commonestKeyOfSorted_64 ek rfl (by omega) (by omega) (v := xk xs i) (qk _ (by omega)) ?_
            refine mp_istore_n dX1_commonestKeyOfSorted_65 (ls' := [.ref a, .int (xk xs i), .int (nI 1), .int (nI 1), .int (nI i)]) rfl (by decide) rfl ?_
            refine mp_iinc dX1_commonestKeyOfSorted_66 rfl (v := nI (i + 1)) mI_inc (ls' := [.ref a, .int (xk xs i), .int (nI 1), .int (nI 1), .int (nI (i + 1))]) rfl (by decide) rfl ?_
            refine mt_goto dX1_commonestKeyOfSorted_69 (tgt := 10) rfl ?_
            exact ih (i + 1) (xk xs i) (nI 1) (nI 1) (by omega) ((mlp_go (by omega) (by simp [q1, q2, q4, q5, nI_0, mI_one] <;> rfl)).symm.trans hr) (by omega)
        · refine mt_iload_n dX1_commonestKeyOfSorted_43 rfl ?_
          refine mt_iconst dX1_commonestKeyOfSorted_44 (v := nI 1) rfl ?_
          refine mp_iadd dX1_commonestKeyOfSorted_45 (v := al + (nI 1)) rfl ?_
          refine mt_goto dX1_commonestKeyOfSorted_46 (tgt := 50) rfl ?_
          refine mp_istore_n dX1_commonestKeyOfSorted_50 (ls' := [.ref a, .int com, .int most, .int (al + (nI 1)), .int (nI i)]) rfl (by decide) rfl ?_
          refine mt_iload_n dX1_commonestKeyOfSorted_51 rfl ?_
          refine mt_iload_n dX1_commonestKeyOfSorted_52 rfl ?_
          refine mt_icmp_le dX1_commonestKeyOfSorted_53 (tgt := 66) rfl (fun q6 => ?_) (fun q6 => ?_)
          · have q6 := Int32.not_lt.mpr q6
            simp only [mI_one, nI_0] at q6
            refine mp_iinc dX1_commonestKeyOfSorted_66 rfl (v := nI (i + 1)) mI_inc (ls' := [.ref a, .int com, .int most, .int (al + (nI 1)), .int (nI (i + 1))]) rfl (by decide) rfl ?_
            refine mt_goto dX1_commonestKeyOfSorted_69 (tgt := 10) rfl ?_
            exact ih (i + 1) com most (al + (nI 1)) (by omega) ((mlp_go (by omega) (by simp [q1, q2, q4, q6, nI_0, mI_one] <;> rfl)).symm.trans hr) (by omega)
          · have q6 := Int32.not_le.mp q6
            simp only [mI_one, nI_0] at q6
            refine mt_iload_n dX1_commonestKeyOfSorted_56 rfl ?_
            refine mp_istore_n dX1_commonestKeyOfSorted_57 (ls' := [.ref a, .int com, .int (al + (nI 1)), .int (al + (nI 1)), .int (nI i)]) rfl (by decide) rfl ?_
            refine mt_aload_n dX1_commonestKeyOfSorted_58 rfl rfl ?_
            refine mt_getfield mKX1 (i := 0) (by decide) mw_67 dX1_commonestKeyOfSorted_59 ea rfl ?_
            refine mt_iload dX1_commonestKeyOfSorted_62 rfl ?_
            refine mp_iaload dX1_commonestKeyOfSorted_64 ek rfl (by omega) (by omega) (v := xk xs i) (qk _ (by omega)) ?_
            refine mp_istore_n dX1_commonestKeyOfSorted_65 (ls' := [.ref a, .int (xk xs i), .int (al + (nI 1)), .int (al + (nI 1)), .int (nI i)]) rfl (by decide) rfl ?_
            refine mp_iinc dX1_commonestKeyOfSorted_66 rfl (v := nI (i + 1)) mI_inc (ls' := [.ref a, .int (xk xs i), .int (al + (nI 1)), .int (al + (nI 1)), .int (nI (i + 1))]) rfl (by decide) rfl ?_
            refine mt_goto dX1_commonestKeyOfSorted_69 (tgt := 10) rfl ?_
            exact ih (i + 1) (xk xs i) (al + (nI 1)) (al + (nI 1)) (by omega) ((mlp_go (by omega) (by simp [q1, q2, q4, q6, nI_0, mI_one] <;> rfl)).symm.trans hr) (by omega)
def q_commonestKeyOfSorted (xs : List mIt) : Int32 := (mlp (fun i (p : Int32 × Int32 × Int32) => let al := if 0 < i ∧ xk xs i = xk xs (i - 1) then p.2.2 + 1 else 1; if p.2.1 < al then (xk xs i, al, al) else (p.1, p.2.1, al)) (xs.length - 0) 0 ((-100000), nI 0, nI 0)).1
set_option maxRecDepth 100000 in
set_option maxHeartbeats 2000000 in
theorem kX1_commonestKeyOfSorted {l : Launch} (hl : l.stackTraces = false) {h : mH} {n a room : Nat} {fl : Int32} {xs : List mIt} (H : rowAt h a room fl xs) : mC l mX1_commonestKeyOfSorted rX1_commonestKeyOfSorted [.ref a] h n (mRi (q_commonestKeyOfSorted xs) h n) (mNX) := by
  obtain ⟨f, g, ea, ek, es, ql, qr, qk, qt⟩ := id H
  refine mm_enter hl (by decide +kernel) rfl rfl rfl (Nat.le_of_ble_eq_true rfl) ?_
  show mT _ _ _ _ 0 [.ref a, .double 0, .double 0, .double 0, .double 0] [] _ _ 0 0
  refine mt_ldc (v := (-100000)) dX1_commonestKeyOfSorted_0 mw_999 ?_
  refine mp_istore_n dX1_commonestKeyOfSorted_2 (ls' := [.ref a, .int (-100000), .double 0, .double 0, .double 0]) rfl (by decide) rfl ?_
  refine mt_iconst dX1_commonestKeyOfSorted_3 (v := nI 0) rfl ?_
  refine mp_istore_n dX1_commonestKeyOfSorted_4 (ls' := [.ref a, .int (-100000), .int (nI 0), .double 0, .double 0]) rfl (by decide) rfl ?_
  refine mt_iconst dX1_commonestKeyOfSorted_5 (v := nI 0) rfl ?_
  refine mp_istore_n dX1_commonestKeyOfSorted_6 (ls' := [.ref a, .int (-100000), .int (nI 0), .int (nI 0), .double 0]) rfl (by decide) rfl ?_
  refine mt_iconst dX1_commonestKeyOfSorted_7 (v := nI 0) rfl ?_
  refine mp_istore dX1_commonestKeyOfSorted_8 (ls' := [.ref a, .int (-100000), .int (nI 0), .int (nI 0), .int (nI 0)]) rfl (by decide) rfl ?_
  refine tX1_commonestKeyOfSorted_10 H (fun com_1 most_2 al_3 i_4 z5 => ?_) (xs.length - 0 + 1) 0 (-100000) (nI 0) (nI 0) (Nat.lt_succ_self _) rfl (by omega)
  refine mt_iload_n dX1_commonestKeyOfSorted_72 rfl ?_
  refine mt_ireturn dX1_commonestKeyOfSorted_73 rfl rfl (Nat.le_of_ble_eq_true rfl) (Nat.le_of_ble_eq_true rfl) ?_
  exact ⟨congrArg (fun x => some (Value.int x.1)) z5, rfl, rfl⟩
abbrev rX1_isRising : Room := { frames := 0, cells := 0, slots := 0, locals := 0 }
set_option maxRecDepth 100000 in
set_option maxHeartbeats 2000000 in
theorem tX1_isRising_2 {l : Launch} {R : Room} {K : mK} {cc sc : Nat} {h : mH} {n a room : Nat} {fl : Int32} {xs : List mIt} {r : Bool} (H : rowAt h a room fl xs) (kk0 : ∀ (i : Nat), (r = true) → mT l mX1_isRising R K 35 [.ref a, .int (nI i)] [] h n cc sc) (kk1 : ∀ (i : Nat), (r = false) → mT l mX1_isRising R K 27 [.ref a, .int (nI i)] [] h n cc sc) : ∀ (N0 : Nat) (i : Nat), (xs.length - i) < N0 → (mall (fun i => decide (¬ xk xs i < xk xs (i - 1))) (xs.length - i) i = r) → (i ≤ xs.length + 1) → (0 < i) → mT l mX1_isRising R K 2 [.ref a, .int (nI i)] [] h n cc sc := by
  intro N0
  induction N0 with
  | zero => intro i hm; exact absurd hm (Nat.not_lt_zero _)
  | succ N0 ih =>
    intro i hm hr hi h0
    obtain ⟨f, g, ea, ek, es, ql, qr, qk, qt⟩ := id H
    refine mt_iload_n dX1_isRising_2 rfl ?_
    refine mt_aload_n dX1_isRising_3 rfl rfl ?_
    refine mt_getfield mKX1 (i := 3) (by decide) mw_77 dX1_isRising_4 ea rfl ?_
    refine mt_icmp_ge dX1_isRising_7 (tgt := 35) rfl (fun q1 => ?_) (fun q1 => ?_)
    · have q1 := Int32.not_lt.mpr q1
      have q1 := (not_congr (nI_ltI (by omega) (by omega))).mp q1
      exact kk0 i (((mall_end (by omega)).symm.trans hr).symm)
    · have q1 := Int32.not_le.mp q1
      have q1 := (nI_ltI (by omega) (by omega)).mp q1
      refine mt_aload_n dX1_isRising_10 rfl rfl ?_
      refine mt_getfield mKX1 (i := 0) (by decide) mw_67 dX1_isRising_11 ea rfl ?_
      refine mt_iload_n dX1_isRising_14 rfl ?_
      refine mt_iconst dX1_isRising_15 (v := nI 1) rfl ?_
      refine mp_isub dX1_isRising_16 (v := nI (i - 1)) (pk_sub (by omega)) ?_
      refine mp_iaload dX1_isRising_17 ek rfl (by omega) (by omega) (v := xk xs (i - 1)) (qk _ (by omega)) ?_
      refine mt_aload_n dX1_isRising_18 rfl rfl ?_
      refine mt_getfield mKX1 (i := 0) (by decide) mw_67 dX1_isRising_19 ea rfl ?_
      refine mt_iload_n dX1_isRising_22 rfl ?_
      refine mp_iaload dX1_isRising_23 ek rfl (by omega) (by omega) (v := xk xs i) (qk _ (by omega)) ?_
      refine mt_icmp_le dX1_isRising_24 (tgt := 29) rfl (fun q2 => ?_) (fun q2 => ?_)
      · have q2 := Int32.not_lt.mpr q2
        refine mp_iinc dX1_isRising_29 rfl (v := nI (i + 1)) mI_inc (ls' := [.ref a, .int (nI (i + 1))]) rfl (by decide) rfl ?_
        refine mt_goto dX1_isRising_32 (tgt := 2) rfl ?_
        exact ih (i + 1) (by omega) ((mall_go (by omega) (by simp [q1, q2])).symm.trans hr) (by omega) (by omega)
      · have q2 := Int32.not_le.mp q2
        exact kk1 i (((mall_no (by omega) (by simp [q1, q2])).symm.trans hr).symm)
def q_isRising (xs : List mIt) : Bool := mall (fun i => decide (¬ xk xs i < xk xs (i - 1))) (xs.length - 1) 1
set_option maxRecDepth 100000 in
set_option maxHeartbeats 2000000 in
theorem kX1_isRising {l : Launch} (hl : l.stackTraces = false) {h : mH} {n a room : Nat} {fl : Int32} {xs : List mIt} (H : rowAt h a room fl xs) : mC l mX1_isRising rX1_isRising [.ref a] h n (mRi (mb (q_isRising xs)) h n) (mNX) := by
  obtain ⟨f, g, ea, ek, es, ql, qr, qk, qt⟩ := id H
  refine mm_enter hl (by decide +kernel) rfl rfl rfl (Nat.le_of_ble_eq_true rfl) ?_
  show mT _ _ _ _ 0 [.ref a, .double 0] [] _ _ 0 0
  refine mt_iconst dX1_isRising_0 (v := nI 1) rfl ?_
  refine mp_istore_n dX1_isRising_1 (ls' := [.ref a, .int (nI 1)]) rfl (by decide) rfl ?_
  refine tX1_isRising_2 H (fun i_1 z2 => ?_) (fun i_3 z4 => ?_) (xs.length - 1 + 1) 1 (Nat.lt_succ_self _) rfl (by omega) (by decide)
  · refine mt_iconst dX1_isRising_35 (v := nI 1) rfl ?_
    refine mt_ireturn dX1_isRising_36 rfl rfl (Nat.le_of_ble_eq_true rfl) (Nat.le_of_ble_eq_true rfl) ?_
    exact ⟨congrArg (fun x => some (Value.int (mb x))) z2.symm, rfl, rfl⟩
  · refine mt_iconst dX1_isRising_27 (v := nI 0) rfl ?_
    refine mt_ireturn dX1_isRising_28 rfl rfl (Nat.le_of_ble_eq_true rfl) (Nat.le_of_ble_eq_true rfl) ?_
    exact ⟨congrArg (fun x => some (Value.int (mb x))) z4.symm, rfl, rfl⟩
abbrev rX1_fallsThroughout : Room := { frames := 0, cells := 0, slots := 0, locals := 0 }
set_option maxRecDepth 100000 in
set_option maxHeartbeats 2000000 in
theorem tX1_fallsThroughout_2 {l : Launch} {R : Room} {K : mK} {cc sc : Nat} {h : mH} {n a room : Nat} {fl : Int32} {xs : List mIt} {r : Bool} (H : rowAt h a room fl xs) (kk0 : ∀ (i : Nat), (r = true) → mT l mX1_fallsThroughout R K 35 [.ref a, .int (nI i)] [] h n cc sc) (kk1 : ∀ (i : Nat), (r = false) → mT l mX1_fallsThroughout R K 27 [.ref a, .int (nI i)] [] h n cc sc) : ∀ (N0 : Nat) (i : Nat), (xs.length - i) < N0 → (mall (fun i => decide (xk xs i < xk xs (i - 1))) (xs.length - i) i = r) → (i ≤ xs.length + 1) → (0 < i) → mT l mX1_fallsThroughout R K 2 [.ref a, .int (nI i)] [] h n cc sc := by
  intro N0
  induction N0 with
  | zero => intro i hm; exact absurd hm (Nat.not_lt_zero _)
  | succ N0 ih =>
    intro i hm hr hi h0
    obtain ⟨f, g, ea, ek, es, ql, qr, qk, qt⟩ := id H
    refine mt_iload_n dX1_fallsThroughout_2 rfl ?_
    refine mt_aload_n dX1_fallsThroughout_3 rfl rfl ?_
    refine mt_getfield mKX1 (i := 3) (by decide) mw_77 dX1_fallsThroughout_4 ea rfl ?_
    refine mt_icmp_ge dX1_fallsThroughout_7 (tgt := 35) rfl (fun q1 => ?_) (fun q1 => ?_)
    · have q1 := Int32.not_lt.mpr q1
      have q1 := (not_congr (nI_ltI (by omega) (by omega))).mp q1
      exact kk0 i (((mall_end (by omega)).symm.trans hr).symm)
    · have q1 := Int32.not_le.mp q1
      have q1 := (nI_ltI (by omega) (by omega)).mp q1
      refine mt_aload_n dX1_fallsThroughout_10 rfl rfl ?_
      refine mt_getfield mKX1 (i := 0) (by decide) mw_67 dX1_fallsThroughout_11 ea rfl ?_
      refine mt_iload_n dX1_fallsThroughout_14 rfl ?_
      refine mt_iconst dX1_fallsThroughout_15 (v := nI 1) rfl ?_
      refine mp_isub dX1_fallsThroughout_16 (v := nI (i - 1)) (pk_sub (by omega)) ?_
      refine mp_iaload dX1_fallsThroughout_17 ek rfl (by omega) (by omega) (v := xk xs (i - 1)) (qk _ (by omega)) ?_
      refine mt_aload_n dX1_fallsThroughout_18 rfl rfl ?_
      refine mt_getfield mKX1 (i := 0) (by decide) mw_67 dX1_fallsThroughout_19 ea rfl ?_
      refine mt_iload_n dX1_fallsThroughout_22 rfl ?_
      refine mp_iaload dX1_fallsThroughout_23 ek rfl (by omega) (by omega) (v := xk xs i) (qk _ (by omega)) ?_
      refine mt_icmp_gt dX1_fallsThroughout_24 (tgt := 29) rfl (fun q2 => ?_) (fun q2 => ?_)
      · refine mp_iinc dX1_fallsThroughout_29 rfl (v := nI (i + 1)) mI_inc (ls' := [.ref a, .int (nI (i + 1))]) rfl (by decide) rfl ?_
        refine mt_goto dX1_fallsThroughout_32 (tgt := 2) rfl ?_
        exact ih (i + 1) (by omega) ((mall_go (by omega) (by simp [q1, q2])).symm.trans hr) (by omega) (by omega)
      · exact kk1 i (((mall_no (by omega) (by simp [q1, q2])).symm.trans hr).symm)
def q_fallsThroughout (xs : List mIt) : Bool := mall (fun i => decide (xk xs i < xk xs (i - 1))) (xs.length - 1) 1
set_option maxRecDepth 100000 in
set_option maxHeartbeats 2000000 in
theorem kX1_fallsThroughout {l : Launch} (hl : l.stackTraces = false) {h : mH} {n a room : Nat} {fl : Int32} {xs : List mIt} (H : rowAt h a room fl xs) : mC l mX1_fallsThroughout rX1_fallsThroughout [.ref a] h n (mRi (mb (q_fallsThroughout xs)) h n) (mNX) := by
  obtain ⟨f, g, ea, ek, es, ql, qr, qk, qt⟩ := id H
  refine mm_enter hl (by decide +kernel) rfl rfl rfl (Nat.le_of_ble_eq_true rfl) ?_
  show mT _ _ _ _ 0 [.ref a, .double 0] [] _ _ 0 0
  refine mt_iconst dX1_fallsThroughout_0 (v := nI 1) rfl ?_
  refine mp_istore_n dX1_fallsThroughout_1 (ls' := [.ref a, .int (nI 1)]) rfl (by decide) rfl ?_
  refine tX1_fallsThroughout_2 H (fun i_1 z2 => ?_) (fun i_3 z4 => ?_) (xs.length - 1 + 1) 1 (Nat.lt_succ_self _) rfl (by omega) (by decide)
  · refine mt_iconst dX1_fallsThroughout_35 (v := nI 1) rfl ?_
    refine mt_ireturn dX1_fallsThroughout_36 rfl rfl (Nat.le_of_ble_eq_true rfl) (Nat.le_of_ble_eq_true rfl) ?_
    exact ⟨congrArg (fun x => some (Value.int (mb x))) z2.symm, rfl, rfl⟩
  · refine mt_iconst dX1_fallsThroughout_27 (v := nI 0) rfl ?_
    refine mt_ireturn dX1_fallsThroughout_28 rfl rfl (Nat.le_of_ble_eq_true rfl) (Nat.le_of_ble_eq_true rfl) ?_
    exact ⟨congrArg (fun x => some (Value.int (mb x))) z4.symm, rfl, rfl⟩
abbrev rX1_keepsStamps : Room := { frames := 0, cells := 0, slots := 0, locals := 0 }
set_option maxRecDepth 100000 in
set_option maxHeartbeats 2000000 in
theorem tX1_keepsStamps_2 {l : Launch} {R : Room} {K : mK} {cc sc : Nat} {h : mH} {n a room : Nat} {fl : Int32} {xs : List mIt} {r : Bool} (H : rowAt h a room fl xs) (kk0 : ∀ (i : Nat), (r = true) → mT l mX1_keepsStamps R K 52 [.ref a, .int (nI i)] [] h n cc sc) (kk1 : ∀ (i : Nat), (r = false) → mT l mX1_keepsStamps R K 44 [.ref a, .int (nI i)] [] h n cc sc) : ∀ (N0 : Nat) (i : Nat), (xs.length - i) < N0 → (mall (fun i => decide (¬ (xk xs (i - 1) = xk xs i ∧ xt xs i < xt xs (i - 1)))) (xs.length - i) i = r) → (i ≤ xs.length + 1) → (0 < i) → mT l mX1_keepsStamps R K 2 [.ref a, .int (nI i)] [] h n cc sc := by
  intro N0
  induction N0 with
  | zero => intro i hm; exact absurd hm (Nat.not_lt_zero _)
  | succ N0 ih =>
    intro i hm hr hi h0
    obtain ⟨f, g, ea, ek, es, ql, qr, qk, qt⟩ := id H
    refine mt_iload_n dX1_keepsStamps_2 rfl ?_
    refine mt_aload_n dX1_keepsStamps_3 rfl rfl ?_
    refine mt_getfield mKX1 (i := 3) (by decide) mw_77 dX1_keepsStamps_4 ea rfl ?_
    refine mt_icmp_ge dX1_keepsStamps_7 (tgt := 52) rfl (fun q1 => ?_) (fun q1 => ?_)
    · have q1 := Int32.not_lt.mpr q1
      have q1 := (not_congr (nI_ltI (by omega) (by omega))).mp q1
      exact kk0 i (((mall_end (by omega)).symm.trans hr).symm)
    · have q1 := Int32.not_le.mp q1
      have q1 := (nI_ltI (by omega) (by omega)).mp q1
      refine mt_aload_n dX1_keepsStamps_10 rfl rfl ?_
      refine mt_getfield mKX1 (i := 0) (by decide) mw_67 dX1_keepsStamps_11 ea rfl ?_
      refine mt_iload_n dX1_keepsStamps_14 rfl ?_
      refine mt_iconst dX1_keepsStamps_15 (v := nI 1) rfl ?_
      refine mp_isub dX1_keepsStamps_16 (v := nI (i - 1)) (pk_sub (by omega)) ?_
      refine mp_iaload dX1_keepsStamps_17 ek rfl (by omega) (by omega) (v := xk xs (i - 1)) (qk _ (by omega)) ?_
      refine mt_aload_n dX1_keepsStamps_18 rfl rfl ?_
      refine mt_getfield mKX1 (i := 0) (by decide) mw_67 dX1_keepsStamps_19 ea rfl ?_
      refine mt_iload_n dX1_keepsStamps_22 rfl ?_
      refine mp_iaload dX1_keepsStamps_23 ek rfl (by omega) (by omega) (v := xk xs i) (qk _ (by omega)) ?_
      refine mt_icmp_ne dX1_keepsStamps_24 (tgt := 46) rfl (fun q2 => ?_) (fun q2 => ?_)
      · refine mp_iinc dX1_keepsStamps_46 rfl (v := nI (i + 1)) mI_inc (ls' := [.ref a, .int (nI (i + 1))]) rfl (by decide) rfl ?_
        refine mt_goto dX1_keepsStamps_49 (tgt := 2) rfl ?_
        exact ih (i + 1) (by omega) ((mall_go (by omega) (by simp [q1, q2])).symm.trans hr) (by omega) (by omega)
      · refine mt_aload_n dX1_keepsStamps_27 rfl rfl ?_
        refine mt_getfield mKX1 (i := 1) (by decide) mw_70 dX1_keepsStamps_28 ea rfl ?_
        refine mt_iload_n dX1_keepsStamps_31 rfl ?_
        refine mt_iconst dX1_keepsStamps_32 (v := nI 1) rfl ?_
        refine mp_isub dX1_keepsStamps_33 (v := nI (i - 1)) (pk_sub (by omega)) ?_
        refine mp_iaload dX1_keepsStamps_34 es rfl (by omega) (by omega) (v := xt xs (i - 1)) (qt _ (by omega)) ?_
        refine mt_aload_n dX1_keepsStamps_35 rfl rfl ?_
        refine mt_getfield mKX1 (i := 1) (by decide) mw_70 dX1_keepsStamps_36 ea rfl ?_
        refine mt_iload_n dX1_keepsStamps_39 rfl ?_
        refine mp_iaload dX1_keepsStamps_40 es rfl (by omega) (by omega) (v := xt xs i) (qt _ (by omega)) ?_
        refine mt_icmp_le dX1_keepsStamps_41 (tgt := 46) rfl (fun q3 => ?_) (fun q3 => ?_)
        · have q3 := Int32.not_lt.mpr q3
          refine mp_iinc dX1_keepsStamps_46 rfl (v := nI (i + 1)) mI_inc (ls' := [.ref a, .int (nI (i + 1))]) rfl (by decide) rfl ?_
          refine mt_goto dX1_keepsStamps_49 (tgt := 2) rfl ?_
          exact ih (i + 1) (by omega) ((mall_go (by omega) (by simp [q1, q2, q3])).symm.trans hr) (by omega) (by omega)
        · have q3 := Int32.not_le.mp q3
          exact kk1 i (((mall_no (by omega) (by simp [q1, q2, q3])).symm.trans hr).symm)
def q_keepsStamps (xs : List mIt) : Bool := mall (fun i => decide (¬ (xk xs (i - 1) = xk xs i ∧ xt xs i < xt xs (i - 1)))) (xs.length - 1) 1
set_option maxRecDepth 100000 in
set_option maxHeartbeats 2000000 in
theorem kX1_keepsStamps {l : Launch} (hl : l.stackTraces = false) {h : mH} {n a room : Nat} {fl : Int32} {xs : List mIt} (H : rowAt h a room fl xs) : mC l mX1_keepsStamps rX1_keepsStamps [.ref a] h n (mRi (mb (q_keepsStamps xs)) h n) (mNX) := by
  obtain ⟨f, g, ea, ek, es, ql, qr, qk, qt⟩ := id H
  refine mm_enter hl (by decide +kernel) rfl rfl rfl (Nat.le_of_ble_eq_true rfl) ?_
  show mT _ _ _ _ 0 [.ref a, .double 0] [] _ _ 0 0
  refine mt_iconst dX1_keepsStamps_0 (v := nI 1) rfl ?_
  refine mp_istore_n dX1_keepsStamps_1 (ls' := [.ref a, .int (nI 1)]) rfl (by decide) rfl ?_
  refine tX1_keepsStamps_2 H (fun i_1 z2 => ?_) (fun i_3 z4 => ?_) (xs.length - 1 + 1) 1 (Nat.lt_succ_self _) rfl (by omega) (by decide)
  · refine mt_iconst dX1_keepsStamps_52 (v := nI 1) rfl ?_
    refine mt_ireturn dX1_keepsStamps_53 rfl rfl (Nat.le_of_ble_eq_true rfl) (Nat.le_of_ble_eq_true rfl) ?_
    exact ⟨congrArg (fun x => some (Value.int (mb x))) z2.symm, rfl, rfl⟩
  · refine mt_iconst dX1_keepsStamps_44 (v := nI 0) rfl ?_
    refine mt_ireturn dX1_keepsStamps_45 rfl rfl (Nat.le_of_ble_eq_true rfl) (Nat.le_of_ble_eq_true rfl) ?_
    exact ⟨congrArg (fun x => some (Value.int (mb x))) z4.symm, rfl, rfl⟩
abbrev rX1_room : Room := { frames := 0, cells := 0, slots := 0, locals := 0 }
set_option maxRecDepth 100000 in
set_option maxHeartbeats 2000000 in
theorem kX1_room {l : Launch} (hl : l.stackTraces = false) {h : mH} {n a room : Nat} {fl : Int32} {xs : List mIt} (H : rowAt h a room fl xs) : mC l mX1_room rX1_room [.ref a] h n (mRi (nI room) h n) (mNX) := by
  obtain ⟨f, g, ea, ek, es, ql, qr, qk, qt⟩ := id H
  refine mm_enter hl (by decide +kernel) rfl rfl rfl (Nat.le_of_ble_eq_true rfl) ?_
  show mT _ _ _ _ 0 [.ref a] [] _ _ 0 0
  refine mt_aload_n dX1_room_0 rfl rfl ?_
  refine mt_getfield mKX1 (i := 0) (by decide) mw_67 dX1_room_1 ea rfl ?_
  refine mt_alen dX1_room_4 ek (by decide) ?_
  refine mt_ireturn dX1_room_5 rfl rfl (Nat.le_of_ble_eq_true rfl) (Nat.le_of_ble_eq_true rfl) ?_
  exact ⟨rfl, rfl, rfl⟩
abbrev rX1_free : Room := { frames := 0, cells := 0, slots := 0, locals := 0 }
set_option maxRecDepth 100000 in
set_option maxHeartbeats 2000000 in
theorem kX1_free {l : Launch} (hl : l.stackTraces = false) {h : mH} {n a room : Nat} {fl : Int32} {xs : List mIt} (H : rowAt h a room fl xs) : mC l mX1_free rX1_free [.ref a] h n (mRi (nI (room - xs.length)) h n) (mNX) := by
  obtain ⟨f, g, ea, ek, es, ql, qr, qk, qt⟩ := id H
  refine mm_enter hl (by decide +kernel) rfl rfl rfl (Nat.le_of_ble_eq_true rfl) ?_
  show mT _ _ _ _ 0 [.ref a] [] _ _ 0 0
  refine mt_aload_n dX1_free_0 rfl rfl ?_
  refine mt_getfield mKX1 (i := 0) (by decide) mw_67 dX1_free_1 ea rfl ?_
  refine mt_alen dX1_free_4 ek (by decide) ?_
  refine mt_aload_n dX1_free_5 rfl rfl ?_
  refine mt_getfield mKX1 (i := 3) (by decide) mw_77 dX1_free_6 ea rfl ?_
  refine mp_isub dX1_free_9 (v := nI (room - xs.length)) (pk_sub (by omega)) ?_
  refine mt_ireturn dX1_free_10 rfl rfl (Nat.le_of_ble_eq_true rfl) (Nat.le_of_ble_eq_true rfl) ?_
  exact ⟨rfl, rfl, rfl⟩
abbrev rX1_append : Room := { frames := 0, cells := 0, slots := 0, locals := 0 }
set_option maxRecDepth 100000 in
set_option maxHeartbeats 2000000 in
theorem kX1_append {l : Launch} (hl : l.stackTraces = false) {h : mH} {n a room : Nat} {fl : Int32} {xs : List mIt} {k s : Int32} (H : rowAt h a room fl xs) (hlt : xs.length < room) : mC l mX1_append rX1_append [.ref a, .int k, .int s] h n (mRw a room fl (xs ++ [(k, s)]) h n) (mNX) := by
  obtain ⟨f_1, g_1, ea_1, ek_1, es_1, ql_1, qr_1, qk_1, qt_1⟩ := id H
  refine mm_enter hl (by decide +kernel) rfl rfl rfl (Nat.le_of_ble_eq_true rfl) ?_
  show mT _ _ _ _ 0 [.ref a, .int k, .int s] [] _ _ 0 0
  refine mt_aload_n dX1_append_0 rfl rfl ?_
  refine mt_getfield mKX1 (i := 3) (by decide) mw_77 dX1_append_1 ea_1 rfl ?_
  refine mt_aload_n dX1_append_4 rfl rfl ?_
  refine mt_getfield mKX1 (i := 0) (by decide) mw_67 dX1_append_5 ea_1 rfl ?_
  refine mt_alen dX1_append_8 ek_1 (by decide) ?_
  refine mt_icmp_ge dX1_append_9 (tgt := 42) rfl (fun q2 => ?_) (fun q2 => ?_)
  · have q2 := Int32.not_lt.mpr q2
    have q2 := (not_congr (nI_ltI (by omega) (by omega))).mp q2
    refine mt_return dX1_append_42 rfl (Nat.le_of_ble_eq_true rfl) (Nat.le_of_ble_eq_true rfl) ?_
    exact absurd hlt (by omega)
  · have q2 := Int32.not_le.mp q2
    have q2 := (nI_ltI (by omega) (by omega)).mp q2
    refine mt_aload_n dX1_append_12 rfl rfl ?_
    refine mt_getfield mKX1 (i := 0) (by decide) mw_67 dX1_append_13 ea_1 rfl ?_
    refine mt_aload_n dX1_append_16 rfl rfl ?_
    refine mt_getfield mKX1 (i := 3) (by decide) mw_77 dX1_append_17 ea_1 rfl ?_
    refine mt_iload_n dX1_append_20 rfl ?_
    refine mp_iastore dX1_append_21 ek_1 rfl (by omega) (by omega) (fun h3 e4 f5 => ?_)
    refine mt_aload_n dX1_append_22 rfl rfl ?_
    refine mt_getfield mKX1 (i := 1) (by decide) mw_70 dX1_append_23 ((f5 (a) (by omega)).trans ea_1) rfl ?_
    refine mt_aload_n dX1_append_26 rfl rfl ?_
    refine mt_getfield mKX1 (i := 3) (by decide) mw_77 dX1_append_27 ((f5 (a) (by omega)).trans ea_1) rfl ?_
    refine mt_iload_n dX1_append_30 rfl ?_
    refine mp_iastore dX1_append_31 ((f5 (a + 2) (by omega)).trans es_1) rfl (by omega) (by omega) (fun h6 e7 f8 => ?_)
    refine mt_aload_n dX1_append_32 rfl rfl ?_
    refine mt_dup dX1_append_33 rfl ?_
    refine mt_getfield mKX1 (i := 3) (by decide) mw_77 dX1_append_34 ((f8 (a) (by omega)).trans ((f5 (a) (by omega)).trans ea_1)) rfl ?_
    refine mt_iconst dX1_append_37 (v := nI 1) rfl ?_
    refine mp_iadd dX1_append_38 (v := nI (xs.length + 1)) (nI_add _ _) ?_
    refine mp_putfield mKX1 (i := 3) (fs' := [.ref (a + 1), .ref (a + 2), .int fl, .int (nI (xs.length + 1))]) (by decide) mw_77 rfl dX1_append_39 ((f8 (a) (by omega)).trans ((f5 (a) (by omega)).trans ea_1)) (Nat.le_of_ble_eq_true rfl) rfl rfl (fun h9 e10 f11 => ?_)
    refine mt_return dX1_append_42 rfl (Nat.le_of_ble_eq_true rfl) (Nat.le_of_ble_eq_true rfl) ?_
    exact ⟨rfl, rfl, rowAt.snoc (e10) ((f11 (a + 1) (by omega)).trans ((f8 (a + 1) (by omega)).trans e4)) ((f11 (a + 2) (by omega)).trans e7) hlt qr_1 qk_1 qt_1, fun j hj => (f11 j (by omega)).trans ((f8 j (by omega)).trans (f5 j (by omega)))⟩
abbrev rX1_empty : Room := { frames := 0, cells := 0, slots := 0, locals := 0 }
set_option maxRecDepth 100000 in
set_option maxHeartbeats 2000000 in
theorem kX1_empty {l : Launch} (hl : l.stackTraces = false) {h : mH} {n a room : Nat} {fl : Int32} {xs : List mIt} (H : rowAt h a room fl xs) : mC l mX1_empty rX1_empty [.ref a] h n (mRw a room fl [] h n) (mNX) := by
  refine mm_enter hl (by decide +kernel) rfl rfl rfl (Nat.le_of_ble_eq_true rfl) ?_
  show mT _ _ _ _ 0 [.ref a] [] _ _ 0 0
  refine mt_aload_n dX1_empty_0 rfl rfl ?_
  refine mt_iconst dX1_empty_1 (v := nI 0) rfl ?_
  obtain ⟨f_1, g_1, ea_1, ek_1, es_1, ql_1, qr_1, qk_1, qt_1⟩ := id H
  refine mp_putfield mKX1 (i := 3) (fs' := [.ref (a + 1), .ref (a + 2), .int fl, .int (nI 0)]) (by decide) mw_77 rfl dX1_empty_2 ea_1 (Nat.le_of_ble_eq_true rfl) rfl rfl (fun h2 e3 f4 => ?_)
  refine mt_return dX1_empty_5 rfl (Nat.le_of_ble_eq_true rfl) (Nat.le_of_ble_eq_true rfl) ?_
  exact ⟨rfl, rfl, ⟨_, _, e3, ((f4 (a + 1) (by omega)).trans ek_1), ((f4 (a + 2) (by omega)).trans es_1), Nat.zero_le _, qr_1, fun i hi => absurd hi (Nat.not_lt_zero _), fun i hi => absurd hi (Nat.not_lt_zero _)⟩, fun j hj => f4 j (by omega)⟩
abbrev rX1_otherKeys : Room := { frames := 1, cells := 0, slots := 0, locals := 21 }
set_option maxRecDepth 100000 in
set_option maxHeartbeats 2000000 in
theorem tX1_otherKeys_17 {l : Launch} {R : Room} {K : mK} {cc sc : Nat} {h : mH} {n a b room room2 : Nat} {fl fl2 : Int32} {xs ys : List mIt} {r : Int32}  (H : rowAt h a room fl xs) (H2 : rowAt h b room2 fl2 ys) (kk0 : ∀ (acc : Int32) (i : Nat), (acc = r) → mT l mX1_otherKeys R K 49 [.ref a, .ref b, .int (nI (min xs.length ys.length)), .int acc, .int (nI i)] [] h n cc sc) : ∀ (N0 : Nat) (i : Nat) (acc : Int32), ((min xs.length ys.length) - i) < N0 → (mlp (fun i acc => if xk xs i = xk ys i then acc else acc + 1) ((min xs.length ys.length) - i) i acc = r) → (i ≤ (min xs.length ys.length) + 1) → mT l mX1_otherKeys R K 17 [.ref a, .ref b, .int (nI (min xs.length ys.length)), .int acc, .int (nI i)] [] h n cc sc := by
  intro N0
  induction N0 with
  | zero => intro i acc hm; exact absurd hm (Nat.not_lt_zero _)
  | succ N0 ih =>
    intro i acc hm hr hi
    obtain ⟨f, g, ea, ek, es, ql, qr, qk, qt⟩ := id H
    obtain ⟨f2, g2, ea2, ek2, es2, ql2, qr2, qk2, qt2⟩ := id H2
    refine mt_iload dX1_otherKeys_17 rfl ?_
    refine mt_iload_n dX1_otherKeys_19 rfl ?_
    refine mt_icmp_ge dX1_otherKeys_20 (tgt := 49) rfl (fun q1 => ?_) (fun q1 => ?_)
    · have q1 := Int32.not_lt.mpr q1
      have q1 := (not_congr (nI_ltI (by omega) (by omega))).mp q1
      exact kk0 acc i ((mlp_end (by omega)).symm.trans hr)
    · have q1 := Int32.not_le.mp q1
      have q1 := (nI_ltI (by omega) (by omega)).mp q1
      refine mt_aload_n dX1_otherKeys_23 rfl rfl ?_
      refine mt_getfield mKX1 (i := 0) (by decide) mw_67 dX1_otherKeys_24 ea rfl ?_
      refine mt_iload dX1_otherKeys_27 rfl ?_
      refine mp_iaload dX1_otherKeys_29 ek rfl (by omega) (by omega) (v := xk xs i) (qk _ (by omega)) ?_
      refine mt_aload_n dX1_otherKeys_30 rfl rfl ?_
      refine mt_getfield mKX1 (i := 0) (by decide) mw_67 dX1_otherKeys_31 ea2 rfl ?_
      refine mt_iload dX1_otherKeys_34 rfl ?_
      refine mp_iaload dX1_otherKeys_36 ek2 rfl (by omega) (by omega) (v := xk ys i) (qk2 _ (by omega)) ?_
      refine mt_icmp_eq dX1_otherKeys_37 (tgt := 43) rfl (fun q2 => ?_) (fun q2 => ?_)
      · refine mp_iinc dX1_otherKeys_43 rfl (v := nI (i + 1)) mI_inc (ls' := [.ref a, .ref b, .int (nI (min xs.length ys.length)), .int acc, .int (nI (i + 1))]) rfl (by decide) rfl ?_
        refine mt_goto dX1_otherKeys_46 (tgt := 17) rfl ?_
        exact ih (i + 1) acc (by omega) ((mlp_go (by omega) (by simp [q1, q2, nI_0, mI_one] <;> rfl)).symm.trans hr) (by omega)
      · refine mp_iinc dX1_otherKeys_40 rfl (v := acc + 1) rfl (ls' := [.ref a, .ref b, .int (nI (min xs.length ys.length)), .int (acc + 1), .int (nI i)]) rfl (by decide) rfl ?_
        refine mp_iinc dX1_otherKeys_43 rfl (v := nI (i + 1)) mI_inc (ls' := [.ref a, .ref b, .int (nI (min xs.length ys.length)), .int (acc + 1), .int (nI (i + 1))]) rfl (by decide) rfl ?_
        refine mt_goto dX1_otherKeys_46 (tgt := 17) rfl ?_
        exact ih (i + 1) (acc + 1) (by omega) ((mlp_go (by omega) (by simp [q1, q2, nI_0, mI_one] <;> rfl)).symm.trans hr) (by omega)
def q_otherKeys (xs ys : List mIt) : Int32 := mlp (fun i acc => if xk xs i = xk ys i then acc else acc + 1) ((min xs.length ys.length) - 0) 0 (nI 0)
set_option maxRecDepth 100000 in
set_option maxHeartbeats 2000000 in
theorem kX1_otherKeys {l : Launch} (hl : l.stackTraces = false) {h : mH} {n a b room room2 : Nat} {fl fl2 : Int32} {xs ys : List mIt} (H : rowAt h a room fl xs) (H2 : rowAt h b room2 fl2 ys) : mC l mX1_otherKeys rX1_otherKeys [.ref a, .ref b] h n (mRi (q_otherKeys xs ys) h n) (mNX) := by
  obtain ⟨f, g, ea, ek, es, ql, qr, qk, qt⟩ := id H
  obtain ⟨f2, g2, ea2, ek2, es2, ql2, qr2, qk2, qt2⟩ := id H2
  refine mm_enter hl (by decide +kernel) rfl rfl rfl (Nat.le_of_ble_eq_true rfl) ?_
  show mT _ _ _ _ 0 [.ref a, .ref b, .double 0, .double 0, .double 0] [] _ _ 0 0
  refine mt_aload_n dX1_otherKeys_0 rfl rfl ?_
  refine mt_getfield mKX1 (i := 3) (by decide) mw_77 dX1_otherKeys_1 ea rfl ?_
  refine mt_aload_n dX1_otherKeys_4 rfl rfl ?_
  refine mt_getfield mKX1 (i := 3) (by decide) mw_77 dX1_otherKeys_5 ea2 rfl ?_
  refine mt_mmin dX1_otherKeys_8 mw_151 mw_152 mw_41 (mw_min) (Nat.le_of_ble_eq_true rfl) ⟨Nat.le_of_ble_eq_true rfl, Nat.le_of_ble_eq_true rfl⟩ (Nat.le_of_ble_eq_true rfl) (Nat.le_of_ble_eq_true rfl) (v := nI (min xs.length ys.length)) (mI_min (by omega) (by omega)) ?_
  refine mp_istore_n dX1_otherKeys_11 (ls' := [.ref a, .ref b, .int (nI (min xs.length ys.length)), .double 0, .double 0]) rfl (by decide) rfl ?_
  refine mt_iconst dX1_otherKeys_12 (v := nI 0) rfl ?_
  refine mp_istore_n dX1_otherKeys_13 (ls' := [.ref a, .ref b, .int (nI (min xs.length ys.length)), .int (nI 0), .double 0]) rfl (by decide) rfl ?_
  refine mt_iconst dX1_otherKeys_14 (v := nI 0) rfl ?_
  refine mp_istore dX1_otherKeys_15 (ls' := [.ref a, .ref b, .int (nI (min xs.length ys.length)), .int (nI 0), .int (nI 0)]) rfl (by decide) rfl ?_
  refine tX1_otherKeys_17 H H2 (fun acc_1 i_2 z3 => ?_) ((min xs.length ys.length) - 0 + 1) 0 (nI 0) (Nat.lt_succ_self _) rfl (by omega)
  refine mt_iload_n dX1_otherKeys_49 rfl ?_
  refine mt_ireturn dX1_otherKeys_50 rfl rfl (Nat.le_of_ble_eq_true rfl) (Nat.le_of_ble_eq_true rfl) ?_
  exact ⟨congrArg (fun x => some (Value.int x)) z3, rfl, rfl⟩
abbrev rX1_otherItems : Room := { frames := 1, cells := 0, slots := 0, locals := 21 }
set_option maxRecDepth 100000 in
set_option maxHeartbeats 2000000 in
theorem tX1_otherItems_17 {l : Launch} {R : Room} {K : mK} {cc sc : Nat} {h : mH} {n a b room room2 : Nat} {fl fl2 : Int32} {xs ys : List mIt} {r : Int32}  (H : rowAt h a room fl xs) (H2 : rowAt h b room2 fl2 ys) (kk0 : ∀ (acc : Int32) (i : Nat), (acc = r) → mT l mX1_otherItems R K 66 [.ref a, .ref b, .int (nI (min xs.length ys.length)), .int acc, .int (nI i)] [] h n cc sc) : ∀ (N0 : Nat) (i : Nat) (acc : Int32), ((min xs.length ys.length) - i) < N0 → (mlp (fun i acc => if xk xs i = xk ys i ∧ xt xs i = xt ys i then acc else acc + 1) ((min xs.length ys.length) - i) i acc = r) → (i ≤ (min xs.length ys.length) + 1) → mT l mX1_otherItems R K 17 [.ref a, .ref b, .int (nI (min xs.length ys.length)), .int acc, .int (nI i)] [] h n cc sc := by
  intro N0
  induction N0 with
  | zero => intro i acc hm; exact absurd hm (Nat.not_lt_zero _)
  | succ N0 ih =>
    intro i acc hm hr hi
    obtain ⟨f, g, ea, ek, es, ql, qr, qk, qt⟩ := id H
    obtain ⟨f2, g2, ea2, ek2, es2, ql2, qr2, qk2, qt2⟩ := id H2
    refine mt_iload dX1_otherItems_17 rfl ?_
    refine mt_iload_n dX1_otherItems_19 rfl ?_
    refine mt_icmp_ge dX1_otherItems_20 (tgt := 66) rfl (fun q1 => ?_) (fun q1 => ?_)
    · have q1 := Int32.not_lt.mpr q1
      have q1 := (not_congr (nI_ltI (by omega) (by omega))).mp q1
      exact kk0 acc i ((mlp_end (by omega)).symm.trans hr)
    · have q1 := Int32.not_le.mp q1
      have q1 := (nI_ltI (by omega) (by omega)).mp q1
      refine mt_aload_n dX1_otherItems_23 rfl rfl ?_
      refine mt_getfield mKX1 (i := 0) (by decide) mw_67 dX1_otherItems_24 ea rfl ?_
      refine mt_iload dX1_otherItems_27 rfl ?_
      refine mp_iaload dX1_otherItems_29 ek rfl (by omega) (by omega) (v := xk xs i) (qk _ (by omega)) ?_
      refine mt_aload_n dX1_otherItems_30 rfl rfl ?_
      refine mt_getfield mKX1 (i := 0) (by decide) mw_67 dX1_otherItems_31 ea2 rfl ?_
      refine mt_iload dX1_otherItems_34 rfl ?_
      refine mp_iaload dX1_otherItems_36 ek2 rfl (by omega) (by omega) (v := xk ys i) (qk2 _ (by omega)) ?_
      refine mt_icmp_ne dX1_otherItems_37 (tgt := 57) rfl (fun q2 => ?_) (fun q2 => ?_)
      · refine mp_iinc dX1_otherItems_57 rfl (v := acc + 1) rfl (ls' := [.ref a, .ref b, .int (nI (min xs.length ys.length)), .int (acc + 1), .int (nI i)]) rfl (by decide) rfl ?_
        refine mp_iinc dX1_otherItems_60 rfl (v := nI (i + 1)) mI_inc (ls' := [.ref a, .ref b, .int (nI (min xs.length ys.length)), .int (acc + 1), .int (nI (i + 1))]) rfl (by decide) rfl ?_
        refine mt_goto dX1_otherItems_63 (tgt := 17) rfl ?_
        exact ih (i + 1) (acc + 1) (by omega) ((mlp_go (by omega) (by simp [q1, q2, nI_0, mI_one] <;> rfl)).symm.trans hr) (by omega)
      · refine mt_aload_n dX1_otherItems_40 rfl rfl ?_
        refine mt_getfield mKX1 (i := 1) (by decide) mw_70 dX1_otherItems_41 ea rfl ?_
        refine mt_iload dX1_otherItems_44 rfl ?_
        refine mp_iaload dX1_otherItems_46 es rfl (by omega) (by omega) (v := xt xs i) (qt _ (by omega)) ?_
        refine mt_aload_n dX1_otherItems_47 rfl rfl ?_
        refine mt_getfield mKX1 (i := 1) (by decide) mw_70 dX1_otherItems_48 ea2 rfl ?_
        refine mt_iload dX1_otherItems_51 rfl ?_
        refine mp_iaload dX1_otherItems_53 es2 rfl (by omega) (by omega) (v := xt ys i) (qt2 _ (by omega)) ?_
        refine mt_icmp_eq dX1_otherItems_54 (tgt := 60) rfl (fun q3 => ?_) (fun q3 => ?_)
        · refine mp_iinc dX1_otherItems_60 rfl (v := nI (i + 1)) mI_inc (ls' := [.ref a, .ref b, .int (nI (min xs.length ys.length)), .int acc, .int (nI (i + 1))]) rfl (by decide) rfl ?_
          refine mt_goto dX1_otherItems_63 (tgt := 17) rfl ?_
          exact ih (i + 1) acc (by omega) ((mlp_go (by omega) (by simp [q1, q2, q3, nI_0, mI_one] <;> rfl)).symm.trans hr) (by omega)
        · refine mp_iinc dX1_otherItems_57 rfl (v := acc + 1) rfl (ls' := [.ref a, .ref b, .int (nI (min xs.length ys.length)), .int (acc + 1), .int (nI i)]) rfl (by decide) rfl ?_
          refine mp_iinc dX1_otherItems_60 rfl (v := nI (i + 1)) mI_inc (ls' := [.ref a, .ref b, .int (nI (min xs.length ys.length)), .int (acc + 1), .int (nI (i + 1))]) rfl (by decide) rfl ?_
          refine mt_goto dX1_otherItems_63 (tgt := 17) rfl ?_
          exact ih (i + 1) (acc + 1) (by omega) ((mlp_go (by omega) (by simp [q1, q2, q3, nI_0, mI_one] <;> rfl)).symm.trans hr) (by omega)
def q_otherItems (xs ys : List mIt) : Int32 := mlp (fun i acc => if xk xs i = xk ys i ∧ xt xs i = xt ys i then acc else acc + 1) ((min xs.length ys.length) - 0) 0 (nI 0)
set_option maxRecDepth 100000 in
set_option maxHeartbeats 2000000 in
theorem kX1_otherItems {l : Launch} (hl : l.stackTraces = false) {h : mH} {n a b room room2 : Nat} {fl fl2 : Int32} {xs ys : List mIt} (H : rowAt h a room fl xs) (H2 : rowAt h b room2 fl2 ys) : mC l mX1_otherItems rX1_otherItems [.ref a, .ref b] h n (mRi (q_otherItems xs ys) h n) (mNX) := by
  obtain ⟨f, g, ea, ek, es, ql, qr, qk, qt⟩ := id H
  obtain ⟨f2, g2, ea2, ek2, es2, ql2, qr2, qk2, qt2⟩ := id H2
  refine mm_enter hl (by decide +kernel) rfl rfl rfl (Nat.le_of_ble_eq_true rfl) ?_
  show mT _ _ _ _ 0 [.ref a, .ref b, .double 0, .double 0, .double 0] [] _ _ 0 0
  refine mt_aload_n dX1_otherItems_0 rfl rfl ?_
  refine mt_getfield mKX1 (i := 3) (by decide) mw_77 dX1_otherItems_1 ea rfl ?_
  refine mt_aload_n dX1_otherItems_4 rfl rfl ?_
  refine mt_getfield mKX1 (i := 3) (by decide) mw_77 dX1_otherItems_5 ea2 rfl ?_
  refine mt_mmin dX1_otherItems_8 mw_151 mw_152 mw_41 (mw_min) (Nat.le_of_ble_eq_true rfl) ⟨Nat.le_of_ble_eq_true rfl, Nat.le_of_ble_eq_true rfl⟩ (Nat.le_of_ble_eq_true rfl) (Nat.le_of_ble_eq_true rfl) (v := nI (min xs.length ys.length)) (mI_min (by omega) (by omega)) ?_
  refine mp_istore_n dX1_otherItems_11 (ls' := [.ref a, .ref b, .int (nI (min xs.length ys.length)), .double 0, .double 0]) rfl (by decide) rfl ?_
  refine mt_iconst dX1_otherItems_12 (v := nI 0) rfl ?_
  refine mp_istore_n dX1_otherItems_13 (ls' := [.ref a, .ref b, .int (nI (min xs.length ys.length)), .int (nI 0), .double 0]) rfl (by decide) rfl ?_
  refine mt_iconst dX1_otherItems_14 (v := nI 0) rfl ?_
  refine mp_istore dX1_otherItems_15 (ls' := [.ref a, .ref b, .int (nI (min xs.length ys.length)), .int (nI 0), .int (nI 0)]) rfl (by decide) rfl ?_
  refine tX1_otherItems_17 H H2 (fun acc_1 i_2 z3 => ?_) ((min xs.length ys.length) - 0 + 1) 0 (nI 0) (Nat.lt_succ_self _) rfl (by omega)
  refine mt_iload_n dX1_otherItems_66 rfl ?_
  refine mt_ireturn dX1_otherItems_67 rfl rfl (Nat.le_of_ble_eq_true rfl) (Nat.le_of_ble_eq_true rfl) ?_
  exact ⟨congrArg (fun x => some (Value.int x)) z3, rfl, rfl⟩
abbrev rX1_rankAt : Room := { frames := 0, cells := 0, slots := 0, locals := 0 }
def rankf (xs : List mIt) (i : Nat) : Nat := mlp (fun j acc => if xk xs j < xk xs i ∨ (j < i ∧ xk xs j = xk xs i) then acc + 1 else acc) (xs.length - 0) 0 0
theorem rankf_le {xs : List mIt} {i : Nat} : rankf xs i ≤ xs.length := by
  have := @mlp_le (fun j acc => if xk xs j < xk xs i ∨ (j < i ∧ xk xs j = xk xs i) then acc + 1 else acc) (fun j a => by split <;> omega) (xs.length - 0) 0 0
  unfold rankf
  omega
set_option maxRecDepth 100000 in
set_option maxHeartbeats 2000000 in
theorem tX1_rankAt_12 {l : Launch} {R : Room} {K : mK} {cc sc : Nat} {h : mH} {n a room : Nat} {fl : Int32} {xs : List mIt} {i r : Nat} (H : rowAt h a room fl xs) (kk0 : ∀ (acc : Nat) (j : Nat), (acc = r) → mT l mX1_rankAt R K 58 [.ref a, .int (nI i), .int (xk xs i), .int (nI acc), .int (nI j)] [] h n cc sc) : ∀ (N0 : Nat) (j : Nat) (acc : Nat), (xs.length - j) < N0 → (mlp (fun j acc => if xk xs j < xk xs i ∨ (j < i ∧ xk xs j = xk xs i) then acc + 1 else acc) (xs.length - j) j acc = r) → (j ≤ xs.length) → (i < xs.length) → (acc ≤ j) → mT l mX1_rankAt R K 12 [.ref a, .int (nI i), .int (xk xs i), .int (nI acc), .int (nI j)] [] h n cc sc := by
  intro N0
  induction N0 with
  | zero => intro j acc hm; exact absurd hm (Nat.not_lt_zero _)
  | succ N0 ih =>
    intro j acc hm hr hj hi ha
    obtain ⟨f, g, ea, ek, es, ql, qr, qk, qt⟩ := id H
    refine mt_iload dX1_rankAt_12 rfl ?_
    refine mt_aload_n dX1_rankAt_14 rfl rfl ?_
    refine mt_getfield mKX1 (i := 3) (by decide) mw_77 dX1_rankAt_15 ea rfl ?_
    refine mt_icmp_ge dX1_rankAt_18 (tgt := 58) rfl (fun q1 => ?_) (fun q1 => ?_)
    · have q1 := Int32.not_lt.mpr q1
      have q1 := (not_congr (nI_ltI (by omega) (by omega))).mp q1
      exact kk0 acc j ((mlp_end (by omega)).symm.trans hr)
    · have q1 := Int32.not_le.mp q1
      have q1 := (nI_ltI (by omega) (by omega)).mp q1
      refine mt_aload_n dX1_rankAt_21 rfl rfl ?_
      refine mt_getfield mKX1 (i := 0) (by decide) mw_67 dX1_rankAt_22 ea rfl ?_
      refine mt_iload dX1_rankAt_25 rfl ?_
      refine mp_iaload dX1_rankAt_27 ek rfl (by omega) (by omega) (v := xk xs j) (qk _ (by omega)) ?_
      refine mt_iload_n dX1_rankAt_28 rfl ?_
      refine mt_icmp_lt dX1_rankAt_29 (tgt := 49) rfl (fun q2 => ?_) (fun q2 => ?_)
      · refine mp_iinc dX1_rankAt_49 rfl (v := nI (acc + 1)) mI_inc (ls' := [.ref a, .int (nI i), .int (xk xs i), .int (nI (acc + 1)), .int (nI j)]) rfl (by decide) rfl ?_
        refine mp_iinc dX1_rankAt_52 rfl (v := nI (j + 1)) mI_inc (ls' := [.ref a, .int (nI i), .int (xk xs i), .int (nI (acc + 1)), .int (nI (j + 1))]) rfl (by decide) rfl ?_
        refine mt_goto dX1_rankAt_55 (tgt := 12) rfl ?_
        exact ih (j + 1) (acc + 1) (by omega) ((mlp_go (by omega) (by simp [q1, q2, nI_0, mI_one] <;> rfl)).symm.trans hr) (by omega) hi (by omega)
      · refine mt_iload dX1_rankAt_32 rfl ?_
        refine mt_iload_n dX1_rankAt_34 rfl ?_
        refine mt_icmp_ge dX1_rankAt_35 (tgt := 52) rfl (fun q3 => ?_) (fun q3 => ?_)
        · have q3 := Int32.not_lt.mpr q3
          have q3 := (not_congr (nI_ltI (by omega) (by omega))).mp q3
          refine mp_iinc dX1_rankAt_52 rfl (v := nI (j + 1)) mI_inc (ls' := [.ref a, .int (nI i), .int (xk xs i), .int (nI acc), .int (nI (j + 1))]) rfl (by decide) rfl ?_
          refine mt_goto dX1_rankAt_55 (tgt := 12) rfl ?_
          exact ih (j + 1) acc (by omega) ((mlp_go (by omega) (by simp [q1, q2, q3, nI_0, mI_one] <;> rfl)).symm.trans hr) (by omega) hi (by omega)
        · have q3 := Int32.not_le.mp q3
          have q3 := (nI_ltI (by omega) (by omega)).mp q3
          refine mt_aload_n dX1_rankAt_38 rfl rfl ?_
          refine mt_getfield mKX1 (i := 0) (by decide) mw_67 dX1_rankAt_39 ea rfl ?_
          refine mt_iload dX1_rankAt_42 rfl ?_
          refine mp_iaload dX1_rankAt_44 ek rfl (by omega) (by omega) (v := xk xs j) (qk _ (by omega)) ?_
          refine mt_iload_n dX1_rankAt_45 rfl ?_
          refine mt_icmp_ne dX1_rankAt_46 (tgt := 52) rfl (fun q4 => ?_) (fun q4 => ?_)
          · refine mp_iinc dX1_rankAt_52 rfl (v := nI (j + 1)) mI_inc (ls' := [.ref a, .int (nI i), .int (xk xs i), .int (nI acc), .int (nI (j + 1))]) rfl (by decide) rfl ?_
            refine mt_goto dX1_rankAt_55 (tgt := 12) rfl ?_
            exact ih (j + 1) acc (by omega) ((mlp_go (by omega) (by simp [q1, q2, q3, q4, nI_0, mI_one] <;> rfl)).symm.trans hr) (by omega) hi (by omega)
          · refine mp_iinc dX1_rankAt_49 rfl (v := nI (acc + 1)) mI_inc (ls' := [.ref a, .int (nI i), .int (xk xs i), .int (nI (acc + 1)), .int (nI j)]) rfl (by decide) rfl ?_
            refine mp_iinc dX1_rankAt_52 rfl (v := nI (j + 1)) mI_inc (ls' := [.ref a, .int (nI i), .int (xk xs i), .int (nI (acc + 1)), .int (nI (j + 1))]) rfl (by decide) rfl ?_
            refine mt_goto dX1_rankAt_55 (tgt := 12) rfl ?_
            exact ih (j + 1) (acc + 1) (by omega) ((mlp_go (by omega) (by simp [q1, q2, q3, q4, nI_0, mI_one] <;> rfl)).symm.trans hr) (by omega) hi (by omega)
set_option maxRecDepth 100000 in
set_option maxHeartbeats 2000000 in
theorem kX1_rankAt {l : Launch} (hl : l.stackTraces = false) {h : mH} {n a room : Nat} {fl : Int32} {xs : List mIt} {i : Nat} (H : rowAt h a room fl xs) (hi : i < xs.length) : mC l mX1_rankAt rX1_rankAt [.ref a, .int (nI i)] h n (mRi (nI (rankf xs i)) h n) (mNX) := by
  obtain ⟨f, g, ea, ek, es, ql, qr, qk, qt⟩ := id H
  refine mm_enter hl (by decide +kernel) rfl rfl rfl (Nat.le_of_ble_eq_true rfl) ?_
  show mT _ _ _ _ 0 [.ref a, .int (nI i), .double 0, .double 0, .double 0] [] _ _ 0 0
  refine mt_aload_n dX1_rankAt_0 rfl rfl ?_
  refine mt_getfield mKX1 (i := 0) (by decide) mw_67 dX1_rankAt_1 ea rfl ?_
  refine mt_iload_n dX1_rankAt_4 rfl ?_
  refine mp_iaload dX1_rankAt_5 ek rfl (by omega) (by omega) (v := xk xs i) (qk _ (by omega)) ?_
  refine mp_istore_n dX1_rankAt_6 (ls' := [.ref a, .int (nI i), .int (xk xs i), .double 0, .double 0]) rfl (by decide) rfl ?_
  refine mt_iconst dX1_rankAt_7 (v := nI 0) rfl ?_
  refine mp_istore_n dX1_rankAt_8 (ls' := [.ref a, .int (nI i), .int (xk xs i), .int (nI 0), .double 0]) rfl (by decide) rfl ?_
  refine mt_iconst dX1_rankAt_9 (v := nI 0) rfl ?_
  refine mp_istore dX1_rankAt_10 (ls' := [.ref a, .int (nI i), .int (xk xs i), .int (nI 0), .int (nI 0)]) rfl (by decide) rfl ?_
  refine tX1_rankAt_12 H (fun acc_1 j_2 z3 => ?_) (xs.length - 0 + 1) 0 0 (Nat.lt_succ_self _) rfl (by omega) hi (by omega)
  refine mt_iload_n dX1_rankAt_58 rfl ?_
  refine mt_ireturn dX1_rankAt_59 rfl rfl (Nat.le_of_ble_eq_true rfl) (Nat.le_of_ble_eq_true rfl) ?_
  exact ⟨congrArg (fun x => some (Value.int (nI x))) z3, rfl, rfl⟩
abbrev rX1_standsByRanksIn : Room := { frames := 1, cells := 0, slots := 0, locals := 24 }
set_option maxRecDepth 100000 in
set_option maxHeartbeats 2000000 in
theorem tX1_standsByRanksIn_2 {l : Launch} {K : mK} {h : mH} {n a b room room2 : Nat} {fl fl2 : Int32} {xs ys : List mIt} {r : Bool} (hl : l.stackTraces = false) (H : rowAt h a room fl xs) (H2 : rowAt h b room2 fl2 ys) (kk0 : ∀ (i : Nat), (r = true) → mT l mX1_standsByRanksIn rX1_standsByRanksIn K 62 [.ref a, .ref b, .int (nI i), .double 0] [] h n 0 0) (kk1 : ∀ (i : Nat), (r = false) → mT l mX1_standsByRanksIn rX1_standsByRanksIn K 54 [.ref a, .ref b, .int (nI i), .double 0] [] h n 0 0) : ∀ (N0 : Nat) (i : Nat), (xs.length - i) < N0 → (mall (fun i => decide (rankf xs i < ys.length ∧ xk ys (rankf xs i) = xk xs i ∧ xt ys (rankf xs i) = xt xs i)) (xs.length - i) i = r) → (i ≤ xs.length + 1) → mT l mX1_standsByRanksIn rX1_standsByRanksIn K 2 [.ref a, .ref b, .int (nI i), .double 0] [] h n 0 0 := by
  intro N0
  induction N0 with
  | zero => intro i hm; exact absurd hm (Nat.not_lt_zero _)
  | succ N0 ih =>
    intro i hm hr hi
    obtain ⟨f_1, g_1, ea_1, ek_1, es_1, ql_1, qr_1, qk_1, qt_1⟩ := id H
    obtain ⟨f_2, g_2, ea_2, ek_2, es_2, ql_2, qr_2, qk_2, qt_2⟩ := id H2
    refine mt_iload_n dX1_standsByRanksIn_2 rfl ?_
    refine mt_aload_n dX1_standsByRanksIn_3 rfl rfl ?_
    refine mt_getfield mKX1 (i := 3) (by decide) mw_77 dX1_standsByRanksIn_4 ea_1 rfl ?_
    refine mt_icmp_ge dX1_standsByRanksIn_7 (tgt := 62) rfl (fun q3 => ?_) (fun q3 => ?_)
    · have q3 := Int32.not_lt.mpr q3
      have q3 := (not_congr (nI_ltI (by omega) (by omega))).mp q3
      exact kk0 i (((mall_end (by omega)).symm.trans hr).symm)
    · have q3 := Int32.not_le.mp q3
      have q3 := (nI_ltI (by omega) (by omega)).mp q3
      refine mt_aload_n dX1_standsByRanksIn_10 rfl rfl ?_
      refine mt_iload_n dX1_standsByRanksIn_11 rfl ?_
      refine mt_callV (N := mX1_rankAt) (Rc := rX1_rankAt) (As := [.int (nI i)]) (st := []) dX1_standsByRanksIn_12 (kX1_rankAt hl H (by omega)) sX1_rankAt mw_198 mKX1 rfl ea_1 rfl (Nat.le_of_ble_eq_true rfl) ⟨⟨Nat.le_of_ble_eq_true rfl, Nat.le_of_ble_eq_true rfl⟩, Nat.le_of_ble_eq_true rfl, Nat.le_of_ble_eq_true rfl⟩ (fun v4 h5 n6 c7 => ?_) (fun _ _ _ hx => hx.elim)
      obtain ⟨c7a, c7b, c7c⟩ := c7
      rw [c7a, c7b, c7c]
      show mT _ _ _ _ 15 [.ref a, .ref b, .int (nI i), .double 0] [.int (nI (rankf xs i))] _ _ _ _
      refine mp_istore_n dX1_standsByRanksIn_15 (ls' := [.ref a, .ref b, .int (nI i), .int (nI (rankf xs i))]) rfl (by decide) rfl ?_
      have rl := @rankf_le xs i
      refine mt_iload_n dX1_standsByRanksIn_16 rfl ?_
      refine mt_aload_n dX1_standsByRanksIn_17 rfl rfl ?_
      refine mt_getfield mKX1 (i := 3) (by decide) mw_77 dX1_standsByRanksIn_18 ea_2 rfl ?_
      refine mt_icmp_ge dX1_standsByRanksIn_21 (tgt := 54) rfl (fun q8 => ?_) (fun q8 => ?_)
      · have q8 := Int32.not_lt.mpr q8
        have q8 := (not_congr (nI_ltI (by omega) (by omega))).mp q8
        refine mt_drop 3 (ls' := [.ref a, .ref b, .int (nI i), .double 0]) rfl ?_
        exact kk1 i (((mall_no (by omega) (by simp [q3, q8])).symm.trans hr).symm)
      · have q8 := Int32.not_le.mp q8
        have q8 := (nI_ltI (by omega) (by omega)).mp q8
        refine mt_aload_n dX1_standsByRanksIn_24 rfl rfl ?_
        refine mt_getfield mKX1 (i := 0) (by decide) mw_67 dX1_standsByRanksIn_25 ea_2 rfl ?_
        refine mt_iload_n dX1_standsByRanksIn_28 rfl ?_
        refine mp_iaload dX1_standsByRanksIn_29 ek_2 rfl (by omega) (by omega) (v := xk ys (rankf xs i)) (qk_2 _ (by omega)) ?_
        refine mt_aload_n dX1_standsByRanksIn_30 rfl rfl ?_
        refine mt_getfield mKX1 (i := 0) (by decide) mw_67 dX1_standsByRanksIn_31 ea_1 rfl ?_
        refine mt_iload_n dX1_standsByRanksIn_34 rfl ?_
        refine mp_iaload dX1_standsByRanksIn_35 ek_1 rfl (by omega) (by omega) (v := xk xs i) (qk_1 _ (by omega)) ?_
        refine mt_icmp_ne dX1_standsByRanksIn_36 (tgt := 54) rfl (fun q9 => ?_) (fun q9 => ?_)
        · refine mt_drop 3 (ls' := [.ref a, .ref b, .int (nI i), .double 0]) rfl ?_
          exact kk1 i (((mall_no (by omega) (by simp [q3, q8, q9])).symm.trans hr).symm)
        · refine mt_aload_n dX1_standsByRanksIn_39 rfl rfl ?_
          refine mt_getfield mKX1 (i := 1) (by decide) mw_70 dX1_standsByRanksIn_40 ea_2 rfl ?_
          refine mt_iload_n dX1_standsByRanksIn_43 rfl ?_
          refine mp_iaload dX1_standsByRanksIn_44 es_2 rfl (by omega) (by omega) (v := xt ys (rankf xs i)) (qt_2 _ (by omega)) ?_
          refine mt_aload_n dX1_standsByRanksIn_45 rfl rfl ?_
          refine mt_getfield mKX1 (i := 1) (by decide) mw_70 dX1_standsByRanksIn_46 ea_1 rfl ?_
          refine mt_iload_n dX1_standsByRanksIn_49 rfl ?_
          refine mp_iaload dX1_standsByRanksIn_50 es_1 rfl (by omega) (by omega) (v := xt xs i) (qt_1 _ (by omega)) ?_
          refine mt_icmp_eq dX1_standsByRanksIn_51 (tgt := 56) rfl (fun q10 => ?_) (fun q10 => ?_)
          · refine mp_iinc dX1_standsByRanksIn_56 rfl (v := nI (i + 1)) mI_inc (ls' := [.ref a, .ref b, .int (nI (i + 1)), .int (nI (rankf xs i))]) rfl (by decide) rfl ?_
            refine mt_goto dX1_standsByRanksIn_59 (tgt := 2) rfl ?_
            refine mt_drop 3 (ls' := [.ref a, .ref b, .int (nI (i + 1)), .double 0]) rfl ?_
            exact ih (i + 1) (by omega) ((mall_go (by omega) (by simp [q3, q8, q9, q10])).symm.trans hr) (by omega)
          · refine mt_drop 3 (ls' := [.ref a, .ref b, .int (nI i), .double 0]) rfl ?_
            exact kk1 i (((mall_no (by omega) (by simp [q3, q8, q9, q10])).symm.trans hr).symm)
def q_standsByRanksIn (xs ys : List mIt) : Bool := mall (fun i => decide (rankf xs i < ys.length ∧ xk ys (rankf xs i) = xk xs i ∧ xt ys (rankf xs i) = xt xs i)) (xs.length - 0) 0
set_option maxRecDepth 100000 in
set_option maxHeartbeats 2000000 in
theorem kX1_standsByRanksIn {l : Launch} (hl : l.stackTraces = false) {h : mH} {n a b room room2 : Nat} {fl fl2 : Int32} {xs ys : List mIt} (H : rowAt h a room fl xs) (H2 : rowAt h b room2 fl2 ys) : mC l mX1_standsByRanksIn rX1_standsByRanksIn [.ref a, .ref b] h n (mRi (mb (q_standsByRanksIn xs ys)) h n) (mNX) := by
  obtain ⟨f_1, g_1, ea_1, ek_1, es_1, ql_1, qr_1, qk_1, qt_1⟩ := id H
  obtain ⟨f_2, g_2, ea_2, ek_2, es_2, ql_2, qr_2, qk_2, qt_2⟩ := id H2
  refine mm_enter hl (by decide +kernel) rfl rfl rfl (Nat.le_of_ble_eq_true rfl) ?_
  show mT _ _ _ _ 0 [.ref a, .ref b, .double 0, .double 0] [] _ _ 0 0
  refine mt_iconst dX1_standsByRanksIn_0 (v := nI 0) rfl ?_
  refine mp_istore_n dX1_standsByRanksIn_1 (ls' := [.ref a, .ref b, .int (nI 0), .double 0]) rfl (by decide) rfl ?_
  refine tX1_standsByRanksIn_2 hl H H2 (fun i_3 z4 => ?_) (fun i_5 z6 => ?_) (xs.length - 0 + 1) 0 (Nat.lt_succ_self _) rfl (by omega)
  · refine mt_iconst dX1_standsByRanksIn_62 (v := nI 1) rfl ?_
    refine mt_ireturn dX1_standsByRanksIn_63 rfl rfl (Nat.le_of_ble_eq_true rfl) (Nat.le_of_ble_eq_true rfl) ?_
    exact ⟨congrArg (fun x => some (Value.int (mb x))) z4.symm, rfl, rfl⟩
  · refine mt_iconst dX1_standsByRanksIn_54 (v := nI 0) rfl ?_
    refine mt_ireturn dX1_standsByRanksIn_55 rfl rfl (Nat.le_of_ble_eq_true rfl) (Nat.le_of_ble_eq_true rfl) ?_
    exact ⟨congrArg (fun x => some (Value.int (mb x))) z6.symm, rfl, rfl⟩
abbrev rX1_wrongPairsWith : Room := { frames := 0, cells := 0, slots := 0, locals := 0 }
set_option maxRecDepth 100000 in
set_option maxHeartbeats 2000000 in
theorem tX1_wrongPairsWith_12 {l : Launch} {R : Room} {K : mK} {cc sc : Nat} {h : mH} {n a room : Nat} {fl : Int32} {xs : List mIt} {i : Nat} {r : Int32}  (H : rowAt h a room fl xs) (hi9 : i < xs.length) (kk0 : ∀ (acc : Int32) (j : Nat), (acc = r) → mT l mX1_wrongPairsWith R K 38 [.ref a, .int (nI i), .int (xk xs i), .int acc, .int (nI j)] [] h n cc sc) : ∀ (N0 : Nat) (j : Nat) (acc : Int32), (i - j) < N0 → (mlp (fun j acc => if xk xs i < xk xs j then acc + 1 else acc) (i - j) j acc = r) → (j ≤ i + 1) → mT l mX1_wrongPairsWith R K 12 [.ref a, .int (nI i), .int (xk xs i), .int acc, .int (nI j)] [] h n cc sc := by
  intro N0
  induction N0 with
  | zero => intro j acc hm; exact absurd hm (Nat.not_lt_zero _)
  | succ N0 ih =>
    intro j acc hm hr hi
    obtain ⟨f, g, ea, ek, es, ql, qr, qk, qt⟩ := id H
    refine mt_iload dX1_wrongPairsWith_12 rfl ?_
    refine mt_iload_n dX1_wrongPairsWith_14 rfl ?_
    refine mt_icmp_ge dX1_wrongPairsWith_15 (tgt := 38) rfl (fun q1 => ?_) (fun q1 => ?_)
    · have q1 := Int32.not_lt.mpr q1
      have q1 := (not_congr (nI_ltI (by omega) (by omega))).mp q1
      exact kk0 acc j ((mlp_end (by omega)).symm.trans hr)
    · have q1 := Int32.not_le.mp q1
      have q1 := (nI_ltI (by omega) (by omega)).mp q1
      refine mt_aload_n dX1_wrongPairsWith_18 rfl rfl ?_
      refine mt_getfield mKX1 (i := 0) (by decide) mw_67 dX1_wrongPairsWith_19 ea rfl ?_
      refine mt_iload dX1_wrongPairsWith_22 rfl ?_
      refine mp_iaload dX1_wrongPairsWith_24 ek rfl (by omega) (by omega) (v := xk xs j) (qk _ (by omega)) ?_
      refine mt_iload_n dX1_wrongPairsWith_25 rfl ?_
      refine mt_icmp_le dX1_wrongPairsWith_26 (tgt := 32) rfl (fun q2 => ?_) (fun q2 => ?_)
      · have q2 := Int32.not_lt.mpr q2
        refine mp_iinc dX1_wrongPairsWith_32 rfl (v := nI (j + 1)) mI_inc (ls' := [.ref a, .int (nI i), .int (xk xs i), .int acc, .int (nI (j + 1))]) rfl (by decide) rfl ?_
        refine mt_goto dX1_wrongPairsWith_35 (tgt := 12) rfl ?_
        exact ih (j + 1) acc (by omega) ((mlp_go (by omega) (by simp [q1, q2, nI_0, mI_one] <;> rfl)).symm.trans hr) (by omega)
      · have q2 := Int32.not_le.mp q2
        refine mp_iinc dX1_wrongPairsWith_29 rfl (v := acc + 1) rfl (ls' := [.ref a, .int (nI i), .int (xk xs i), .int (acc + 1), .int (nI j)]) rfl (by decide) rfl ?_
        refine mp_iinc dX1_wrongPairsWith_32 rfl (v := nI (j + 1)) mI_inc (ls' := [.ref a, .int (nI i), .int (xk xs i), .int (acc + 1), .int (nI (j + 1))]) rfl (by decide) rfl ?_
        refine mt_goto dX1_wrongPairsWith_35 (tgt := 12) rfl ?_
        exact ih (j + 1) (acc + 1) (by omega) ((mlp_go (by omega) (by simp [q1, q2, nI_0, mI_one] <;> rfl)).symm.trans hr) (by omega)
set_option maxRecDepth 100000 in
set_option maxHeartbeats 2000000 in
theorem tX1_wrongPairsWith_43 {l : Launch} {R : Room} {K : mK} {cc sc : Nat} {h : mH} {n a room : Nat} {fl : Int32} {xs : List mIt} {i : Nat} {r : Int32}  (H : rowAt h a room fl xs) (hi9 : i < xs.length) (kk0 : ∀ (acc : Int32) (j : Nat), (acc = r) → mT l mX1_wrongPairsWith R K 72 [.ref a, .int (nI i), .int (xk xs i), .int acc, .int (nI j)] [] h n cc sc) : ∀ (N0 : Nat) (j : Nat) (acc : Int32), (xs.length - j) < N0 → (mlp (fun j acc => if xk xs j < xk xs i then acc + 1 else acc) (xs.length - j) j acc = r) → (j ≤ xs.length + 1) → mT l mX1_wrongPairsWith R K 43 [.ref a, .int (nI i), .int (xk xs i), .int acc, .int (nI j)] [] h n cc sc := by
  intro N0
  induction N0 with
  | zero => intro j acc hm; exact absurd hm (Nat.not_lt_zero _)
  | succ N0 ih =>
    intro j acc hm hr hi
    obtain ⟨f, g, ea, ek, es, ql, qr, qk, qt⟩ := id H
    refine mt_iload dX1_wrongPairsWith_43 rfl ?_
    refine mt_aload_n dX1_wrongPairsWith_45 rfl rfl ?_
    refine mt_getfield mKX1 (i := 3) (by decide) mw_77 dX1_wrongPairsWith_46 ea rfl ?_
    refine mt_icmp_ge dX1_wrongPairsWith_49 (tgt := 72) rfl (fun q1 => ?_) (fun q1 => ?_)
    · have q1 := Int32.not_lt.mpr q1
      have q1 := (not_congr (nI_ltI (by omega) (by omega))).mp q1
      exact kk0 acc j ((mlp_end (by omega)).symm.trans hr)
    · have q1 := Int32.not_le.mp q1
      have q1 := (nI_ltI (by omega) (by omega)).mp q1
      refine mt_aload_n dX1_wrongPairsWith_52 rfl rfl ?_
      refine mt_getfield mKX1 (i := 0) (by decide) mw_67 dX1_wrongPairsWith_53 ea rfl ?_
      refine mt_iload dX1_wrongPairsWith_56 rfl ?_
      refine mp_iaload dX1_wrongPairsWith_58 ek rfl (by omega) (by omega) (v := xk xs j) (qk _ (by omega)) ?_
      refine mt_iload_n dX1_wrongPairsWith_59 rfl ?_
      refine mt_icmp_ge dX1_wrongPairsWith_60 (tgt := 66) rfl (fun q2 => ?_) (fun q2 => ?_)
      · have q2 := Int32.not_lt.mpr q2
        refine mp_iinc dX1_wrongPairsWith_66 rfl (v := nI (j + 1)) mI_inc (ls' := [.ref a, .int (nI i), .int (xk xs i), .int acc, .int (nI (j + 1))]) rfl (by decide) rfl ?_
        refine mt_goto dX1_wrongPairsWith_69 (tgt := 43) rfl ?_
        exact ih (j + 1) acc (by omega) ((mlp_go (by omega) (by simp [q1, q2, nI_0, mI_one] <;> rfl)).symm.trans hr) (by omega)
      · have q2 := Int32.not_le.mp q2
        refine mp_iinc dX1_wrongPairsWith_63 rfl (v := acc + 1) rfl (ls' := [.ref a, .int (nI i), .int (xk xs i), .int (acc + 1), .int (nI j)]) rfl (by decide) rfl ?_
        refine mp_iinc dX1_wrongPairsWith_66 rfl (v := nI (j + 1)) mI_inc (ls' := [.ref a, .int (nI i), .int (xk xs i), .int (acc + 1), .int (nI (j + 1))]) rfl (by decide) rfl ?_
        refine mt_goto dX1_wrongPairsWith_69 (tgt := 43) rfl ?_
        exact ih (j + 1) (acc + 1) (by omega) ((mlp_go (by omega) (by simp [q1, q2, nI_0, mI_one] <;> rfl)).symm.trans hr) (by omega)
def q_wrongPairsWith (xs : List mIt) (i : Nat) : Int32 := mlp (fun j acc => if xk xs j < xk xs i then acc + 1 else acc) (xs.length - (i + 1)) (i + 1) (mlp (fun j acc => if xk xs i < xk xs j then acc + 1 else acc) (i - 0) 0 (nI 0))
set_option maxRecDepth 100000 in
set_option maxHeartbeats 2000000 in
theorem kX1_wrongPairsWith {l : Launch} (hl : l.stackTraces = false) {h : mH} {n a room : Nat} {fl : Int32} {xs : List mIt} {i : Nat} (H : rowAt h a room fl xs) (hi9 : i < xs.length) : mC l mX1_wrongPairsWith rX1_wrongPairsWith [.ref a, .int (nI i)] h n (mRi (q_wrongPairsWith xs i) h n) (mNX) := by
  obtain ⟨f, g, ea, ek, es, ql, qr, qk, qt⟩ := id H
  refine mm_enter hl (by decide +kernel) rfl rfl rfl (Nat.le_of_ble_eq_true rfl) ?_
  show mT _ _ _ _ 0 [.ref a, .int (nI i), .double 0, .double 0, .double 0] [] _ _ 0 0
  refine mt_aload_n dX1_wrongPairsWith_0 rfl rfl ?_
  refine mt_getfield mKX1 (i := 0) (by decide) mw_67 dX1_wrongPairsWith_1 ea rfl ?_
  refine mt_iload_n dX1_wrongPairsWith_4 rfl ?_
  refine mp_iaload dX1_wrongPairsWith_5 ek rfl (by omega) (by omega) (v := xk xs i) (qk _ (by omega)) ?_
  refine mp_istore_n dX1_wrongPairsWith_6 (ls' := [.ref a, .int (nI i), .int (xk xs i), .double 0, .double 0]) rfl (by decide) rfl ?_
  refine mt_iconst dX1_wrongPairsWith_7 (v := nI 0) rfl ?_
  refine mp_istore_n dX1_wrongPairsWith_8 (ls' := [.ref a, .int (nI i), .int (xk xs i), .int (nI 0), .double 0]) rfl (by decide) rfl ?_
  refine mt_iconst dX1_wrongPairsWith_9 (v := nI 0) rfl ?_
  refine mp_istore dX1_wrongPairsWith_10 (ls' := [.ref a, .int (nI i), .int (xk xs i), .int (nI 0), .int (nI 0)]) rfl (by decide) rfl ?_
  refine tX1_wrongPairsWith_12 H hi9 (fun acc_1 j_2 z3 => ?_) (i - 0 + 1) 0 (nI 0) (Nat.lt_succ_self _) rfl (by omega)
  refine mt_iload_n dX1_wrongPairsWith_38 rfl ?_
  refine mt_iconst dX1_wrongPairsWith_39 (v := nI 1) rfl ?_
  refine mp_iadd dX1_wrongPairsWith_40 (v := nI (i + 1)) (nI_add _ _) ?_
  refine mp_istore dX1_wrongPairsWith_41 (ls' := [.ref a, .int (nI i), .int (xk xs i), .int acc_1, .int (nI (i + 1))]) rfl (by decide) rfl ?_
  refine tX1_wrongPairsWith_43 H hi9 (fun acc_4 j_5 z6 => ?_) (xs.length - (i + 1) + 1) (i + 1) acc_1 (Nat.lt_succ_self _) rfl (by omega)
  refine mt_iload_n dX1_wrongPairsWith_72 rfl ?_
  refine mt_ireturn dX1_wrongPairsWith_73 rfl rfl (Nat.le_of_ble_eq_true rfl) (Nat.le_of_ble_eq_true rfl) ?_
  exact ⟨congrArg (fun x => some (Value.int x)) (z6.trans (congrArg _ z3)), rfl, rfl⟩
abbrev rX1_wrongPairs : Room := { frames := 0, cells := 0, slots := 0, locals := 0 }
set_option maxRecDepth 100000 in
set_option maxHeartbeats 2000000 in
theorem tX1_wrongPairs_16 {l : Launch} {R : Room} {K : mK} {cc sc : Nat} {h : mH} {n a room : Nat} {fl : Int32} {xs : List mIt} {i : Nat} {r : Int32}  (H : rowAt h a room fl xs) (hi9 : i < xs.length) (kk0 : ∀ (acc : Int32) (j : Nat), (acc = r) → mT l mX1_wrongPairs R K 48 [.ref a, .int acc, .int (nI i), .int (nI j)] [] h n cc sc) : ∀ (N0 : Nat) (j : Nat) (acc : Int32), (xs.length - j) < N0 → (mlp (fun j acc => if xk xs j < xk xs i then acc + 1 else acc) (xs.length - j) j acc = r) → (j ≤ xs.length + 1) → mT l mX1_wrongPairs R K 16 [.ref a, .int acc, .int (nI i), .int (nI j)] [] h n cc sc := by
  intro N0
  induction N0 with
  | zero => intro j acc hm; exact absurd hm (Nat.not_lt_zero _)
  | succ N0 ih =>
    intro j acc hm hr hi
    obtain ⟨f, g, ea, ek, es, ql, qr, qk, qt⟩ := id H
    refine mt_iload_n dX1_wrongPairs_16 rfl ?_
    refine mt_aload_n dX1_wrongPairs_17 rfl rfl ?_
    refine mt_getfield mKX1 (i := 3) (by decide) mw_77 dX1_wrongPairs_18 ea rfl ?_
    refine mt_icmp_ge dX1_wrongPairs_21 (tgt := 48) rfl (fun q1 => ?_) (fun q1 => ?_)
    · have q1 := Int32.not_lt.mpr q1
      have q1 := (not_congr (nI_ltI (by omega) (by omega))).mp q1
      exact kk0 acc j ((mlp_end (by omega)).symm.trans hr)
    · have q1 := Int32.not_le.mp q1
      have q1 := (nI_ltI (by omega) (by omega)).mp q1
      refine mt_aload_n dX1_wrongPairs_24 rfl rfl ?_
      refine mt_getfield mKX1 (i := 0) (by decide) mw_67 dX1_wrongPairs_25 ea rfl ?_
      refine mt_iload_n dX1_wrongPairs_28 rfl ?_
      refine mp_iaload dX1_wrongPairs_29 ek rfl (by omega) (by omega) (v := xk xs i) (qk _ (by omega)) ?_
      refine mt_aload_n dX1_wrongPairs_30 rfl rfl ?_
      refine mt_getfield mKX1 (i := 0) (by decide) mw_67 dX1_wrongPairs_31 ea rfl ?_
      refine mt_iload_n dX1_wrongPairs_34 rfl ?_
      refine mp_iaload dX1_wrongPairs_35 ek rfl (by omega) (by omega) (v := xk xs j) (qk _ (by omega)) ?_
      refine mt_icmp_le dX1_wrongPairs_36 (tgt := 42) rfl (fun q2 => ?_) (fun q2 => ?_)
      · have q2 := Int32.not_lt.mpr q2
        refine mp_iinc dX1_wrongPairs_42 rfl (v := nI (j + 1)) mI_inc (ls' := [.ref a, .int acc, .int (nI i), .int (nI (j + 1))]) rfl (by decide) rfl ?_
        refine mt_goto dX1_wrongPairs_45 (tgt := 16) rfl ?_
        exact ih (j + 1) acc (by omega) ((mlp_go (by omega) (by simp [q1, q2, nI_0, mI_one] <;> rfl)).symm.trans hr) (by omega)
      · have q2 := Int32.not_le.mp q2
        refine mp_iinc dX1_wrongPairs_39 rfl (v := acc + 1) rfl (ls' := [.ref a, .int (acc + 1), .int (nI i), .int (nI j)]) rfl (by decide) rfl ?_
        refine mp_iinc dX1_wrongPairs_42 rfl (v := nI (j + 1)) mI_inc (ls' := [.ref a, .int (acc + 1), .int (nI i), .int (nI (j + 1))]) rfl (by decide) rfl ?_
        refine mt_goto dX1_wrongPairs_45 (tgt := 16) rfl ?_
        exact ih (j + 1) (acc + 1) (by omega) ((mlp_go (by omega) (by simp [q1, q2, nI_0, mI_one] <;> rfl)).symm.trans hr) (by omega)
set_option maxRecDepth 100000 in
set_option maxHeartbeats 2000000 in
theorem tX1_wrongPairs_4 {l : Launch} {R : Room} {K : mK} {cc sc : Nat} {h : mH} {n a room : Nat} {fl : Int32} {xs : List mIt} {r : Int32} (H : rowAt h a room fl xs) (kk0 : ∀ (acc : Int32) (i : Nat), (acc = r) → mT l mX1_wrongPairs R K 54 [.ref a, .int acc, .int (nI i), .double 0] [] h n cc sc) : ∀ (N0 : Nat) (i : Nat) (acc : Int32), (xs.length - i) < N0 → (mlp (fun i acc => mlp (fun j acc => if xk xs j < xk xs i then acc + 1 else acc) (xs.length - (i + 1)) (i + 1) acc) (xs.length - i) i acc = r) → (i ≤ xs.length) → mT l mX1_wrongPairs R K 4 [.ref a, .int acc, .int (nI i), .double 0] [] h n cc sc := by
  intro N0
  induction N0 with
  | zero => intro i acc hm; exact absurd hm (Nat.not_lt_zero _)
  | succ N0 ih =>
    intro i acc hm hr hi
    obtain ⟨f, g, ea, ek, es, ql, qr, qk, qt⟩ := id H
    refine mt_iload_n dX1_wrongPairs_4 rfl ?_
    refine mt_aload_n dX1_wrongPairs_5 rfl rfl ?_
    refine mt_getfield mKX1 (i := 3) (by decide) mw_77 dX1_wrongPairs_6 ea rfl ?_
    refine mt_icmp_ge dX1_wrongPairs_9 (tgt := 54) rfl (fun q1 => ?_) (fun q1 => ?_)
    · have q1 := Int32.not_lt.mpr q1
      have q1 := (not_congr (nI_ltI (by omega) (by omega))).mp q1
      exact kk0 acc i ((mlp_end (by omega)).symm.trans hr)
    · have q1 := Int32.not_le.mp q1
      have q1 := (nI_ltI (by omega) (by omega)).mp q1
      refine mt_iload_n dX1_wrongPairs_12 rfl ?_
      refine mt_iconst dX1_wrongPairs_13 (v := nI 1) rfl ?_
      refine mp_iadd dX1_wrongPairs_14 (v := nI (i + 1)) (nI_add _ _) ?_
      refine mp_istore_n dX1_wrongPairs_15 (ls' := [.ref a, .int acc, .int (nI i), .int (nI (i + 1))]) rfl (by decide) rfl ?_
      refine tX1_wrongPairs_16 H (by omega) (fun acc_2 j_3 z4 => ?_) (xs.length - (i + 1) + 1) (i + 1) acc (Nat.lt_succ_self _) rfl (by omega)
      refine mp_iinc dX1_wrongPairs_48 rfl (v := nI (i + 1)) mI_inc (ls' := [.ref a, .int acc_2, .int (nI (i + 1)), .int (nI j_3)]) rfl (by decide) rfl ?_
      refine mt_goto dX1_wrongPairs_51 (tgt := 4) rfl ?_
      refine mt_drop 3 (ls' := [.ref a, .int acc_2, .int (nI (i + 1)), .double 0]) rfl ?_
      exact ih (i + 1) acc_2 (by omega) ((mlp_go (f := fun i acc => mlp (fun j acc => if xk xs j < xk xs i then acc + 1 else acc) (xs.length - (i + 1)) (i + 1) acc) (by omega) z4.symm).symm.trans hr) (by omega)
def q_wrongPairs (xs : List mIt) : Int32 := mlp (fun i acc => mlp (fun j acc => if xk xs j < xk xs i then acc + 1 else acc) (xs.length - (i + 1)) (i + 1) acc) (xs.length - 0) 0 (nI 0)
set_option maxRecDepth 100000 in
set_option maxHeartbeats 2000000 in
theorem kX1_wrongPairs {l : Launch} (hl : l.stackTraces = false) {h : mH} {n a room : Nat} {fl : Int32} {xs : List mIt} (H : rowAt h a room fl xs) : mC l mX1_wrongPairs rX1_wrongPairs [.ref a] h n (mRi (q_wrongPairs xs) h n) (mNX) := by
  obtain ⟨f, g, ea, ek, es, ql, qr, qk, qt⟩ := id H
  refine mm_enter hl (by decide +kernel) rfl rfl rfl (Nat.le_of_ble_eq_true rfl) ?_
  show mT _ _ _ _ 0 [.ref a, .double 0, .double 0, .double 0] [] _ _ 0 0
  refine mt_iconst dX1_wrongPairs_0 (v := nI 0) rfl ?_
  refine mp_istore_n dX1_wrongPairs_1 (ls' := [.ref a, .int (nI 0), .double 0, .double 0]) rfl (by decide) rfl ?_
  refine mt_iconst dX1_wrongPairs_2 (v := nI 0) rfl ?_
  refine mp_istore_n dX1_wrongPairs_3 (ls' := [.ref a, .int (nI 0), .int (nI 0), .double 0]) rfl (by decide) rfl ?_
  refine tX1_wrongPairs_4 H (fun acc_1 i_2 z3 => ?_) (xs.length - 0 + 1) 0 (nI 0) (Nat.lt_succ_self _) rfl (by omega)
  refine mt_iload_n dX1_wrongPairs_54 rfl ?_
  refine mt_ireturn dX1_wrongPairs_55 rfl rfl (Nat.le_of_ble_eq_true rfl) (Nat.le_of_ble_eq_true rfl) ?_
  exact ⟨congrArg (fun x => some (Value.int x)) z3, rfl, rfl⟩
abbrev rX1_rightPairs : Room := { frames := 0, cells := 0, slots := 0, locals := 0 }
set_option maxRecDepth 100000 in
set_option maxHeartbeats 2000000 in
theorem tX1_rightPairs_16 {l : Launch} {R : Room} {K : mK} {cc sc : Nat} {h : mH} {n a room : Nat} {fl : Int32} {xs : List mIt} {i : Nat} {r : Int32}  (H : rowAt h a room fl xs) (hi9 : i < xs.length) (kk0 : ∀ (acc : Int32) (j : Nat), (acc = r) → mT l mX1_rightPairs R K 48 [.ref a, .int acc, .int (nI i), .int (nI j)] [] h n cc sc) : ∀ (N0 : Nat) (j : Nat) (acc : Int32), (xs.length - j) < N0 → (mlp (fun j acc => if xk xs i < xk xs j then acc + 1 else acc) (xs.length - j) j acc = r) → (j ≤ xs.length + 1) → mT l mX1_rightPairs R K 16 [.ref a, .int acc, .int (nI i), .int (nI j)] [] h n cc sc := by
  intro N0
  induction N0 with
  | zero => intro j acc hm; exact absurd hm (Nat.not_lt_zero _)
  | succ N0 ih =>
    intro j acc hm hr hi
    obtain ⟨f, g, ea, ek, es, ql, qr, qk, qt⟩ := id H
    refine mt_iload_n dX1_rightPairs_16 rfl ?_
    refine mt_aload_n dX1_rightPairs_17 rfl rfl ?_
    refine mt_getfield mKX1 (i := 3) (by decide) mw_77 dX1_rightPairs_18 ea rfl ?_
    refine mt_icmp_ge dX1_rightPairs_21 (tgt := 48) rfl (fun q1 => ?_) (fun q1 => ?_)
    · have q1 := Int32.not_lt.mpr q1
      have q1 := (not_congr (nI_ltI (by omega) (by omega))).mp q1
      exact kk0 acc j ((mlp_end (by omega)).symm.trans hr)
    · have q1 := Int32.not_le.mp q1
      have q1 := (nI_ltI (by omega) (by omega)).mp q1
      refine mt_aload_n dX1_rightPairs_24 rfl rfl ?_
      refine mt_getfield mKX1 (i := 0) (by decide) mw_67 dX1_rightPairs_25 ea rfl ?_
      refine mt_iload_n dX1_rightPairs_28 rfl ?_
      refine mp_iaload dX1_rightPairs_29 ek rfl (by omega) (by omega) (v := xk xs i) (qk _ (by omega)) ?_
      refine mt_aload_n dX1_rightPairs_30 rfl rfl ?_
      refine mt_getfield mKX1 (i := 0) (by decide) mw_67 dX1_rightPairs_31 ea rfl ?_
      refine mt_iload_n dX1_rightPairs_34 rfl ?_
      refine mp_iaload dX1_rightPairs_35 ek rfl (by omega) (by omega) (v := xk xs j) (qk _ (by omega)) ?_
      refine mt_icmp_ge dX1_rightPairs_36 (tgt := 42) rfl (fun q2 => ?_) (fun q2 => ?_)
      · have q2 := Int32.not_lt.mpr q2
        refine mp_iinc dX1_rightPairs_42 rfl (v := nI (j + 1)) mI_inc (ls' := [.ref a, .int acc, .int (nI i), .int (nI (j + 1))]) rfl (by decide) rfl ?_
        refine mt_goto dX1_rightPairs_45 (tgt := 16) rfl ?_
        exact ih (j + 1) acc (by omega) ((mlp_go (by omega) (by simp [q1, q2, nI_0, mI_one] <;> rfl)).symm.trans hr) (by omega)
      · have q2 := Int32.not_le.mp q2
        refine mp_iinc dX1_rightPairs_39 rfl (v := acc + 1) rfl (ls' := [.ref a, .int (acc + 1), .int (nI i), .int (nI j)]) rfl (by decide) rfl ?_
        refine mp_iinc dX1_rightPairs_42 rfl (v := nI (j + 1)) mI_inc (ls' := [.ref a, .int (acc + 1), .int (nI i), .int (nI (j + 1))]) rfl (by decide) rfl ?_
        refine mt_goto dX1_rightPairs_45 (tgt := 16) rfl ?_
        exact ih (j + 1) (acc + 1) (by omega) ((mlp_go (by omega) (by simp [q1, q2, nI_0, mI_one] <;> rfl)).symm.trans hr) (by omega)
set_option maxRecDepth 100000 in
set_option maxHeartbeats 2000000 in
theorem tX1_rightPairs_4 {l : Launch} {R : Room} {K : mK} {cc sc : Nat} {h : mH} {n a room : Nat} {fl : Int32} {xs : List mIt} {r : Int32} (H : rowAt h a room fl xs) (kk0 : ∀ (acc : Int32) (i : Nat), (acc = r) → mT l mX1_rightPairs R K 54 [.ref a, .int acc, .int (nI i), .double 0] [] h n cc sc) : ∀ (N0 : Nat) (i : Nat) (acc : Int32), (xs.length - i) < N0 → (mlp (fun i acc => mlp (fun j acc => if xk xs i < xk xs j then acc + 1 else acc) (xs.length - (i + 1)) (i + 1) acc) (xs.length - i) i acc = r) → (i ≤ xs.length) → mT l mX1_rightPairs R K 4 [.ref a, .int acc, .int (nI i), .double 0] [] h n cc sc := by
  intro N0
  induction N0 with
  | zero => intro i acc hm; exact absurd hm (Nat.not_lt_zero _)
  | succ N0 ih =>
    intro i acc hm hr hi
    obtain ⟨f, g, ea, ek, es, ql, qr, qk, qt⟩ := id H
    refine mt_iload_n dX1_rightPairs_4 rfl ?_
    refine mt_aload_n dX1_rightPairs_5 rfl rfl ?_
    refine mt_getfield mKX1 (i := 3) (by decide) mw_77 dX1_rightPairs_6 ea rfl ?_
    refine mt_icmp_ge dX1_rightPairs_9 (tgt := 54) rfl (fun q1 => ?_) (fun q1 => ?_)
    · have q1 := Int32.not_lt.mpr q1
      have q1 := (not_congr (nI_ltI (by omega) (by omega))).mp q1
      exact kk0 acc i ((mlp_end (by omega)).symm.trans hr)
    · have q1 := Int32.not_le.mp q1
      have q1 := (nI_ltI (by omega) (by omega)).mp q1
      refine mt_iload_n dX1_rightPairs_12 rfl ?_
      refine mt_iconst dX1_rightPairs_13 (v := nI 1) rfl ?_
      refine mp_iadd dX1_rightPairs_14 (v := nI (i + 1)) (nI_add _ _) ?_
      refine mp_istore_n dX1_rightPairs_15 (ls' := [.ref a, .int acc, .int (nI i), .int (nI (i + 1))]) rfl (by decide) rfl ?_
      refine tX1_rightPairs_16 H (by omega) (fun acc_2 j_3 z4 => ?_) (xs.length - (i + 1) + 1) (i + 1) acc (Nat.lt_succ_self _) rfl (by omega)
      refine mp_iinc dX1_rightPairs_48 rfl (v := nI (i + 1)) mI_inc (ls' := [.ref a, .int acc_2, .int (nI (i + 1)), .int (nI j_3)]) rfl (by decide) rfl ?_
      refine mt_goto dX1_rightPairs_51 (tgt := 4) rfl ?_
      refine mt_drop 3 (ls' := [.ref a, .int acc_2, .int (nI (i + 1)), .double 0]) rfl ?_
      exact ih (i + 1) acc_2 (by omega) ((mlp_go (f := fun i acc => mlp (fun j acc => if xk xs i < xk xs j then acc + 1 else acc) (xs.length - (i + 1)) (i + 1) acc) (by omega) z4.symm).symm.trans hr) (by omega)
def q_rightPairs (xs : List mIt) : Int32 := mlp (fun i acc => mlp (fun j acc => if xk xs i < xk xs j then acc + 1 else acc) (xs.length - (i + 1)) (i + 1) acc) (xs.length - 0) 0 (nI 0)
set_option maxRecDepth 100000 in
set_option maxHeartbeats 2000000 in
theorem kX1_rightPairs {l : Launch} (hl : l.stackTraces = false) {h : mH} {n a room : Nat} {fl : Int32} {xs : List mIt} (H : rowAt h a room fl xs) : mC l mX1_rightPairs rX1_rightPairs [.ref a] h n (mRi (q_rightPairs xs) h n) (mNX) := by
  obtain ⟨f, g, ea, ek, es, ql, qr, qk, qt⟩ := id H
  refine mm_enter hl (by decide +kernel) rfl rfl rfl (Nat.le_of_ble_eq_true rfl) ?_
  show mT _ _ _ _ 0 [.ref a, .double 0, .double 0, .double 0] [] _ _ 0 0
  refine mt_iconst dX1_rightPairs_0 (v := nI 0) rfl ?_
  refine mp_istore_n dX1_rightPairs_1 (ls' := [.ref a, .int (nI 0), .double 0, .double 0]) rfl (by decide) rfl ?_
  refine mt_iconst dX1_rightPairs_2 (v := nI 0) rfl ?_
  refine mp_istore_n dX1_rightPairs_3 (ls' := [.ref a, .int (nI 0), .int (nI 0), .double 0]) rfl (by decide) rfl ?_
  refine tX1_rightPairs_4 H (fun acc_1 i_2 z3 => ?_) (xs.length - 0 + 1) 0 (nI 0) (Nat.lt_succ_self _) rfl (by omega)
  refine mt_iload_n dX1_rightPairs_54 rfl ?_
  refine mt_ireturn dX1_rightPairs_55 rfl rfl (Nat.le_of_ble_eq_true rfl) (Nat.le_of_ble_eq_true rfl) ?_
  exact ⟨congrArg (fun x => some (Value.int x)) z3, rfl, rfl⟩
abbrev rX1_endOfRun : Room := { frames := 0, cells := 0, slots := 0, locals := 0 }
set_option maxRecDepth 100000 in
set_option maxHeartbeats 2000000 in
theorem tX1_endOfRun_4 {l : Launch} {R : Room} {K : mK} {cc sc : Nat} {h : mH} {n a room : Nat} {fl : Int32} {xs : List mIt} {i r : Nat} (H : rowAt h a room fl xs) (kk0 : ∀ (e : Nat), (e = r) → mT l mX1_endOfRun R K 35 [.ref a, .int (nI i), .int (nI e)] [] h n cc sc) : ∀ (N0 : Nat) (e : Nat), (xs.length - e) < N0 → (erun xs (xs.length - e) e = r) → (0 < e) → (e ≤ xs.length) → mT l mX1_endOfRun R K 4 [.ref a, .int (nI i), .int (nI e)] [] h n cc sc := by
  intro N0
  induction N0 with
  | zero => intro e hm; exact absurd hm (Nat.not_lt_zero _)
  | succ N0 ih =>
    intro e hm hr h0 he
    obtain ⟨f, g, ea, ek, es, ql, qr, qk, qt⟩ := id H
    refine mt_iload_n dX1_endOfRun_4 rfl ?_
    refine mt_aload_n dX1_endOfRun_5 rfl rfl ?_
    refine mt_getfield mKX1 (i := 3) (by decide) mw_77 dX1_endOfRun_6 ea rfl ?_
    refine mt_icmp_ge dX1_endOfRun_9 (tgt := 35) rfl (fun q1 => ?_) (fun q1 => ?_)
    · have q1 := Int32.not_lt.mpr q1
      have q1 := (not_congr (nI_ltI (by omega) (by omega))).mp q1
      exact kk0 e (by first | exact (erun_end (by omega)).symm.trans hr | exact (erun_no (by omega) (by assumption)).symm.trans hr)
    · have q1 := Int32.not_le.mp q1
      have q1 := (nI_ltI (by omega) (by omega)).mp q1
      refine mt_aload_n dX1_endOfRun_12 rfl rfl ?_
      refine mt_getfield mKX1 (i := 0) (by decide) mw_67 dX1_endOfRun_13 ea rfl ?_
      refine mt_iload_n dX1_endOfRun_16 rfl ?_
      refine mt_iconst dX1_endOfRun_17 (v := nI 1) rfl ?_
      refine mp_isub dX1_endOfRun_18 (v := nI (e - 1)) (pk_sub (by omega)) ?_
      refine mp_iaload dX1_endOfRun_19 ek rfl (by omega) (by omega) (v := xk xs (e - 1)) (qk _ (by omega)) ?_
      refine mt_aload_n dX1_endOfRun_20 rfl rfl ?_
      refine mt_getfield mKX1 (i := 0) (by decide) mw_67 dX1_endOfRun_21 ea rfl ?_
      refine mt_iload_n dX1_endOfRun_24 rfl ?_
      refine mp_iaload dX1_endOfRun_25 ek rfl (by omega) (by omega) (v := xk xs e) (qk _ (by omega)) ?_
      refine mt_icmp_gt dX1_endOfRun_26 (tgt := 35) rfl (fun q2 => ?_) (fun q2 => ?_)
      · exact kk0 e (by first | exact (erun_end (by omega)).symm.trans hr | exact (erun_no (by omega) (by assumption)).symm.trans hr)
      · refine mp_iinc dX1_endOfRun_29 rfl (v := nI (e + 1)) mI_inc (ls' := [.ref a, .int (nI i), .int (nI (e + 1))]) rfl (by decide) rfl ?_
        refine mt_goto dX1_endOfRun_32 (tgt := 4) rfl ?_
        exact ih (e + 1) (by omega) ((erun_go (by omega) (by assumption)).symm.trans hr) (by omega) (by omega)
def q_endOfRun (xs : List mIt) (i : Nat) : Nat := erun xs (xs.length - (i + 1)) (i + 1)
set_option maxRecDepth 100000 in
set_option maxHeartbeats 2000000 in
theorem kX1_endOfRun {l : Launch} (hl : l.stackTraces = false) {h : mH} {n a room : Nat} {fl : Int32} {xs : List mIt} {i : Nat} (H : rowAt h a room fl xs) (hi : i < xs.length) : mC l mX1_endOfRun rX1_endOfRun [.ref a, .int (nI i)] h n (mRi (nI (q_endOfRun xs i)) h n) (mNX) := by
  obtain ⟨f, g, ea, ek, es, ql, qr, qk, qt⟩ := id H
  refine mm_enter hl (by decide +kernel) rfl rfl rfl (Nat.le_of_ble_eq_true rfl) ?_
  show mT _ _ _ _ 0 [.ref a, .int (nI i), .double 0] [] _ _ 0 0
  refine mt_iload_n dX1_endOfRun_0 rfl ?_
  refine mt_iconst dX1_endOfRun_1 (v := nI 1) rfl ?_
  refine mp_iadd dX1_endOfRun_2 (v := nI (i + 1)) (nI_add _ _) ?_
  refine mp_istore_n dX1_endOfRun_3 (ls' := [.ref a, .int (nI i), .int (nI (i + 1))]) rfl (by decide) rfl ?_
  refine tX1_endOfRun_4 H (fun e_1 z2 => ?_) (xs.length - (i + 1) + 1) (i + 1) (Nat.lt_succ_self _) rfl (by omega) (by omega)
  refine mt_iload_n dX1_endOfRun_35 rfl ?_
  refine mt_ireturn dX1_endOfRun_36 rfl rfl (Nat.le_of_ble_eq_true rfl) (Nat.le_of_ble_eq_true rfl) ?_
  exact ⟨congrArg (fun x => some (Value.int (nI x))) z2, rfl, rfl⟩
abbrev rX1_firstPlaceOf : Room := { frames := 0, cells := 0, slots := 0, locals := 0 }
set_option maxRecDepth 100000 in
set_option maxHeartbeats 2000000 in
theorem tX1_firstPlaceOf_2 {l : Launch} {R : Room} {K : mK} {cc sc : Nat} {h : mH} {n a room : Nat} {fl : Int32} {xs : List mIt} {key r : Int32} (H : rowAt h a room fl xs) (kk0 : ∀ (i : Nat), (nI i = r) → mT l mX1_firstPlaceOf R K 20 [.ref a, .int key, .int (nI i)] [] h n cc sc) (kk1 : ∀ (i : Nat), (-1 = r) → mT l mX1_firstPlaceOf R K 28 [.ref a, .int key, .int (nI i)] [] h n cc sc) : ∀ (N0 : Nat) (i : Nat), (xs.length - i) < N0 → (mff (fun i => decide (xk xs i = key)) (xs.length - i) i = r) → (i ≤ xs.length) → mT l mX1_firstPlaceOf R K 2 [.ref a, .int key, .int (nI i)] [] h n cc sc := by
  intro N0
  induction N0 with
  | zero => intro i hm; exact absurd hm (Nat.not_lt_zero _)
  | succ N0 ih =>
    intro i hm hr hi
    obtain ⟨f, g, ea, ek, es, ql, qr, qk, qt⟩ := id H
    refine mt_iload_n dX1_firstPlaceOf_2 rfl ?_
    refine mt_aload_n dX1_firstPlaceOf_3 rfl rfl ?_
    refine mt_getfield mKX1 (i := 3) (by decide) mw_77 dX1_firstPlaceOf_4 ea rfl ?_
    refine mt_icmp_ge dX1_firstPlaceOf_7 (tgt := 28) rfl (fun q1 => ?_) (fun q1 => ?_)
    · have q1 := Int32.not_lt.mpr q1
      have q1 := (not_congr (nI_ltI (by omega) (by omega))).mp q1
      exact kk1 i ((mff_end (by omega)).symm.trans hr)
    · have q1 := Int32.not_le.mp q1
      have q1 := (nI_ltI (by omega) (by omega)).mp q1
      refine mt_aload_n dX1_firstPlaceOf_10 rfl rfl ?_
      refine mt_getfield mKX1 (i := 0) (by decide) mw_67 dX1_firstPlaceOf_11 ea rfl ?_
      refine mt_iload_n dX1_firstPlaceOf_14 rfl ?_
      refine mp_iaload dX1_firstPlaceOf_15 ek rfl (by omega) (by omega) (v := xk xs i) (qk _ (by omega)) ?_
      refine mt_iload_n dX1_firstPlaceOf_16 rfl ?_
      refine mt_icmp_ne dX1_firstPlaceOf_17 (tgt := 22) rfl (fun q2 => ?_) (fun q2 => ?_)
      · refine mp_iinc dX1_firstPlaceOf_22 rfl (v := nI (i + 1)) mI_inc (ls' := [.ref a, .int key, .int (nI (i + 1))]) rfl (by decide) rfl ?_
        refine mt_goto dX1_firstPlaceOf_25 (tgt := 2) rfl ?_
        exact ih (i + 1) (by omega) ((mff_go (by omega) (by simp [q2])).symm.trans hr) (by omega)
      · exact kk0 i ((mff_yes (by omega) (by simp [q2])).symm.trans hr)
def q_firstPlaceOf (xs : List mIt) (key : Int32) : Int32 := mff (fun i => decide (xk xs i = key)) (xs.length - 0) 0
set_option maxRecDepth 100000 in
set_option maxHeartbeats 2000000 in
theorem kX1_firstPlaceOf {l : Launch} (hl : l.stackTraces = false) {h : mH} {n a room : Nat} {fl : Int32} {xs : List mIt} {key : Int32} (H : rowAt h a room fl xs) : mC l mX1_firstPlaceOf rX1_firstPlaceOf [.ref a, .int key] h n (mRi (q_firstPlaceOf xs key) h n) (mNX) := by
  obtain ⟨f, g, ea, ek, es, ql, qr, qk, qt⟩ := id H
  refine mm_enter hl (by decide +kernel) rfl rfl rfl (Nat.le_of_ble_eq_true rfl) ?_
  show mT _ _ _ _ 0 [.ref a, .int key, .double 0] [] _ _ 0 0
  refine mt_iconst dX1_firstPlaceOf_0 (v := nI 0) rfl ?_
  refine mp_istore_n dX1_firstPlaceOf_1 (ls' := [.ref a, .int key, .int (nI 0)]) rfl (by decide) rfl ?_
  refine tX1_firstPlaceOf_2 H (fun i_1 z2 => ?_) (fun i_3 z4 => ?_) (xs.length - 0 + 1) 0 (Nat.lt_succ_self _) rfl (by omega)
  · refine mt_iload_n dX1_firstPlaceOf_20 rfl ?_
    refine mt_ireturn dX1_firstPlaceOf_21 rfl rfl (Nat.le_of_ble_eq_true rfl) (Nat.le_of_ble_eq_true rfl) ?_
    exact ⟨congrArg (fun x => some (Value.int x)) z2, rfl, rfl⟩
  · refine mt_iconst dX1_firstPlaceOf_28 (v := -1) rfl ?_
    refine mt_ireturn dX1_firstPlaceOf_29 rfl rfl (Nat.le_of_ble_eq_true rfl) (Nat.le_of_ble_eq_true rfl) ?_
    exact ⟨congrArg (fun x => some (Value.int x)) z4, rfl, rfl⟩
abbrev rX1_lastPlaceOf : Room := { frames := 0, cells := 0, slots := 0, locals := 0 }
set_option maxRecDepth 100000 in
set_option maxHeartbeats 2000000 in
theorem tX1_lastPlaceOf_7 {l : Launch} {R : Room} {K : mK} {cc sc : Nat} {h : mH} {n a room : Nat} {fl : Int32} {xs : List mIt} {key r : Int32} (H : rowAt h a room fl xs) (kk0 : ∀ (d : Nat), (nI d = r) → mT l mX1_lastPlaceOf R K 21 [.ref a, .int key, .int (nI d)] [] h n cc sc) (kk1 : (-1 = r) → mT l mX1_lastPlaceOf R K 29 [.ref a, .int key, .int (-1)] [] h n cc sc) : ∀ (N0 : Nat) (d : Nat), d < N0 → (mfl (fun i => decide (xk xs i = key)) d = r) → (d ≤ xs.length) → mT l mX1_lastPlaceOf R K 7 [.ref a, .int key, .int (mpr d)] [] h n cc sc := by
  intro N0
  induction N0 with
  | zero => intro d hm; exact absurd hm (Nat.not_lt_zero _)
  | succ N0 ih =>
    intro d hm hr hi
    obtain ⟨f, g, ea, ek, es, ql, qr, qk, qt⟩ := id H
    rcases d with _ | d
    · show mT _ _ _ _ 7 [.ref a, .int key, .int (-1)] [] _ _ _ _
      refine mt_iload_n dX1_lastPlaceOf_7 rfl ?_
      refine mt_if_lt dX1_lastPlaceOf_8 (tgt := 29) rfl (fun q1 => ?_) (fun q1 => ?_)
      · exact kk1 hr
      · exact (q1 (by decide)).elim
    · rw [mpr_s]
      refine mt_iload_n dX1_lastPlaceOf_7 rfl ?_
      refine mt_if_lt dX1_lastPlaceOf_8 (tgt := 29) rfl (fun q2 => ?_) (fun q2 => ?_)
      · have q2 := (mI_lt0 (by omega)).mp q2
        exact q2.elim
      · have q2 := (not_congr (mI_lt0 (by omega))).mp q2
        refine mt_aload_n dX1_lastPlaceOf_11 rfl rfl ?_
        refine mt_getfield mKX1 (i := 0) (by decide) mw_67 dX1_lastPlaceOf_12 ea rfl ?_
        refine mt_iload_n dX1_lastPlaceOf_15 rfl ?_
        refine mp_iaload dX1_lastPlaceOf_16 ek rfl (by omega) (by omega) (v := xk xs d) (qk _ (by omega)) ?_
        refine mt_iload_n dX1_lastPlaceOf_17 rfl ?_
        refine mt_icmp_ne dX1_lastPlaceOf_18 (tgt := 23) rfl (fun q3 => ?_) (fun q3 => ?_)
        · refine mp_iinc dX1_lastPlaceOf_23 rfl (v := mpr d) mpr_dec (ls' := [.ref a, .int key, .int (mpr d)]) rfl (by decide) rfl ?_
          refine mt_goto dX1_lastPlaceOf_26 (tgt := 7) rfl ?_
          exact ih d (by omega) ((if_neg (by simp [q3])).symm.trans hr) (by omega)
        · exact kk0 d ((if_pos (by simp [q3])).symm.trans hr)
def q_lastPlaceOf (xs : List mIt) (key : Int32) : Int32 := mfl (fun i => decide (xk xs i = key)) xs.length
set_option maxRecDepth 100000 in
set_option maxHeartbeats 2000000 in
theorem kX1_lastPlaceOf {l : Launch} (hl : l.stackTraces = false) {h : mH} {n a room : Nat} {fl : Int32} {xs : List mIt} {key : Int32} (H : rowAt h a room fl xs) : mC l mX1_lastPlaceOf rX1_lastPlaceOf [.ref a, .int key] h n (mRi (q_lastPlaceOf xs key) h n) (mNX) := by
  obtain ⟨f, g, ea, ek, es, ql, qr, qk, qt⟩ := id H
  refine mm_enter hl (by decide +kernel) rfl rfl rfl (Nat.le_of_ble_eq_true rfl) ?_
  show mT _ _ _ _ 0 [.ref a, .int key, .double 0] [] _ _ 0 0
  refine mt_aload_n dX1_lastPlaceOf_0 rfl rfl ?_
  refine mt_getfield mKX1 (i := 3) (by decide) mw_77 dX1_lastPlaceOf_1 ea rfl ?_
  refine mt_iconst dX1_lastPlaceOf_4 (v := nI 1) rfl ?_
  refine mp_isub dX1_lastPlaceOf_5 (v := mpr xs.length) rfl ?_
  refine mp_istore_n dX1_lastPlaceOf_6 (ls' := [.ref a, .int key, .int (mpr xs.length)]) rfl (by decide) rfl ?_
  refine tX1_lastPlaceOf_7 H (fun d_1 z2 => ?_) (fun z3 => ?_) (xs.length + 1) xs.length (Nat.lt_succ_self _) rfl (by omega)
  · refine mt_iload_n dX1_lastPlaceOf_21 rfl ?_
    refine mt_ireturn dX1_lastPlaceOf_22 rfl rfl (Nat.le_of_ble_eq_true rfl) (Nat.le_of_ble_eq_true rfl) ?_
    exact ⟨congrArg (fun x => some (Value.int x)) z2, rfl, rfl⟩
  · refine mt_iconst dX1_lastPlaceOf_29 (v := -1) rfl ?_
    refine mt_ireturn dX1_lastPlaceOf_30 rfl rfl (Nat.le_of_ble_eq_true rfl) (Nat.le_of_ble_eq_true rfl) ?_
    exact ⟨congrArg (fun x => some (Value.int x)) z3, rfl, rfl⟩
abbrev rX1_wrongerByExchange : Room := { frames := 0, cells := 0, slots := 0, locals := 0 }
def q_wrongerByExchange (xs : List mIt) (i : Nat) : Int32 := if xk xs i = xk xs (i + 1) then nI 0 else if xk xs i < xk xs (i + 1) then nI 1 else -1
set_option maxRecDepth 100000 in
set_option maxHeartbeats 2000000 in
theorem kX1_wrongerByExchange {l : Launch} (hl : l.stackTraces = false) {h : mH} {n a room : Nat} {fl : Int32} {xs : List mIt} {i : Nat} (H : rowAt h a room fl xs) (hi : i + 1 < xs.length) : mC l mX1_wrongerByExchange rX1_wrongerByExchange [.ref a, .int (nI i)] h n (mRi (q_wrongerByExchange xs i) h n) (mNX) := by
  obtain ⟨f, g, ea, ek, es, ql, qr, qk, qt⟩ := id H
  refine mm_enter hl (by decide +kernel) rfl rfl rfl (Nat.le_of_ble_eq_true rfl) ?_
  show mT _ _ _ _ 0 [.ref a, .int (nI i)] [] _ _ 0 0
  refine mt_aload_n dX1_wrongerByExchange_0 rfl rfl ?_
  refine mt_getfield mKX1 (i := 0) (by decide) mw_67 dX1_wrongerByExchange_1 ea rfl ?_
  refine mt_iload_n dX1_wrongerByExchange_4 rfl ?_
  refine mp_iaload dX1_wrongerByExchange_5 ek rfl (by omega) (by omega) (v := xk xs i) (qk _ (by omega)) ?_
  refine mt_aload_n dX1_wrongerByExchange_6 rfl rfl ?_
  refine mt_getfield mKX1 (i := 0) (by decide) mw_67 dX1_wrongerByExchange_7 ea rfl ?_
  refine mt_iload_n dX1_wrongerByExchange_10 rfl ?_
  refine mt_iconst dX1_wrongerByExchange_11 (v := nI 1) rfl ?_
  refine mp_iadd dX1_wrongerByExchange_12 (v := nI (i + 1)) (nI_add _ _) ?_
  refine mp_iaload dX1_wrongerByExchange_13 ek rfl (by omega) (by omega) (v := xk xs (i + 1)) (qk _ (by omega)) ?_
  refine mt_icmp_ne dX1_wrongerByExchange_14 (tgt := 19) rfl (fun q1 => ?_) (fun q1 => ?_)
  · refine mt_aload_n dX1_wrongerByExchange_19 rfl rfl ?_
    refine mt_getfield mKX1 (i := 0) (by decide) mw_67 dX1_wrongerByExchange_20 ea rfl ?_
    refine mt_iload_n dX1_wrongerByExchange_23 rfl ?_
    refine mp_iaload dX1_wrongerByExchange_24 ek rfl (by omega) (by omega) (v := xk xs i) (qk _ (by omega)) ?_
    refine mt_aload_n dX1_wrongerByExchange_25 rfl rfl ?_
    refine mt_getfield mKX1 (i := 0) (by decide) mw_67 dX1_wrongerByExchange_26 ea rfl ?_
    refine mt_iload_n dX1_wrongerByExchange_29 rfl ?_
    refine mt_iconst dX1_wrongerByExchange_30 (v := nI 1) rfl ?_
    refine mp_iadd dX1_wrongerByExchange_31 (v := nI (i + 1)) (nI_add _ _) ?_
    refine mp_iaload dX1_wrongerByExchange_32 ek rfl (by omega) (by omega) (v := xk xs (i + 1)) (qk _ (by omega)) ?_
    refine mt_icmp_ge dX1_wrongerByExchange_33 (tgt := 40) rfl (fun q2 => ?_) (fun q2 => ?_)
    · have q2 := Int32.not_lt.mpr q2
      refine mt_iconst dX1_wrongerByExchange_40 (v := -1) rfl ?_
      refine mt_ireturn dX1_wrongerByExchange_41 rfl rfl (Nat.le_of_ble_eq_true rfl) (Nat.le_of_ble_eq_true rfl) ?_
      exact ⟨by simp [q_wrongerByExchange, q1, q2], rfl, rfl⟩
    · have q2 := Int32.not_le.mp q2
      refine mt_iconst dX1_wrongerByExchange_36 (v := nI 1) rfl ?_
      refine mt_goto dX1_wrongerByExchange_37 (tgt := 41) rfl ?_
      refine mt_ireturn dX1_wrongerByExchange_41 rfl rfl (Nat.le_of_ble_eq_true rfl) (Nat.le_of_ble_eq_true rfl) ?_
      exact ⟨by simp [q_wrongerByExchange, q1, q2], rfl, rfl⟩
  · refine mt_iconst dX1_wrongerByExchange_17 (v := nI 0) rfl ?_
    refine mt_ireturn dX1_wrongerByExchange_18 rfl rfl (Nat.le_of_ble_eq_true rfl) (Nat.le_of_ble_eq_true rfl) ?_
    exact ⟨by simp [q_wrongerByExchange, q1], rfl, rfl⟩
abbrev rX1_become : Room := { frames := 1, cells := 0, slots := 0, locals := 26 }
set_option maxRecDepth 100000 in
set_option maxHeartbeats 2000000 in
theorem kX1_become {l : Launch} (hl : l.stackTraces = false) {h : mH} {n a b room room2 : Nat} {fl fl2 : Int32} {xs ys : List mIt} (H : rowAt h a room fl xs) (H2 : rowAt h b room2 fl2 ys) (hab : b + 3 ≤ a ∨ a + 3 ≤ b) (hle : ys.length ≤ room) : mC l mX1_become rX1_become [.ref a, .ref b] h n (mRw a room fl ys h n) (mNX) := by
  obtain ⟨f_1, g_1, ea_1, ek_1, es_1, ql_1, qr_1, qk_1, qt_1⟩ := id H
  obtain ⟨f_2, g_2, ea_2, ek_2, es_2, ql_2, qr_2, qk_2, qt_2⟩ := id H2
  refine mm_enter hl (by decide +kernel) rfl rfl rfl (Nat.le_of_ble_eq_true rfl) ?_
  show mT _ _ _ _ 0 [.ref a, .ref b, .double 0] [] _ _ 0 0
  refine mt_aload_n dX1_become_0 rfl rfl ?_
  refine mt_getfield mKX1 (i := 3) (by decide) mw_77 dX1_become_1 ea_2 rfl ?_
  refine mt_aload_n dX1_become_4 rfl rfl ?_
  refine mt_getfield mKX1 (i := 0) (by decide) mw_67 dX1_become_5 ea_1 rfl ?_
  refine mt_alen dX1_become_8 ek_1 (by decide) ?_
  refine mt_mmin dX1_become_9 mw_151 mw_152 mw_41 (mw_min) (Nat.le_of_ble_eq_true rfl) ⟨Nat.le_of_ble_eq_true rfl, Nat.le_of_ble_eq_true rfl⟩ (Nat.le_of_ble_eq_true rfl) (Nat.le_of_ble_eq_true rfl) (v := nI (min ys.length room)) (mI_min (by omega) (by omega)) ?_
  refine mp_istore_n dX1_become_12 (ls' := [.ref a, .ref b, .int (nI (min ys.length room))]) rfl (by decide) rfl ?_
  refine mt_aload_n dX1_become_13 rfl rfl ?_
  refine mt_getfield mKX1 (i := 0) (by decide) mw_67 dX1_become_14 ea_2 rfl ?_
  refine mt_iconst dX1_become_17 (v := nI 0) rfl ?_
  refine mt_aload_n dX1_become_18 rfl rfl ?_
  refine mt_getfield mKX1 (i := 0) (by decide) mw_67 dX1_become_19 ea_1 rfl ?_
  refine mt_iconst dX1_become_22 (v := nI 0) rfl ?_
  refine mt_iload_n dX1_become_23 rfl ?_
  refine mp_acopy dX1_become_24 mw_154 mw_156 mw_155 mw_42 ek_2 ek_1 rfl rfl rfl (by omega) (by omega) (by omega) (by omega) (Nat.le_of_ble_eq_true rfl) ⟨Nat.le_of_ble_eq_true rfl, Nat.le_of_ble_eq_true rfl⟩ (fun h3 e4 f5 => ?_)
  refine mt_aload_n dX1_become_27 rfl rfl ?_
  refine mt_getfield mKX1 (i := 1) (by decide) mw_70 dX1_become_28 ((f5 (b) (by omega)).trans ea_2) rfl ?_
  refine mt_iconst dX1_become_31 (v := nI 0) rfl ?_
  refine mt_aload_n dX1_become_32 rfl rfl ?_
  refine mt_getfield mKX1 (i := 1) (by decide) mw_70 dX1_become_33 ((f5 (a) (by omega)).trans ea_1) rfl ?_
  refine mt_iconst dX1_become_36 (v := nI 0) rfl ?_
  refine mt_iload_n dX1_become_37 rfl ?_
  refine mp_acopy dX1_become_38 mw_154 mw_156 mw_155 mw_42 ((f5 (b + 2) (by omega)).trans es_2) ((f5 (a + 2) (by omega)).trans es_1) rfl rfl rfl (by omega) (by omega) (by omega) (by omega) (Nat.le_of_ble_eq_true rfl) ⟨Nat.le_of_ble_eq_true rfl, Nat.le_of_ble_eq_true rfl⟩ (fun h6 e7 f8 => ?_)
  refine mt_aload_n dX1_become_41 rfl rfl ?_
  refine mt_iload_n dX1_become_42 rfl ?_
  refine mp_putfield mKX1 (i := 3) (fs' := [.ref (a + 1), .ref (a + 2), .int fl, .int (nI (min ys.length room))]) (by decide) mw_77 rfl dX1_become_43 ((f8 (a) (by omega)).trans ((f5 (a) (by omega)).trans ea_1)) (Nat.le_of_ble_eq_true rfl) rfl rfl (fun h9 e10 f11 => ?_)
  refine mt_return dX1_become_46 rfl (Nat.le_of_ble_eq_true rfl) (Nat.le_of_ble_eq_true rfl) ?_
  exact ⟨rfl, rfl, rowAt.copied (e10) ((f11 (a + 1) (by omega)).trans ((f8 (a + 1) (by omega)).trans e4)) ((f11 (a + 2) (by omega)).trans e7) (Nat.min_eq_left hle) hle qr_1 qk_2 qt_2, fun j hj => (f11 j (by omega)).trans ((f8 j (by omega)).trans (f5 j (by omega)))⟩
abbrev rX1_trade : Room := { frames := 0, cells := 0, slots := 0, locals := 0 }
set_option maxRecDepth 100000 in
set_option maxHeartbeats 2000000 in
theorem kX1_trade {l : Launch} (hl : l.stackTraces = false) {h : mH} {n a room : Nat} {fl : Int32} {xs : List mIt} {i j : Nat} (H : rowAt h a room fl xs) (hi : i < xs.length) (hj : j < xs.length) : mC l mX1_trade rX1_trade [.ref a, .int (nI i), .int (nI j)] h n (mRw a room fl (swp xs i j) h n) (mNX) := by
  obtain ⟨f_1, g_1, ea_1, ek_1, es_1, ql_1, qr_1, qk_1, qt_1⟩ := id H
  refine mm_enter hl (by decide +kernel) rfl rfl rfl (Nat.le_of_ble_eq_true rfl) ?_
  show mT _ _ _ _ 0 [.ref a, .int (nI i), .int (nI j), .double 0, .double 0] [] _ _ 0 0
  refine mt_aload_n dX1_trade_0 rfl rfl ?_
  refine mt_getfield mKX1 (i := 0) (by decide) mw_67 dX1_trade_1 ea_1 rfl ?_
  refine mt_iload_n dX1_trade_4 rfl ?_
  refine mp_iaload dX1_trade_5 ek_1 rfl (by omega) (by omega) (v := xk xs i) (qk_1 _ (by omega)) ?_
  refine mp_istore_n dX1_trade_6 (ls' := [.ref a, .int (nI i), .int (nI j), .int (xk xs i), .double 0]) rfl (by decide) rfl ?_
  refine mt_aload_n dX1_trade_7 rfl rfl ?_
  refine mt_getfield mKX1 (i := 1) (by decide) mw_70 dX1_trade_8 ea_1 rfl ?_
  refine mt_iload_n dX1_trade_11 rfl ?_
  refine mp_iaload dX1_trade_12 es_1 rfl (by omega) (by omega) (v := xt xs i) (qt_1 _ (by omega)) ?_
  refine mp_istore dX1_trade_13 (ls' := [.ref a, .int (nI i), .int (nI j), .int (xk xs i), .int (xt xs i)]) rfl (by decide) rfl ?_
  refine mt_aload_n dX1_trade_15 rfl rfl ?_
  refine mt_getfield mKX1 (i := 0) (by decide) mw_67 dX1_trade_16 ea_1 rfl ?_
  refine mt_iload_n dX1_trade_19 rfl ?_
  refine mt_aload_n dX1_trade_20 rfl rfl ?_
  refine mt_getfield mKX1 (i := 0) (by decide) mw_67 dX1_trade_21 ea_1 rfl ?_
  refine mt_iload_n dX1_trade_24 rfl ?_
  refine mp_iaload dX1_trade_25 ek_1 rfl (by omega) (by omega) (v := xk xs j) (qk_1 _ (by omega)) ?_
  refine mp_iastore dX1_trade_26 ek_1 rfl (by omega) (by omega) (fun h2 e3 f4 => ?_)
  refine mt_aload_n dX1_trade_27 rfl rfl ?_
  refine mt_getfield mKX1 (i := 1) (by decide) mw_70 dX1_trade_28 ((f4 (a) (by omega)).trans ea_1) rfl ?_
  refine mt_iload_n dX1_trade_31 rfl ?_
  refine mt_aload_n dX1_trade_32 rfl rfl ?_
  refine mt_getfield mKX1 (i := 1) (by decide) mw_70 dX1_trade_33 ((f4 (a) (by omega)).trans ea_1) rfl ?_
  refine mt_iload_n dX1_trade_36 rfl ?_
  refine mp_iaload dX1_trade_37 ((f4 (a + 2) (by omega)).trans es_1) rfl (by omega) (by omega) (v := xt xs j) (qt_1 _ (by omega)) ?_
  refine mp_iastore dX1_trade_38 ((f4 (a + 2) (by omega)).trans es_1) rfl (by omega) (by omega) (fun h5 e6 f7 => ?_)
  refine mt_aload_n dX1_trade_39 rfl rfl ?_
  refine mt_getfield mKX1 (i := 0) (by decide) mw_67 dX1_trade_40 ((f7 (a) (by omega)).trans ((f4 (a) (by omega)).trans ea_1)) rfl ?_
  refine mt_iload_n dX1_trade_43 rfl ?_
  refine mt_iload_n dX1_trade_44 rfl ?_
  refine mp_iastore dX1_trade_45 ((f7 (a + 1) (by omega)).trans e3) rfl (by omega) (by omega) (fun h8 e9 f10 => ?_)
  refine mt_aload_n dX1_trade_46 rfl rfl ?_
  refine mt_getfield mKX1 (i := 1) (by decide) mw_70 dX1_trade_47 ((f10 (a) (by omega)).trans ((f7 (a) (by omega)).trans ((f4 (a) (by omega)).trans ea_1))) rfl ?_
  refine mt_iload_n dX1_trade_50 rfl ?_
  refine mt_iload dX1_trade_51 rfl ?_
  refine mp_iastore dX1_trade_53 ((f10 (a + 2) (by omega)).trans e6) rfl (by omega) (by omega) (fun h11 e12 f13 => ?_)
  refine mt_return dX1_trade_54 rfl (Nat.le_of_ble_eq_true rfl) (Nat.le_of_ble_eq_true rfl) ?_
  exact ⟨rfl, rfl, rowAt_swp ((f13 (a) (by omega)).trans ((f10 (a) (by omega)).trans ((f7 (a) (by omega)).trans ((f4 (a) (by omega)).trans ea_1)))) ((f13 (a + 1) (by omega)).trans e9) (e12) hi hj ql_1 qr_1 qk_1 qt_1, fun j hj => (f13 j (by omega)).trans ((f10 j (by omega)).trans ((f7 j (by omega)).trans (f4 j (by omega))))⟩
abbrev rX1_init : Room := { frames := 1, cells := 2, slots := 2 * 320, locals := 20 }
set_option maxRecDepth 100000 in
set_option maxHeartbeats 2000000 in
theorem kX1_init {l : Launch} (hl : l.stackTraces = false) {h : mH} {a room : Nat} {fl : Int32} (H : h a = .inr (.inr (3, [.null, .null, .int (nI 0), .int (nI 0)]))) (hr : room ≤ 320) (hfl : mfit .boolean (.int fl) = true) : mC l mX1_init rX1_init [.ref a, .int (nI room), .int fl] h (a + 1) (fun v h' n' => v = none ∧ n' = a + 3 ∧ rowAt h' a room fl [] ∧ ∀ j, j < a → h' j = h j) (mNX) := by
  refine mm_enter hl (by decide +kernel) rfl rfl rfl (Nat.le_of_ble_eq_true rfl) ?_
  show mT _ _ _ _ 0 [.ref a, .int (nI room), .int fl] [] _ _ 0 0
  refine mt_aload_n dX1_init_0 rfl rfl ?_
  refine mt_objInit dX1_init_1 mw_66 mw_58 mw_59 (Nat.le_of_ble_eq_true rfl) ⟨Nat.le_of_ble_eq_true rfl, Nat.le_of_ble_eq_true rfl⟩ ?_
  refine mt_aload_n dX1_init_4 rfl rfl ?_
  refine mt_iload_n dX1_init_5 rfl ?_
  refine mp_newarray dX1_init_6 mw_87 rfl (by omega) (by simp only [rX1_init]; omega) (by simp only [rX1_init]; omega) (fun h1 e2 f3 => ?_)
  refine mp_putfinal mKX1 (i := 0) (fs' := [.ref (a + 1), .null, .int (nI 0), .int (nI 0)]) (by decide) mw_67 rfl rfl rfl dX1_init_8 ((f3 (a) (by omega)).trans H) (Nat.le_of_ble_eq_true rfl) rfl rfl (fun h4 e5 f6 => ?_)
  refine mt_aload_n dX1_init_11 rfl rfl ?_
  refine mt_iload_n dX1_init_12 rfl ?_
  refine mp_newarray dX1_init_13 mw_87 rfl (by omega) (by simp only [rX1_init]; omega) (by simp only [rX1_init]; omega) (fun h7 e8 f9 => ?_)
  refine mp_putfinal mKX1 (i := 1) (fs' := [.ref (a + 1), .ref (a + 2), .int (nI 0), .int (nI 0)]) (by decide) mw_70 rfl rfl rfl dX1_init_15 ((f9 (a) (by omega)).trans e5) (Nat.le_of_ble_eq_true rfl) rfl rfl (fun h10 e11 f12 => ?_)
  refine mt_aload_n dX1_init_18 rfl rfl ?_
  refine mt_iload_n dX1_init_19 rfl ?_
  refine mp_putfinal mKX1 (i := 2) (fs' := [.ref (a + 1), .ref (a + 2), .int fl, .int (nI 0)]) (by decide) mw_73 rfl rfl rfl dX1_init_20 e11 (Nat.le_of_ble_eq_true rfl) rfl hfl (fun h13 e14 f15 => ?_)
  refine mt_return dX1_init_23 rfl (by simp only [rX1_init]; omega) (by simp only [rX1_init]; omega) ?_
  exact ⟨rfl, rfl, ⟨_, _, e14, ((f15 (a + 1) (by omega)).trans ((f12 (a + 1) (by omega)).trans ((f9 (a + 1) (by omega)).trans ((f6 (a + 1) (by omega)).trans e2)))), ((f15 (a + 2) (by omega)).trans ((f12 (a + 2) (by omega)).trans e8)), Nat.zero_le _, hr, fun i hi => absurd hi (Nat.not_lt_zero _), fun i hi => absurd hi (Nat.not_lt_zero _)⟩, fun j hj => (f15 j (by omega)).trans ((f12 j (by omega)).trans ((f9 j (by omega)).trans ((f6 j (by omega)).trans (f3 j (by omega)))))⟩
abbrev rX1_appendSpan : Room := { frames := 1, cells := 0, slots := 0, locals := 22 }
set_option maxRecDepth 100000 in
set_option maxHeartbeats 2000000 in
theorem tX1_appendSpan_3 {l : Launch} {K : mK} {n a b room room2 s e : Nat} {fl fl2 : Int32} {ys r : List mIt} {h0 : mH} (hl : l.stackTraces = false) (hab : b + 3 ≤ a ∨ a + 3 ≤ b) (he : e ≤ ys.length) (kk0 : ∀ (i : Nat) (h : mH), (rowAt h a room fl r) → (∀ j, (j < a ∨ a + 3 ≤ j) → h j = h0 j) → mT l mX1_appendSpan rX1_appendSpan K 33 [.ref a, .ref b, .int (nI s), .int (nI e), .int (nI i)] [] h n 0 0) : ∀ (N0 : Nat) (i : Nat) (h : mH) (xs : List mIt), (e - i) < N0 → (rowAt h a room fl xs) → (rowAt h b room2 fl2 ys) → (∀ j, (j < a ∨ a + 3 ≤ j) → h j = h0 j) → (xs ++ span ys i e = r) → (xs.length + (e - i) ≤ room) → (i ≤ e) → mT l mX1_appendSpan rX1_appendSpan K 3 [.ref a, .ref b, .int (nI s), .int (nI e), .int (nI i)] [] h n 0 0 := by
  intro N0
  induction N0 with
  | zero => intro i h xs hm; exact absurd hm (Nat.not_lt_zero _)
  | succ N0 ih =>
    intro i h xs hm H H2 hfr hxs hro hi
    obtain ⟨f_1, g_1, ea_1, ek_1, es_1, ql_1, qr_1, qk_1, qt_1⟩ := id H
    obtain ⟨f_2, g_2, ea_2, ek_2, es_2, ql_2, qr_2, qk_2, qt_2⟩ := id H2
    refine mt_iload dX1_appendSpan_3 rfl ?_
    refine mt_iload_n dX1_appendSpan_5 rfl ?_
    refine mt_icmp_ge dX1_appendSpan_6 (tgt := 33) rfl (fun q3 => ?_) (fun q3 => ?_)
    · have q3 := Int32.not_lt.mpr q3
      have q3 := (not_congr (nI_ltI (by omega) (by omega))).mp q3
      exact kk0 i h (((span_end (by omega)).symm.trans hxs) ▸ H) hfr
    · have q3 := Int32.not_le.mp q3
      have q3 := (nI_ltI (by omega) (by omega)).mp q3
      refine mt_aload_n dX1_appendSpan_9 rfl rfl ?_
      refine mt_aload_n dX1_appendSpan_10 rfl rfl ?_
      refine mt_getfield mKX1 (i := 0) (by decide) mw_67 dX1_appendSpan_11 ea_2 rfl ?_
      refine mt_iload dX1_appendSpan_14 rfl ?_
      refine mp_iaload dX1_appendSpan_16 ek_2 rfl (by omega) (by omega) (v := xk ys i) (qk_2 _ (by omega)) ?_
      refine mt_aload_n dX1_appendSpan_17 rfl rfl ?_
      refine mt_getfield mKX1 (i := 1) (by decide) mw_70 dX1_appendSpan_18 ea_2 rfl ?_
      refine mt_iload dX1_appendSpan_21 rfl ?_
      refine mp_iaload dX1_appendSpan_23 es_2 rfl (by omega) (by omega) (v := xt ys i) (qt_2 _ (by omega)) ?_
      refine mt_callV (N := mX1_append) (Rc := rX1_append) (As := [.int (xk ys i), .int (xt ys i)]) (st := []) dX1_appendSpan_24 (kX1_append hl H (by first | omega | assumption | (simp only [List.length_append, List.length_cons, List.length_nil]; omega))) sX1_append mw_177 mKX1 rfl ea_1 rfl (Nat.le_of_ble_eq_true rfl) ⟨⟨Nat.le_of_ble_eq_true rfl, Nat.le_of_ble_eq_true rfl⟩, Nat.le_of_ble_eq_true rfl, Nat.le_of_ble_eq_true rfl⟩ (fun v4 h5 n6 c7 => ?_) (fun _ _ _ hx => hx.elim)
      obtain ⟨c7a, c7b, c7c, c7d⟩ := c7
      rw [c7a, c7b]
      show mT _ _ _ _ 27 [.ref a, .ref b, .int (nI s), .int (nI e), .int (nI i)] [] _ _ _ _
      refine mp_iinc dX1_appendSpan_27 rfl (v := nI (i + 1)) mI_inc (ls' := [.ref a, .ref b, .int (nI s), .int (nI e), .int (nI (i + 1))]) rfl (by decide) rfl ?_
      refine mt_goto dX1_appendSpan_30 (tgt := 3) rfl ?_
      have H8 : rowAt h5 b room2 fl2 ys := (H2).fr (fun j j1 j2 => c7d j (by omega))
      exact ih (i + 1) h5 (xs ++ [(xk ys i, xt ys i)]) (by omega) c7c H8 (fun j hj => (c7d j (by omega)).trans (hfr j hj)) ((span_go (by omega) he).trans hxs) (by rw [List.length_append]; simp only [List.length_cons, List.length_nil]; omega) (by omega)
set_option maxRecDepth 100000 in
set_option maxHeartbeats 2000000 in
theorem kX1_appendSpan {l : Launch} (hl : l.stackTraces = false) {h : mH} {n a b room room2 : Nat} {fl fl2 : Int32} {xs ys : List mIt} {i e : Nat} (H : rowAt h a room fl xs) (H2 : rowAt h b room2 fl2 ys) (hab : b + 3 ≤ a ∨ a + 3 ≤ b) (he : e ≤ ys.length) (hro : xs.length + (e - i) ≤ room) (hi : i ≤ e) : mC l mX1_appendSpan rX1_appendSpan [.ref a, .ref b, .int (nI i), .int (nI e)] h n (mRw a room fl (xs ++ span ys i e) h n) (mNX) := by
  obtain ⟨f_1, g_1, ea_1, ek_1, es_1, ql_1, qr_1, qk_1, qt_1⟩ := id H
  obtain ⟨f_2, g_2, ea_2, ek_2, es_2, ql_2, qr_2, qk_2, qt_2⟩ := id H2
  refine mm_enter hl (by decide +kernel) rfl rfl rfl (Nat.le_of_ble_eq_true rfl) ?_
  show mT _ _ _ _ 0 [.ref a, .ref b, .int (nI i), .int (nI e), .double 0] [] _ _ 0 0
  refine mt_iload_n dX1_appendSpan_0 rfl ?_
  refine mp_istore dX1_appendSpan_1 (ls' := [.ref a, .ref b, .int (nI i), .int (nI e), .int (nI i)]) rfl (by decide) rfl ?_
  refine tX1_appendSpan_3 hl hab he (fun i_3 h_4 z5 z6 => ?_) (e - i + 1) i h xs (Nat.lt_succ_self _) H H2 (fun _ _ => rfl) rfl hro hi
  refine mt_return dX1_appendSpan_33 rfl (Nat.le_of_ble_eq_true rfl) (Nat.le_of_ble_eq_true rfl) ?_
  exact ⟨rfl, rfl, z5, z6⟩

/-! ===== the class Loom ===== -/
/-- two sorted spans woven, by the lesser key, the first one's ahead; how many pairs stood wrong -/
def wle (p q : mIt) : Bool := !decide (q.1 < p.1)
def winv : List mIt → List mIt → Int32
  | [], _ => 0
  | _ :: _, [] => 0
  | a :: as, b :: bs => if b.1 < a.1 then nI (as.length + 1) + winv (a :: as) bs else winv as (b :: bs)
theorem winv_nil {as : List mIt} : winv as [] = 0 := by cases as <;> simp [winv]
theorem winv_l {a b : mIt} {as bs : List mIt} (h : ¬ b.1 < a.1) : winv (a :: as) (b :: bs) = winv as (b :: bs) := by rw [winv, if_neg h]
theorem winv_r {a b : mIt} {as bs : List mIt} (h : b.1 < a.1) : winv (a :: as) (b :: bs) = nI (as.length + 1) + winv (a :: as) bs := by rw [winv, if_pos h]
theorem wm_nil {as : List mIt} : List.merge as [] wle = as := by cases as <;> simp [List.merge]
theorem wm_l {a b : mIt} {as bs : List mIt} (h : ¬ b.1 < a.1) : List.merge (a :: as) (b :: bs) wle = a :: List.merge as (b :: bs) wle := by
  rw [List.cons_merge_cons]; simp [wle, h]
theorem wm_r {a b : mIt} {as bs : List mIt} (h : b.1 < a.1) : List.merge (a :: as) (b :: bs) wle = b :: List.merge (a :: as) bs wle := by
  rw [List.cons_merge_cons]; simp [wle, h]
theorem ws_l {xs ys res : List mIt} {l m r e : Nat} (hl : l < m) (hm : m ≤ ys.length) (hr : r < e) (he : e ≤ ys.length) (h : ¬ xk ys r < xk ys l) (hx : xs ++ List.merge (span ys l m) (span ys r e) wle = res) : (xs ++ [(xk ys l, xt ys l)]) ++ List.merge (span ys (l + 1) m) (span ys r e) wle = res := by
  rw [span_cons hl hm, span_cons hr he, wm_l (a := (xk ys l, xt ys l)) (b := (xk ys r, xt ys r)) h] at hx
  rw [List.append_assoc, span_cons hr he]
  exact hx
theorem ws_r {xs ys res : List mIt} {l m r e : Nat} (hl : l < m) (hm : m ≤ ys.length) (hr : r < e) (he : e ≤ ys.length) (h : xk ys r < xk ys l) (hx : xs ++ List.merge (span ys l m) (span ys r e) wle = res) : (xs ++ [(xk ys r, xt ys r)]) ++ List.merge (span ys l m) (span ys (r + 1) e) wle = res := by
  rw [span_cons hl hm, span_cons hr he, wm_r (a := (xk ys l, xt ys l)) (b := (xk ys r, xt ys r)) h] at hx
  rw [List.append_assoc, span_cons hl hm]
  exact hx
theorem wi_l {ys : List mIt} {w res : Int32} {l m r e : Nat} (hl : l < m) (hm : m ≤ ys.length) (hr : r < e) (he : e ≤ ys.length) (h : ¬ xk ys r < xk ys l) (hx : w + winv (span ys l m) (span ys r e) = res) : w + winv (span ys (l + 1) m) (span ys r e) = res := by
  rw [span_cons hl hm, span_cons hr he, winv_l (a := (xk ys l, xt ys l)) (b := (xk ys r, xt ys r)) h] at hx
  rw [span_cons hr he]
  exact hx
theorem wi_r {ys : List mIt} {w res : Int32} {l m r e : Nat} (hl : l < m) (hm : m ≤ ys.length) (hr : r < e) (he : e ≤ ys.length) (h : xk ys r < xk ys l) (hx : w + winv (span ys l m) (span ys r e) = res) : (w + nI (m - l)) + winv (span ys l m) (span ys (r + 1) e) = res := by
  rw [span_cons hl hm, span_cons hr he, winv_r (a := (xk ys l, xt ys l)) (b := (xk ys r, xt ys r)) h, span_len hm] at hx
  rw [span_cons hl hm, ← hx, show m - (l + 1) + 1 = m - l by omega, Int32.add_assoc]
theorem ws_end {xs ys res : List mIt} {l m r e : Nat} (h : ¬ l < m ∨ ¬ r < e) (hm : m ≤ ys.length) (he : e ≤ ys.length) (hx : xs ++ List.merge (span ys l m) (span ys r e) wle = res) : xs ++ span ys l m ++ span ys r e = res := by
  have nil : ∀ {i j : Nat}, ¬ i < j → span ys i j = [] := fun h => by have := @span_end [] ys _ _ h; simpa using this
  rcases h with h | h
  · rw [nil h] at hx ⊢
    rw [List.nil_merge] at hx
    simpa using hx
  · rw [nil h] at hx ⊢
    rw [wm_nil] at hx
    simpa using hx
theorem wi_end {ys : List mIt} {w res : Int32} {l m r e : Nat} (h : ¬ l < m ∨ ¬ r < e) (hx : w + winv (span ys l m) (span ys r e) = res) : w = res := by
  have nil : ∀ {i j : Nat}, ¬ i < j → span ys i j = [] := fun h => by have := @span_end [] ys _ _ h; simpa using this
  rcases h with h | h
  · rw [nil h, winv, Int32.add_zero] at hx; exact hx
  · rw [nil h, winv_nil, Int32.add_zero] at hx; exact hx
/-- an int is answered; the row at a holds ys, all else is as it was -/
def mRr (r : Int32) (a room : Nat) (fl : Int32) (ys : List mIt) (h : mH) (n : Nat) : Option Value → mH → Nat → Prop := fun v h' n' => v = some (.int r) ∧ n' = n ∧ rowAt h' a room fl ys ∧ ∀ j, (j < a ∨ a + 3 ≤ j) → h' j = h j
abbrev rX0_mergeSpans : Room := { frames := 2, cells := 0, slots := 0, locals := 46 }
set_option maxRecDepth 100000 in
set_option maxHeartbeats 2000000 in
theorem tX0_mergeSpans_9 {l : Launch} {K : mK} {n a b room room2 s m e : Nat} {fl fl2 cr : Int32} {ys r : List mIt} {h0 : mH} (hl : l.stackTraces = false) (hab : b + 3 ≤ a ∨ a + 3 ≤ b) (hmy : m ≤ ys.length) (he : e ≤ ys.length) (kk0 : ∀ (lf : Nat) (rt : Nat) (c : Int32) (h : mH) (xs : List mIt), (rowAt h a room fl xs) → (rowAt h b room2 fl2 ys) → (∀ j, (j < a ∨ a + 3 ≤ j) → h j = h0 j) → (xs ++ span ys lf m ++ span ys rt e = r) → (c = cr) → (xs.length + (m - lf) + (e - rt) ≤ room) → (lf ≤ m) → (rt ≤ e) → mT l mX0_mergeSpans rX0_mergeSpans K 97 [.ref b, .int (nI s), .int (nI m), .int (nI e), .ref a, .int c, .int (nI lf), .int (nI rt)] [] h n 0 0) : ∀ (N0 : Nat) (lf : Nat) (rt : Nat) (c : Int32) (h : mH) (xs : List mIt), ((m - lf) + (e - rt)) < N0 → (rowAt h a room fl xs) → (rowAt h b room2 fl2 ys) → (∀ j, (j < a ∨ a + 3 ≤ j) → h j = h0 j) → (xs ++ List.merge (span ys lf m) (span ys rt e) wle = r) → (c + winv (span ys lf m) (span ys rt e) = cr) → (xs.length + (m - lf) + (e - rt) ≤ room) → (lf ≤ m) → (rt ≤ e) → mT l mX0_mergeSpans rX0_mergeSpans K 9 [.ref b, .int (nI s), .int (nI m), .int (nI e), .ref a, .int c, .int (nI lf), .int (nI rt)] [] h n 0 0 := by
  intro N0
  induction N0 with
  | zero => intro lf rt c h xs hm; exact absurd hm (Nat.not_lt_zero _)
  | succ N0 ih =>
    intro lf rt c h xs hm H H2 hfr hxs hc hro hlm hre
    obtain ⟨f_1, g_1, ea_1, ek_1, es_1, ql_1, qr_1, qk_1, qt_1⟩ := id H
    obtain ⟨f_2, g_2, ea_2, ek_2, es_2, ql_2, qr_2, qk_2, qt_2⟩ := id H2
    refine mt_iload dX0_mergeSpans_9 rfl ?_
    refine mt_iload_n dX0_mergeSpans_11 rfl ?_
    refine mt_icmp_ge dX0_mergeSpans_12 (tgt := 97) rfl (fun q3 => ?_) (fun q3 => ?_)
    · have q3 := Int32.not_lt.mpr q3
      have q3 := (not_congr (nI_ltI (by omega) (by omega))).mp q3
      exact kk0 lf rt c h xs H H2 hfr (ws_end (by omega) hmy he hxs) (wi_end (ys := ys) (l := lf) (m := m) (r := rt) (e := e) (by omega) hc) hro hlm hre
    · have q3 := Int32.not_le.mp q3
      have q3 := (nI_ltI (by omega) (by omega)).mp q3
      refine mt_iload dX0_mergeSpans_15 rfl ?_
      refine mt_iload_n dX0_mergeSpans_17 rfl ?_
      refine mt_icmp_ge dX0_mergeSpans_18 (tgt := 97) rfl (fun q4 => ?_) (fun q4 => ?_)
      · have q4 := Int32.not_lt.mpr q4
        have q4 := (not_congr (nI_ltI (by omega) (by omega))).mp q4
        exact kk0 lf rt c h xs H H2 hfr (ws_end (by omega) hmy he hxs) (wi_end (ys := ys) (l := lf) (m := m) (r := rt) (e := e) (by omega) hc) hro hlm hre
      · have q4 := Int32.not_le.mp q4
        have q4 := (nI_ltI (by omega) (by omega)).mp q4
        refine mt_aload_n dX0_mergeSpans_21 rfl rfl ?_
        refine mt_getfield mKX1 (i := 0) (by decide) mw_69 dX0_mergeSpans_22 ea_2 rfl ?_
        refine mt_iload dX0_mergeSpans_25 rfl ?_
        refine mp_iaload dX0_mergeSpans_27 ek_2 rfl (by omega) (by omega) (v := xk ys lf) (qk_2 _ (by omega)) ?_
        refine mt_aload_n dX0_mergeSpans_28 rfl rfl ?_
        refine mt_getfield mKX1 (i := 0) (by decide) mw_69 dX0_mergeSpans_29 ea_2 rfl ?_
        refine mt_iload dX0_mergeSpans_32 rfl ?_
        refine mp_iaload dX0_mergeSpans_34 ek_2 rfl (by omega) (by omega) (v := xk ys rt) (qk_2 _ (by omega)) ?_
        refine mt_icmp_gt dX0_mergeSpans_35 (tgt := 63) rfl (fun q5 => ?_) (fun q5 => ?_)
        · refine mt_iload dX0_mergeSpans_63 rfl ?_
          refine mt_iload_n dX0_mergeSpans_65 rfl ?_
          refine mt_iload dX0_mergeSpans_66 rfl ?_
          refine mp_isub dX0_mergeSpans_68 (v := nI (m - lf)) (pk_sub (by omega)) ?_
          refine mp_iadd dX0_mergeSpans_69 (v := c + (nI (m - lf))) rfl ?_
          refine mp_istore dX0_mergeSpans_70 (ls' := [.ref b, .int (nI s), .int (nI m), .int (nI e), .ref a, .int (c + (nI (m - lf))), .int (nI lf), .int (nI rt)]) rfl (by decide) rfl ?_
          refine mt_aload dX0_mergeSpans_72 rfl rfl ?_
          refine mt_aload_n dX0_mergeSpans_74 rfl rfl ?_
          refine mt_getfield mKX1 (i := 0) (by decide) mw_69 dX0_mergeSpans_75 ea_2 rfl ?_
          refine mt_iload dX0_mergeSpans_78 rfl ?_
          refine mp_iaload dX0_mergeSpans_80 ek_2 rfl (by omega) (by omega) (v := xk ys rt) (qk_2 _ (by omega)) ?_
          refine mt_aload_n dX0_mergeSpans_81 rfl rfl ?_
          refine mt_getfield mKX1 (i := 1) (by decide) mw_72 dX0_mergeSpans_82 ea_2 rfl ?_
          refine mt_iload dX0_mergeSpans_85 rfl ?_
          refine mp_iaload dX0_mergeSpans_87 es_2 rfl (by omega) (by omega) (v := xt ys rt) (qt_2 _ (by omega)) ?_
          refine mt_callV (N := mX1_append) (Rc := rX1_append) (As := [.int (xk ys rt), .int (xt ys rt)]) (st := []) dX0_mergeSpans_88 (kX1_append hl H (by first | omega | assumption | (simp only [List.length_append, List.length_cons, List.length_nil, span_len, Nat.sub_zero] at *; omega))) sX1_append mw_169 mKX1 rfl ea_1 rfl (Nat.le_of_ble_eq_true rfl) ⟨⟨Nat.le_of_ble_eq_true rfl, Nat.le_of_ble_eq_true rfl⟩, Nat.le_of_ble_eq_true rfl, Nat.le_of_ble_eq_true rfl⟩ (fun v6 h7 n8 c9 => ?_) (fun _ _ _ hx => hx.elim)
          obtain ⟨c9a, c9b, c9c, c9d⟩ := c9
          rw [c9a, c9b]
          show mT _ _ _ _ 91 [.ref b, .int (nI s), .int (nI m), .int (nI e), .ref a, .int (c + (nI (m - lf))), .int (nI lf), .int (nI rt)] [] _ _ _ _
          refine mp_iinc dX0_mergeSpans_91 rfl (v := nI (rt + 1)) mI_inc (ls' := [.ref b, .int (nI s), .int (nI m), .int (nI e), .ref a, .int (c + (nI (m - lf))), .int (nI lf), .int (nI (rt + 1))]) rfl (by decide) rfl ?_
          refine mt_goto dX0_mergeSpans_94 (tgt := 9) rfl ?_
          have H10 : rowAt h7 b room2 fl2 ys := (H2).fr (fun j j1 j2 => c9d j (by omega))
          exact ih lf (rt + 1) (c + (nI (m - lf))) h7 (xs ++ [(xk ys rt, xt ys rt)]) (by omega) c9c H10 (fun j hj => (c9d j (by omega)).trans (hfr j hj)) (ws_r (by omega) hmy (by omega) he q5 hxs) (wi_r (by omega) hmy (by omega) he q5 hc) (by rw [List.length_append]; simp only [List.length_cons, List.length_nil]; omega) (by omega) (by omega)
        · refine mt_aload dX0_mergeSpans_38 rfl rfl ?_
          refine mt_aload_n dX0_mergeSpans_40 rfl rfl ?_
          refine mt_getfield mKX1 (i := 0) (by decide) mw_69 dX0_mergeSpans_41 ea_2 rfl ?_
          refine mt_iload dX0_mergeSpans_44 rfl ?_
          refine mp_iaload dX0_mergeSpans_46 ek_2 rfl (by omega) (by omega) (v := xk ys lf) (qk_2 _ (by omega)) ?_
          refine mt_aload_n dX0_mergeSpans_47 rfl rfl ?_
          refine mt_getfield mKX1 (i := 1) (by decide) mw_72 dX0_mergeSpans_48 ea_2 rfl ?_
          refine mt_iload dX0_mergeSpans_51 rfl ?_
          refine mp_iaload dX0_mergeSpans_53 es_2 rfl (by omega) (by omega) (v := xt ys lf) (qt_2 _ (by omega)) ?_
          refine mt_callV (N := mX1_append) (Rc := rX1_append) (As := [.int (xk ys lf), .int (xt ys lf)]) (st := []) dX0_mergeSpans_54 (kX1_append hl H (by first | omega | assumption | (simp only [List.length_append, List.length_cons, List.length_nil, span_len, Nat.sub_zero] at *; omega))) sX1_append mw_169 mKX1 rfl ea_1 rfl (Nat.le_of_ble_eq_true rfl) ⟨⟨Nat.le_of_ble_eq_true rfl, Nat.le_of_ble_eq_true rfl⟩, Nat.le_of_ble_eq_true rfl, Nat.le_of_ble_eq_true rfl⟩ (fun v11 h12 n13 c14 => ?_) (fun _ _ _ hx => hx.elim)
          obtain ⟨c14a, c14b, c14c, c14d⟩ := c14
          rw [c14a, c14b]
          show mT _ _ _ _ 57 [.ref b, .int (nI s), .int (nI m), .int (nI e), .ref a, .int c, .int (nI lf), .int (nI rt)] [] _ _ _ _
          refine mp_iinc dX0_mergeSpans_57 rfl (v := nI (lf + 1)) mI_inc (ls' := [.ref b, .int (nI s), .int (nI m), .int (nI e), .ref a, .int c, .int (nI (lf + 1)), .int (nI rt)]) rfl (by decide) rfl ?_
          refine mt_goto dX0_mergeSpans_60 (tgt := 9) rfl ?_
          have H15 : rowAt h12 b room2 fl2 ys := (H2).fr (fun j j1 j2 => c14d j (by omega))
          exact ih (lf + 1) rt c h12 (xs ++ [(xk ys lf, xt ys lf)]) (by omega) c14c H15 (fun j hj => (c14d j (by omega)).trans (hfr j hj)) (ws_l (by omega) hmy (by omega) he q5 hxs) (wi_l (by omega) hmy (by omega) he q5 hc) (by rw [List.length_append]; simp only [List.length_cons, List.length_nil]; omega) (by omega) (by omega)
set_option maxRecDepth 100000 in
set_option maxHeartbeats 2000000 in
theorem kX0_mergeSpans {l : Launch} (hl : l.stackTraces = false) {h : mH} {n a b room room2 s m e : Nat} {fl fl2 : Int32} {xs ys : List mIt} (H : rowAt h a room fl xs) (H2 : rowAt h b room2 fl2 ys) (hab : b + 3 ≤ a ∨ a + 3 ≤ b) (hs : s ≤ m) (hme : m ≤ e) (he : e ≤ ys.length) (hro : xs.length + (e - s) ≤ room) : mC l mX0_mergeSpans rX0_mergeSpans [.ref b, .int (nI s), .int (nI m), .int (nI e), .ref a] h n (mRr (winv (span ys s m) (span ys m e)) a room fl (xs ++ List.merge (span ys s m) (span ys m e) wle) h n) (mNX) := by
  obtain ⟨f_1, g_1, ea_1, ek_1, es_1, ql_1, qr_1, qk_1, qt_1⟩ := id H
  obtain ⟨f_2, g_2, ea_2, ek_2, es_2, ql_2, qr_2, qk_2, qt_2⟩ := id H2
  have hmy : m ≤ ys.length := by omega
  have hro : xs.length + (m - s) + (e - m) ≤ room := by omega
  refine mm_enter hl (by decide +kernel) rfl rfl rfl (Nat.le_of_ble_eq_true rfl) ?_
  show mT _ _ _ _ 0 [.ref b, .int (nI s), .int (nI m), .int (nI e), .ref a, .double 0, .double 0, .double 0] [] _ _ 0 0
  refine mt_iconst dX0_mergeSpans_0 (v := nI 0) rfl ?_
  refine mp_istore dX0_mergeSpans_1 (ls' := [.ref b, .int (nI s), .int (nI m), .int (nI e), .ref a, .int (nI 0), .double 0, .double 0]) rfl (by decide) rfl ?_
  refine mt_iload_n dX0_mergeSpans_3 rfl ?_
  refine mp_istore dX0_mergeSpans_4 (ls' := [.ref b, .int (nI s), .int (nI m), .int (nI e), .ref a, .int (nI 0), .int (nI s), .double 0]) rfl (by decide) rfl ?_
  refine mt_iload_n dX0_mergeSpans_6 rfl ?_
  refine mp_istore dX0_mergeSpans_7 (ls' := [.ref b, .int (nI s), .int (nI m), .int (nI e), .ref a, .int (nI 0), .int (nI s), .int (nI m)]) rfl (by decide) rfl ?_
  refine tX0_mergeSpans_9 hl hab hmy he (fun lf_3 rt_4 c_5 h_6 xs_7 z8 z9 z10 z11 z12 z13 z14 z15 => ?_) ((m - s) + (e - m) + 1) s m (nI 0) h xs (Nat.lt_succ_self _) H H2 (fun _ _ => rfl) rfl rfl hro (by omega) (by omega)
  have sl9 := span_len (ys := ys) (i := lf_3) hmy
  refine mt_aload dX0_mergeSpans_97 rfl rfl ?_
  refine mt_aload_n dX0_mergeSpans_99 rfl rfl ?_
  refine mt_iload dX0_mergeSpans_100 rfl ?_
  refine mt_iload_n dX0_mergeSpans_102 rfl ?_
  obtain ⟨f_20, g_20, ea_20, ek_20, es_20, ql_20, qr_20, qk_20, qt_20⟩ := id z8
  refine mt_callV (N := mX1_appendSpan) (Rc := rX1_appendSpan) (As := [.ref b, .int (nI lf_3), .int (nI m)]) (st := []) dX0_mergeSpans_103 (kX1_appendSpan hl z8 z9 (by omega) (by omega) (by first | omega | assumption | (simp only [List.length_append, List.length_cons, List.length_nil, span_len, Nat.sub_zero] at *; omega)) (by omega)) sX1_appendSpan mw_173 mKX1 rfl ea_20 rfl (Nat.le_of_ble_eq_true rfl) ⟨⟨Nat.le_of_ble_eq_true rfl, Nat.le_of_ble_eq_true rfl⟩, Nat.le_of_ble_eq_true rfl, Nat.le_of_ble_eq_true rfl⟩ (fun v16 h17 n18 c19 => ?_) (fun _ _ _ hx => hx.elim)
  have sl20 := span_len (ys := ys) (i := lf_3) (e := m) (by omega)
  obtain ⟨c19a, c19b, c19c, c19d⟩ := c19
  rw [c19a, c19b]
  show mT _ _ _ _ 106 [.ref b, .int (nI s), .int (nI m), .int (nI e), .ref a, .int c_5, .int (nI lf_3), .int (nI rt_4)] [] _ _ _ _
  refine mt_aload dX0_mergeSpans_106 rfl rfl ?_
  refine mt_aload_n dX0_mergeSpans_108 rfl rfl ?_
  refine mt_iload dX0_mergeSpans_109 rfl ?_
  refine mt_iload_n dX0_mergeSpans_111 rfl ?_
  have H21 : rowAt h17 b room2 fl2 ys := (z9).fr (fun j j1 j2 => c19d j (by omega))
  obtain ⟨f_26, g_26, ea_26, ek_26, es_26, ql_26, qr_26, qk_26, qt_26⟩ := id c19c
  refine mt_callV (N := mX1_appendSpan) (Rc := rX1_appendSpan) (As := [.ref b, .int (nI rt_4), .int (nI e)]) (st := []) dX0_mergeSpans_112 (kX1_appendSpan hl c19c H21 (by omega) (by omega) (by first | omega | assumption | (simp only [List.length_append, List.length_cons, List.length_nil, span_len, Nat.sub_zero] at *; omega)) (by omega)) sX1_appendSpan mw_173 mKX1 rfl ea_26 rfl (Nat.le_of_ble_eq_true rfl) ⟨⟨Nat.le_of_ble_eq_true rfl, Nat.le_of_ble_eq_true rfl⟩, Nat.le_of_ble_eq_true rfl, Nat.le_of_ble_eq_true rfl⟩ (fun v22 h23 n24 c25 => ?_) (fun _ _ _ hx => hx.elim)
  have sl31 := span_len (ys := ys) (i := rt_4) (e := e) (by omega)
  obtain ⟨c25a, c25b, c25c, c25d⟩ := c25
  rw [c25a, c25b]
  show mT _ _ _ _ 115 [.ref b, .int (nI s), .int (nI m), .int (nI e), .ref a, .int c_5, .int (nI lf_3), .int (nI rt_4)] [] _ _ _ _
  refine mt_iload dX0_mergeSpans_115 rfl ?_
  refine mt_ireturn dX0_mergeSpans_117 rfl rfl (Nat.le_of_ble_eq_true rfl) (Nat.le_of_ble_eq_true rfl) ?_
  exact ⟨congrArg (fun x => some (Value.int x)) (z12.trans (Int32.zero_add _)), rfl, z11 ▸ c25c, fun j hj => ((c25d j (by omega)).trans (c19d j (by omega))).trans (z10 j hj)⟩
/-- one round: neighbours of a width, woven -/
def mpass (xs : List mIt) (wd : Nat) : Nat → Nat → List mIt × Int32 → List mIt × Int32
  | 0, _, p => p
  | d + 1, s, p => if s < xs.length then mpass xs wd d (s + 2 * wd) (p.1 ++ List.merge (span xs s (min (s + wd) xs.length)) (span xs (min (s + wd) xs.length) (min (s + 2 * wd) xs.length)) wle, p.2 + winv (span xs s (min (s + wd) xs.length)) (span xs (min (s + wd) xs.length) (min (s + 2 * wd) xs.length))) else p
theorem mpass_go {xs : List mIt} {wd s : Nat} {p r : List mIt × Int32} (h : s < xs.length) (hw : 0 < wd) (hr : ∃ d, xs.length ≤ s + d ∧ mpass xs wd d s p = r) : ∃ d, xs.length ≤ (s + 2 * wd) + d ∧ mpass xs wd d (s + 2 * wd) (p.1 ++ List.merge (span xs s (min (s + wd) xs.length)) (span xs (min (s + wd) xs.length) (min (s + 2 * wd) xs.length)) wle, p.2 + winv (span xs s (min (s + wd) xs.length)) (span xs (min (s + wd) xs.length) (min (s + 2 * wd) xs.length))) = r := by
  obtain ⟨d, h1, h2⟩ := hr
  match d, h1, h2 with
  | 0, h1, h2 => omega
  | d + 1, h1, h2 =>
    rw [mpass, if_pos h] at h2
    exact ⟨d, by omega, h2⟩
theorem mpass_end {xs : List mIt} {wd s : Nat} {p r : List mIt × Int32} (h : ¬ s < xs.length) (hr : ∃ d, xs.length ≤ s + d ∧ mpass xs wd d s p = r) : p = r := by
  obtain ⟨d, h1, h2⟩ := hr
  match d, h1, h2 with
  | 0, h1, h2 => exact h2
  | d + 1, h1, h2 =>
    rw [mpass, if_neg h] at h2
    exact h2
abbrev rX0_mergeNeighbours : Room := { frames := 3, cells := 0, slots := 0, locals := 73 }
theorem mpass_len {xs : List mIt} {wd : Nat} (hw : 0 < wd) : ∀ {d s : Nat} {p : List mIt × Int32}, xs.length ≤ s + d → p.1.length = min s xs.length → (mpass xs wd d s p).1.length = xs.length
  | 0, s, p, h, hp => by show p.1.length = _; omega
  | d + 1, s, p, h, hp => by
    rw [mpass]
    split
    · refine mpass_len hw (by omega) ?_
      simp only [List.length_append, List.length_merge]
      rw [span_len (Nat.min_le_right _ _), span_len (Nat.min_le_right _ _)]
      omega
    · omega
/-- one round over a whole row -/
def mround (xs : List mIt) (wd : Nat) : List mIt × Int32 := mpass xs wd xs.length 0 ([], nI 0)
theorem mround_len {xs : List mIt} {wd : Nat} (hw : 0 < wd) : (mround xs wd).1.length = xs.length := mpass_len hw (by omega) (by simp)
def msrt : Nat → Nat → List mIt × Int32 → List mIt × Int32
  | 0, _, p => p
  | d + 1, wd, p => if wd < p.1.length then msrt d (wd * 2) ((mround p.1 wd).1, p.2 + (mround p.1 wd).2) else p
theorem msrt_go {wd : Nat} {p r : List mIt × Int32} (h : wd < p.1.length) (hw : 0 < wd) (hr : ∃ d, p.1.length ≤ wd + d ∧ msrt d wd p = r) : ∃ d, (mround p.1 wd).1.length ≤ (wd * 2) + d ∧ msrt d (wd * 2) ((mround p.1 wd).1, p.2 + (mround p.1 wd).2) = r := by
  obtain ⟨d, h1, h2⟩ := hr
  rw [mround_len hw]
  match d, h1, h2 with
  | 0, h1, h2 => omega
  | d + 1, h1, h2 =>
    rw [msrt, if_pos h] at h2
    exact ⟨d, by omega, h2⟩
theorem msrt_end {wd : Nat} {p r : List mIt × Int32} (h : ¬ wd < p.1.length) (hr : ∃ d, p.1.length ≤ wd + d ∧ msrt d wd p = r) : p = r := by
  obtain ⟨d, h1, h2⟩ := hr
  match d, h1, h2 with
  | 0, h1, h2 => exact h2
  | d + 1, h1, h2 =>
    rw [msrt, if_neg h] at h2
    exact h2
theorem msrt_len : ∀ {d wd : Nat} {p : List mIt × Int32}, 0 < wd → (msrt d wd p).1.length = p.1.length
  | 0, _, _, _ => rfl
  | d + 1, wd, p, hw => by
    rw [msrt]
    split
    · rw [msrt_len (by omega)]; exact mround_len hw
    · rfl
/-- what sortUp makes of a row, and what it tells -/
def msort (ys : List mIt) : List mIt × Int32 := msrt ys.length 1 (ys, nI 0)
theorem msort_len {ys : List mIt} : (msort ys).1.length = ys.length := msrt_len (by omega)
set_option maxRecDepth 100000 in
set_option maxHeartbeats 2000000 in
theorem tX0_mergeNeighbours_12 {l : Launch} {K : mK} {n lo a p q0 q1 q2 room wd : Nat} {fl fls : Int32} {xs : List mIt} {r : List mIt × Int32} {h0 : mH} (hl : l.stackTraces = false) (hap : a + 3 ≤ p ∨ p + 3 ≤ a) (hlp : lo < p ∨ p + 3 ≤ lo) (hw : 0 < wd) (hw2 : wd ≤ 320) (kk0 : ∀ (s : Nat) (c : Int32) (h : mH) (zs : List mIt), (rowAt h p 320 fls zs) → (∀ j, (j < p ∨ p + 3 ≤ j) → h j = h0 j) → ((zs, c) = r) → mT l mX0_mergeNeighbours rX0_mergeNeighbours K 77 [.ref lo, .ref a, .int (nI wd), .int c, .int (nI s), .double 0, .double 0] [] h n 0 0) : ∀ (N0 : Nat) (s : Nat) (c : Int32) (h : mH) (zs : List mIt), (xs.length - s) < N0 → (h lo = .inr (.inr (2, [.ref q0, .ref q1, .ref q2, .ref p]))) → (rowAt h a room fl xs) → (rowAt h p 320 fls zs) → (∀ j, (j < p ∨ p + 3 ≤ j) → h j = h0 j) → (∃ d, xs.length ≤ s + d ∧ mpass xs wd d s (zs, c) = r) → (zs.length = min s xs.length) → (s ≤ xs.length + 640) → mT l mX0_mergeNeighbours rX0_mergeNeighbours K 12 [.ref lo, .ref a, .int (nI wd), .int c, .int (nI s), .double 0, .double 0] [] h n 0 0 := by
  intro N0
  induction N0 with
  | zero => intro s c h zs hm; exact absurd hm (Nat.not_lt_zero _)
  | succ N0 ih =>
    intro s c h zs hm HL H Hp hfr hr hz hs
    obtain ⟨f_1, g_1, ea_1, ek_1, es_1, ql_1, qr_1, qk_1, qt_1⟩ := id H
    refine mt_iload dX0_mergeNeighbours_12 rfl ?_
    refine mt_aload_n dX0_mergeNeighbours_14 rfl rfl ?_
    refine mt_getfield mKX1 (i := 3) (by decide) mw_75 dX0_mergeNeighbours_15 ea_1 rfl ?_
    refine mt_icmp_ge dX0_mergeNeighbours_18 (tgt := 77) rfl (fun q2 => ?_) (fun q2 => ?_)
    · have q2 := Int32.not_lt.mpr q2
      have q2 := (not_congr (nI_ltI (by omega) (by omega))).mp q2
      exact kk0 s c h zs Hp hfr (mpass_end (by omega) hr)
    · have q2 := Int32.not_le.mp q2
      have q2 := (nI_ltI (by omega) (by omega)).mp q2
      refine mt_iload dX0_mergeNeighbours_21 rfl ?_
      refine mt_iload_n dX0_mergeNeighbours_23 rfl ?_
      refine mp_iadd dX0_mergeNeighbours_24 (v := nI (s + wd)) (nI_add _ _) ?_
      refine mt_aload_n dX0_mergeNeighbours_25 rfl rfl ?_
      refine mt_getfield mKX1 (i := 3) (by decide) mw_75 dX0_mergeNeighbours_26 ea_1 rfl ?_
      refine mt_mmin dX0_mergeNeighbours_29 mw_165 mw_152 mw_41 (mw_min) (Nat.le_of_ble_eq_true rfl) ⟨Nat.le_of_ble_eq_true rfl, Nat.le_of_ble_eq_true rfl⟩ (Nat.le_of_ble_eq_true rfl) (Nat.le_of_ble_eq_true rfl) (v := nI (min (s + wd) xs.length)) (mI_min (by omega) (by omega)) ?_
      refine mp_istore dX0_mergeNeighbours_32 (ls' := [.ref lo, .ref a, .int (nI wd), .int c, .int (nI s), .int (nI (min (s + wd) xs.length)), .double 0]) rfl (by decide) rfl ?_
      refine mt_iload dX0_mergeNeighbours_34 rfl ?_
      refine mt_iconst dX0_mergeNeighbours_36 (v := nI 2) rfl ?_
      refine mt_iload_n dX0_mergeNeighbours_37 rfl ?_
      refine mp_imul dX0_mergeNeighbours_38 (v := nI (2 * wd)) (mI_mul _ _) ?_
      refine mp_iadd dX0_mergeNeighbours_39 (v := nI (s + (2 * wd))) (nI_add _ _) ?_
      refine mt_aload_n dX0_mergeNeighbours_40 rfl rfl ?_
      refine mt_getfield mKX1 (i := 3) (by decide) mw_75 dX0_mergeNeighbours_41 ea_1 rfl ?_
      refine mt_mmin dX0_mergeNeighbours_44 mw_165 mw_152 mw_41 (mw_min) (Nat.le_of_ble_eq_true rfl) ⟨Nat.le_of_ble_eq_true rfl, Nat.le_of_ble_eq_true rfl⟩ (Nat.le_of_ble_eq_true rfl) (Nat.le_of_ble_eq_true rfl) (v := nI (min (s + (2 * wd)) xs.length)) (mI_min (by omega) (by omega)) ?_
      refine mp_istore dX0_mergeNeighbours_47 (ls' := [.ref lo, .ref a, .int (nI wd), .int c, .int (nI s), .int (nI (min (s + wd) xs.length)), .int (nI (min (s + (2 * wd)) xs.length))]) rfl (by decide) rfl ?_
      refine mt_iload_n dX0_mergeNeighbours_49 rfl ?_
      refine mt_aload_n dX0_mergeNeighbours_50 rfl rfl ?_
      refine mt_iload dX0_mergeNeighbours_51 rfl ?_
      refine mt_iload dX0_mergeNeighbours_53 rfl ?_
      refine mt_iload dX0_mergeNeighbours_55 rfl ?_
      refine mt_aload_n dX0_mergeNeighbours_57 rfl rfl ?_
      refine mt_getfield mKX0 (i := 3) (by decide) mw_102 dX0_mergeNeighbours_58 HL rfl ?_
      refine mt_callS (N := mX0_mergeSpans) (Rc := rX0_mergeSpans) (As := [.ref a, .int (nI s), .int (nI (min (s + wd) xs.length)), .int (nI (min (s + (2 * wd)) xs.length)), .ref p]) (st := [.int c]) dX0_mergeNeighbours_61 (kX0_mergeSpans hl Hp H (by omega) (by omega) (by omega) (by omega) (by first | omega | assumption | (simp only [List.length_append, List.length_cons, List.length_nil, span_len, Nat.sub_zero] at *; omega))) sX0_mergeSpans mw_166 rfl (Nat.le_of_ble_eq_true rfl) ⟨⟨Nat.le_of_ble_eq_true rfl, Nat.le_of_ble_eq_true rfl⟩, Nat.le_of_ble_eq_true rfl, Nat.le_of_ble_eq_true rfl⟩ (fun v3 h4 n5 c6 => ?_) (fun _ _ _ hx => hx.elim)
      obtain ⟨c6a, c6b, c6c, c6d⟩ := c6
      rw [c6a, c6b]
      show mT _ _ _ _ 64 [.ref lo, .ref a, .int (nI wd), .int c, .int (nI s), .int (nI (min (s + wd) xs.length)), .int (nI (min (s + (2 * wd)) xs.length))] [.int (winv (span xs s (min (s + wd) xs.length)) (span xs (min (s + wd) xs.length) (min (s + (2 * wd)) xs.length))), .int c] _ _ _ _
      refine mp_iadd dX0_mergeNeighbours_64 (v := c + (winv (span xs s (min (s + wd) xs.length)) (span xs (min (s + wd) xs.length) (min (s + (2 * wd)) xs.length)))) rfl ?_
      refine mp_istore_n dX0_mergeNeighbours_65 (ls' := [.ref lo, .ref a, .int (nI wd), .int (c + (winv (span xs s (min (s + wd) xs.length)) (span xs (min (s + wd) xs.length) (min (s + (2 * wd)) xs.length)))), .int (nI s), .int (nI (min (s + wd) xs.length)), .int (nI (min (s + (2 * wd)) xs.length))]) rfl (by decide) rfl ?_
      refine mt_iload dX0_mergeNeighbours_66 rfl ?_
      refine mt_iconst dX0_mergeNeighbours_68 (v := nI 2) rfl ?_
      refine mt_iload_n dX0_mergeNeighbours_69 rfl ?_
      refine mp_imul dX0_mergeNeighbours_70 (v := nI (2 * wd)) (mI_mul _ _) ?_
      refine mp_iadd dX0_mergeNeighbours_71 (v := nI (s + (2 * wd))) (nI_add _ _) ?_
      refine mp_istore dX0_mergeNeighbours_72 (ls' := [.ref lo, .ref a, .int (nI wd), .int (c + (winv (span xs s (min (s + wd) xs.length)) (span xs (min (s + wd) xs.length) (min (s + (2 * wd)) xs.length)))), .int (nI (s + (2 * wd))), .int (nI (min (s + wd) xs.length)), .int (nI (min (s + (2 * wd)) xs.length))]) rfl (by decide) rfl ?_
      refine mt_goto dX0_mergeNeighbours_74 (tgt := 12) rfl ?_
      refine mt_drop 5 (ls' := [.ref lo, .ref a, .int (nI wd), .int (c + (winv (span xs s (min (s + wd) xs.length)) (span xs (min (s + wd) xs.length) (min (s + (2 * wd)) xs.length)))), .int (nI (s + (2 * wd))), .double 0, .int (nI (min (s + (2 * wd)) xs.length))]) rfl ?_
      refine mt_drop 6 (ls' := [.ref lo, .ref a, .int (nI wd), .int (c + (winv (span xs s (min (s + wd) xs.length)) (span xs (min (s + wd) xs.length) (min (s + (2 * wd)) xs.length)))), .int (nI (s + (2 * wd))), .double 0, .double 0]) rfl ?_
      have H7 : rowAt h4 a room fl xs := (H).fr (fun j j1 j2 => c6d j (by omega))
      exact ih (s + (2 * wd)) (c + (winv (span xs s (min (s + wd) xs.length)) (span xs (min (s + wd) xs.length) (min (s + (2 * wd)) xs.length)))) h4 (zs ++ List.merge (span xs s (min (s + wd) xs.length)) (span xs (min (s + wd) xs.length) (min (s + (2 * wd)) xs.length)) wle) (by omega) ((c6d (lo) (by omega)).trans HL) H7 c6c (fun j hj => (c6d j (by omega)).trans (hfr j hj)) (mpass_go (by omega) hw hr) (by simp only [List.length_append, List.length_merge]; rw [span_len (Nat.min_le_right _ _), span_len (Nat.min_le_right _ _)]; omega) (by omega)
set_option maxRecDepth 100000 in
set_option maxHeartbeats 2000000 in
theorem kX0_mergeNeighbours {l : Launch} (hl : l.stackTraces = false) {h : mH} {n lo a p q0 q1 q2 room wd : Nat} {fl fls : Int32} {xs zs : List mIt} (HL : h lo = .inr (.inr (2, [.ref q0, .ref q1, .ref q2, .ref p]))) (H : rowAt h a room fl xs) (Hp : rowAt h p 320 fls zs) (hap : a + 3 ≤ p ∨ p + 3 ≤ a) (hlp : lo < p ∨ p + 3 ≤ lo) (hw : 0 < wd) (hw2 : wd ≤ 320) : mC l mX0_mergeNeighbours rX0_mergeNeighbours [.ref lo, .ref a, .int (nI wd)] h n (mRr (mround xs wd).2 p 320 fls (mround xs wd).1 h n) (mNX) := by
  obtain ⟨f_1, g_1, ea_1, ek_1, es_1, ql_1, qr_1, qk_1, qt_1⟩ := id H
  refine mm_enter hl (by decide +kernel) rfl rfl rfl (Nat.le_of_ble_eq_true rfl) ?_
  show mT _ _ _ _ 0 [.ref lo, .ref a, .int (nI wd), .double 0, .double 0, .double 0, .double 0] [] _ _ 0 0
  refine mt_iconst dX0_mergeNeighbours_0 (v := nI 0) rfl ?_
  refine mp_istore_n dX0_mergeNeighbours_1 (ls' := [.ref lo, .ref a, .int (nI wd), .int (nI 0), .double 0, .double 0, .double 0]) rfl (by decide) rfl ?_
  refine mt_aload_n dX0_mergeNeighbours_2 rfl rfl ?_
  refine mt_getfield mKX0 (i := 3) (by decide) mw_102 dX0_mergeNeighbours_3 HL rfl ?_
  obtain ⟨f_6, g_6, ea_6, ek_6, es_6, ql_6, qr_6, qk_6, qt_6⟩ := id Hp
  refine mt_callV (N := mX1_empty) (Rc := rX1_empty) (As := []) (st := []) dX0_mergeNeighbours_6 (kX1_empty hl Hp) sX1_empty mw_161 mKX1 rfl ea_6 rfl (Nat.le_of_ble_eq_true rfl) ⟨⟨Nat.le_of_ble_eq_true rfl, Nat.le_of_ble_eq_true rfl⟩, Nat.le_of_ble_eq_true rfl, Nat.le_of_ble_eq_true rfl⟩ (fun v2 h3 n4 c5 => ?_) (fun _ _ _ hx => hx.elim)
  obtain ⟨c5a, c5b, c5c, c5d⟩ := c5
  rw [c5a, c5b]
  show mT _ _ _ _ 9 [.ref lo, .ref a, .int (nI wd), .int (nI 0), .double 0, .double 0, .double 0] [] _ _ _ _
  refine mt_iconst dX0_mergeNeighbours_9 (v := nI 0) rfl ?_
  refine mp_istore dX0_mergeNeighbours_10 (ls' := [.ref lo, .ref a, .int (nI wd), .int (nI 0), .int (nI 0), .double 0, .double 0]) rfl (by decide) rfl ?_
  have H7 : rowAt h3 a room fl xs := (H).fr (fun j j1 j2 => c5d j (by omega))
  refine tX0_mergeNeighbours_12 hl hap hlp hw hw2 (fun s_8 c_9 h_10 zs_11 z12 z13 z14 => ?_) (xs.length - 0 + 1) 0 (nI 0) h3 ([]) (Nat.lt_succ_self _) ((c5d (lo) (by omega)).trans HL) H7 c5c (fun j hj => c5d j (by omega)) (⟨xs.length, by omega, rfl⟩) rfl (by omega)
  refine mt_iload_n dX0_mergeNeighbours_77 rfl ?_
  refine mt_ireturn dX0_mergeNeighbours_78 rfl rfl (Nat.le_of_ble_eq_true rfl) (Nat.le_of_ble_eq_true rfl) ?_
  exact ⟨congrArg (fun x => some (Value.int x.2)) z14, rfl, (congrArg Prod.fst z14) ▸ z12, z13⟩
abbrev rX0_sortUp : Room := { frames := 4, cells := 0, slots := 0, locals := 99 }
set_option maxRecDepth 100000 in
set_option maxHeartbeats 2000000 in
theorem tX0_sortUp_10 {l : Launch} {K : mK} {n lo a b p q0 q1 q2 : Nat} {fl fls : Int32} {r : List mIt × Int32} {h0 : mH} {L0 : Nat} (hl : l.stackTraces = false) (hap : a + 3 ≤ p ∨ p + 3 ≤ a) (hlp : lo < p ∨ p + 3 ≤ lo) (hla : lo < a ∨ a + 3 ≤ lo) (hL : L0 ≤ 320) (kk0 : ∀ (wd : Nat) (c : Int32) (h : mH) (xs : List mIt) (zs : List mIt), (rowAt h a 320 fl xs) → (rowAt h p 320 fls zs) → (∀ j, (j < a ∨ a + 3 ≤ j) → (j < p ∨ p + 3 ≤ j) → h j = h0 j) → ((xs, c) = r) → mT l mX0_sortUp rX0_sortUp K 46 [.ref lo, .ref b, .ref a, .int c, .int (nI wd)] [] h n 0 0) : ∀ (N0 : Nat) (wd : Nat) (c : Int32) (h : mH) (xs : List mIt) (zs : List mIt), (L0 - wd) < N0 → (h lo = .inr (.inr (2, [.ref q0, .ref q1, .ref q2, .ref p]))) → (rowAt h a 320 fl xs) → (rowAt h p 320 fls zs) → (∀ j, (j < a ∨ a + 3 ≤ j) → (j < p ∨ p + 3 ≤ j) → h j = h0 j) → (∃ d, xs.length ≤ wd + d ∧ msrt d wd (xs, c) = r) → (xs.length = L0) → (0 < wd) → (wd ≤ 640) → mT l mX0_sortUp rX0_sortUp K 10 [.ref lo, .ref b, .ref a, .int c, .int (nI wd)] [] h n 0 0 := by
  intro N0
  induction N0 with
  | zero => intro wd c h xs zs hm; exact absurd hm (Nat.not_lt_zero _)
  | succ N0 ih =>
    intro wd c h xs zs hm HL H Hp hfr hr hz hw hw2
    obtain ⟨f_1, g_1, ea_1, ek_1, es_1, ql_1, qr_1, qk_1, qt_1⟩ := id H
    refine mt_iload dX0_sortUp_10 rfl ?_
    refine mt_aload_n dX0_sortUp_12 rfl rfl ?_
    refine mt_getfield mKX1 (i := 3) (by decide) mw_75 dX0_sortUp_13 ea_1 rfl ?_
    refine mt_icmp_ge dX0_sortUp_16 (tgt := 46) rfl (fun q2 => ?_) (fun q2 => ?_)
    · have q2 := Int32.not_lt.mpr q2
      have q2 := (not_congr (nI_ltI (by omega) (by omega))).mp q2
      exact kk0 wd c h xs zs H Hp hfr (msrt_end (p := (xs, c)) (by assumption) hr)
    · have q2 := Int32.not_le.mp q2
      have q2 := (nI_ltI (by omega) (by omega)).mp q2
      refine mt_iload_n dX0_sortUp_19 rfl ?_
      refine mt_aload_n dX0_sortUp_20 rfl rfl ?_
      refine mt_aload_n dX0_sortUp_21 rfl rfl ?_
      refine mt_iload dX0_sortUp_22 rfl ?_
      refine mt_callV (N := mX0_mergeNeighbours) (Rc := rX0_mergeNeighbours) (As := [.ref a, .int (nI wd)]) (st := [.int c]) dX0_sortUp_24 (kX0_mergeNeighbours hl HL H Hp (by omega) (by omega) (by omega) (by omega)) sX0_mergeNeighbours mw_157 mKX0 rfl HL rfl (Nat.le_of_ble_eq_true rfl) ⟨⟨Nat.le_of_ble_eq_true rfl, Nat.le_of_ble_eq_true rfl⟩, Nat.le_of_ble_eq_true rfl, Nat.le_of_ble_eq_true rfl⟩ (fun v3 h4 n5 c6 => ?_) (fun _ _ _ hx => hx.elim)
      obtain ⟨c6a, c6b, c6c, c6d⟩ := c6
      rw [c6a, c6b]
      show mT _ _ _ _ 27 [.ref lo, .ref b, .ref a, .int c, .int (nI wd)] [.int ((mround xs wd).2), .int c] _ _ _ _
      refine mp_iadd dX0_sortUp_27 (v := c + ((mround xs wd).2)) rfl ?_
      refine mp_istore_n dX0_sortUp_28 (ls' := [.ref lo, .ref b, .ref a, .int (c + ((mround xs wd).2)), .int (nI wd)]) rfl (by decide) rfl ?_
      refine mt_aload_n dX0_sortUp_29 rfl rfl ?_
      refine mt_aload_n dX0_sortUp_30 rfl rfl ?_
      refine mt_getfield mKX0 (i := 3) (by decide) mw_102 dX0_sortUp_31 ((c6d (lo) (by omega)).trans HL) rfl ?_
      have ml := @mround_len xs wd hw
      have H7 : rowAt h4 a 320 fl xs := (H).fr (fun j j1 j2 => c6d j (by omega))
      refine mt_callV (N := mX1_become) (Rc := rX1_become) (As := [.ref p]) (st := []) dX0_sortUp_34 (kX1_become hl H7 c6c (by omega) (by first | omega | assumption | (simp only [List.length_append, List.length_cons, List.length_nil, span_len, Nat.sub_zero] at *; omega))) sX1_become mw_147 mKX1 rfl ((c6d (a) (by omega)).trans ea_1) rfl (Nat.le_of_ble_eq_true rfl) ⟨⟨Nat.le_of_ble_eq_true rfl, Nat.le_of_ble_eq_true rfl⟩, Nat.le_of_ble_eq_true rfl, Nat.le_of_ble_eq_true rfl⟩ (fun v8 h9 n10 c11 => ?_) (fun _ _ _ hx => hx.elim)
      obtain ⟨c11a, c11b, c11c, c11d⟩ := c11
      rw [c11a, c11b]
      show mT _ _ _ _ 37 [.ref lo, .ref b, .ref a, .int (c + ((mround xs wd).2)), .int (nI wd)] [] _ _ _ _
      refine mt_iload dX0_sortUp_37 rfl ?_
      refine mt_iconst dX0_sortUp_39 (v := nI 2) rfl ?_
      refine mp_imul dX0_sortUp_40 (v := nI (wd * 2)) (mI_mul _ _) ?_
      refine mp_istore dX0_sortUp_41 (ls' := [.ref lo, .ref b, .ref a, .int (c + ((mround xs wd).2)), .int (nI (wd * 2))]) rfl (by decide) rfl ?_
      refine mt_goto dX0_sortUp_43 (tgt := 10) rfl ?_
      have H12 : rowAt h9 p 320 fls ((mround xs wd).1) := (c6c).fr (fun j j1 j2 => c11d j (by omega))
      exact ih (wd * 2) (c + ((mround xs wd).2)) h9 ((mround xs wd).1) ((mround xs wd).1) (by omega) ((c11d (lo) (by omega)).trans ((c6d (lo) (by omega)).trans HL)) c11c H12 (fun j hj hj2 => ((c11d j (by omega)).trans (c6d j (by omega))).trans (hfr j hj hj2)) (msrt_go (p := (xs, c)) (by assumption) hw hr) ((mround_len hw).trans hz) (by omega) (by omega)
/-- an int is answered; the row at a holds ys, the row at p has changed, all else is as it was -/
def mRs (r : Int32) (a : Nat) (fl : Int32) (ys : List mIt) (p : Nat) (fls : Int32) (h : mH) (n : Nat) : Option Value → mH → Nat → Prop := fun v h' n' => v = some (.int r) ∧ n' = n ∧ rowAt h' a 320 fl ys ∧ (∃ zs, rowAt h' p 320 fls zs) ∧ ∀ j, (j < a ∨ a + 3 ≤ j) → (j < p ∨ p + 3 ≤ j) → h' j = h j
set_option maxRecDepth 100000 in
set_option maxHeartbeats 2000000 in
theorem kX0_sortUp {l : Launch} (hl : l.stackTraces = false) {h : mH} {n lo a b p q0 q1 q2 room2 : Nat} {fl fls fl2 : Int32} {xs ys zs : List mIt} (HL : h lo = .inr (.inr (2, [.ref q0, .ref q1, .ref q2, .ref p]))) (H : rowAt h a 320 fl xs) (H2 : rowAt h b room2 fl2 ys) (Hp : rowAt h p 320 fls zs) (hap : a + 3 ≤ p ∨ p + 3 ≤ a) (hlp : lo < p ∨ p + 3 ≤ lo) (hla : lo < a ∨ a + 3 ≤ lo) (hab : b + 3 ≤ a ∨ a + 3 ≤ b) : mC l mX0_sortUp rX0_sortUp [.ref lo, .ref b, .ref a] h n (mRs (msort ys).2 a fl (msort ys).1 p fls h n) (mNX) := by
  obtain ⟨f_1, g_1, ea_1, ek_1, es_1, ql_1, qr_1, qk_1, qt_1⟩ := id H
  obtain ⟨f_2, g_2, ea_2, ek_2, es_2, ql_2, qr_2, qk_2, qt_2⟩ := id H2
  obtain ⟨L0, hL0⟩ : ∃ L0, L0 = ys.length := ⟨_, rfl⟩
  have hL : L0 ≤ 320 := by omega
  refine mm_enter hl (by decide +kernel) rfl rfl rfl (Nat.le_of_ble_eq_true rfl) ?_
  show mT _ _ _ _ 0 [.ref lo, .ref b, .ref a, .double 0, .double 0] [] _ _ 0 0
  refine mt_aload_n dX0_sortUp_0 rfl rfl ?_
  refine mt_aload_n dX0_sortUp_1 rfl rfl ?_
  refine mt_callV (N := mX1_become) (Rc := rX1_become) (As := [.ref b]) (st := []) dX0_sortUp_2 (kX1_become hl H H2 (by omega) (by first | omega | assumption | (simp only [List.length_append, List.length_cons, List.length_nil, span_len, Nat.sub_zero] at *; omega))) sX1_become mw_147 mKX1 rfl ea_1 rfl (Nat.le_of_ble_eq_true rfl) ⟨⟨Nat.le_of_ble_eq_true rfl, Nat.le_of_ble_eq_true rfl⟩, Nat.le_of_ble_eq_true rfl, Nat.le_of_ble_eq_true rfl⟩ (fun v3 h4 n5 c6 => ?_) (fun _ _ _ hx => hx.elim)
  obtain ⟨c6a, c6b, c6c, c6d⟩ := c6
  rw [c6a, c6b]
  show mT _ _ _ _ 5 [.ref lo, .ref b, .ref a, .double 0, .double 0] [] _ _ _ _
  refine mt_iconst dX0_sortUp_5 (v := nI 0) rfl ?_
  refine mp_istore_n dX0_sortUp_6 (ls' := [.ref lo, .ref b, .ref a, .int (nI 0), .double 0]) rfl (by decide) rfl ?_
  refine mt_iconst dX0_sortUp_7 (v := nI 1) rfl ?_
  refine mp_istore dX0_sortUp_8 (ls' := [.ref lo, .ref b, .ref a, .int (nI 0), .int (nI 1)]) rfl (by decide) rfl ?_
  have H7 : rowAt h4 p 320 fls zs := (Hp).fr (fun j j1 j2 => c6d j (by omega))
  refine tX0_sortUp_10 hl hap hlp hla hL (fun wd_8 c_9 h_10 xs_11 zs_12 z13 z14 z15 z16 => ?_) (L0 - 1 + 1) 1 (nI 0) h4 ys zs (Nat.lt_succ_self _) ((c6d (lo) (by omega)).trans HL) c6c H7 (fun j hj hj2 => c6d j (by omega)) (⟨ys.length, by omega, rfl⟩) hL0.symm (by decide) (by decide)
  refine mt_iload_n dX0_sortUp_46 rfl ?_
  refine mt_ireturn dX0_sortUp_47 rfl rfl (Nat.le_of_ble_eq_true rfl) (Nat.le_of_ble_eq_true rfl) ?_
  exact ⟨congrArg (fun x => some (Value.int x.2)) z16, rfl, (congrArg Prod.fst z16) ▸ z13, ⟨_, z14⟩, z15⟩
abbrev rX0_weaveJoined : Room := { frames := 3, cells := 0, slots := 0, locals := 73 }
set_option maxRecDepth 100000 in
set_option maxHeartbeats 2000000 in
theorem kX0_weaveJoined {l : Launch} (hl : l.stackTraces = false) {h : mH} {n lo p q0 q1 q2 m : Nat} {fl1 fl2 : Int32} {xs ys : List mIt} (HL : h lo = .inr (.inr (2, [.ref q0, .ref q1, .ref q2, .ref p]))) (H1 : rowAt h q1 320 fl1 xs) (H2 : rowAt h q2 320 fl2 ys) (h12 : q1 + 3 ≤ q2 ∨ q2 + 3 ≤ q1) (hl2 : lo < q2 ∨ q2 + 3 ≤ lo) (hmx : m ≤ xs.length) : mC l mX0_weaveJoined rX0_weaveJoined [.ref lo, .int (nI m)] h n (mRw q2 320 fl2 (List.merge (span xs 0 m) (span xs m xs.length) wle) h n) (mNX) := by
  obtain ⟨f_1, g_1, ea_1, ek_1, es_1, ql_1, qr_1, qk_1, qt_1⟩ := id H1
  refine mm_enter hl (by decide +kernel) rfl rfl rfl (Nat.le_of_ble_eq_true rfl) ?_
  show mT _ _ _ _ 0 [.ref lo, .int (nI m)] [] _ _ 0 0
  refine mt_aload_n dX0_weaveJoined_0 rfl rfl ?_
  refine mt_getfield mKX0 (i := 2) (by decide) mw_100 dX0_weaveJoined_1 HL rfl ?_
  obtain ⟨f_6, g_6, ea_6, ek_6, es_6, ql_6, qr_6, qk_6, qt_6⟩ := id H2
  refine mt_callV (N := mX1_empty) (Rc := rX1_empty) (As := []) (st := []) dX0_weaveJoined_4 (kX1_empty hl H2) sX1_empty mw_161 mKX1 rfl ea_6 rfl (Nat.le_of_ble_eq_true rfl) ⟨⟨Nat.le_of_ble_eq_true rfl, Nat.le_of_ble_eq_true rfl⟩, Nat.le_of_ble_eq_true rfl, Nat.le_of_ble_eq_true rfl⟩ (fun v2 h3 n4 c5 => ?_) (fun _ _ _ hx => hx.elim)
  obtain ⟨c5a, c5b, c5c, c5d⟩ := c5
  rw [c5a, c5b]
  show mT _ _ _ _ 7 [.ref lo, .int (nI m)] [] _ _ _ _
  refine mt_aload_n dX0_weaveJoined_7 rfl rfl ?_
  refine mt_getfield mKX0 (i := 1) (by decide) mw_98 dX0_weaveJoined_8 ((c5d (lo) (by omega)).trans HL) rfl ?_
  refine mt_iconst dX0_weaveJoined_11 (v := nI 0) rfl ?_
  refine mt_iload_n dX0_weaveJoined_12 rfl ?_
  refine mt_aload_n dX0_weaveJoined_13 rfl rfl ?_
  refine mt_getfield mKX0 (i := 1) (by decide) mw_98 dX0_weaveJoined_14 ((c5d (lo) (by omega)).trans HL) rfl ?_
  refine mt_getfield mKX1 (i := 3) (by decide) mw_75 dX0_weaveJoined_17 ((c5d (q1) (by omega)).trans ea_1) rfl ?_
  refine mt_aload_n dX0_weaveJoined_20 rfl rfl ?_
  refine mt_getfield mKX0 (i := 2) (by decide) mw_100 dX0_weaveJoined_21 ((c5d (lo) (by omega)).trans HL) rfl ?_
  have H7 : rowAt h3 q1 320 fl1 xs := (H1).fr (fun j j1 j2 => c5d j (by omega))
  refine mt_callS (N := mX0_mergeSpans) (Rc := rX0_mergeSpans) (As := [.ref q1, .int (nI 0), .int (nI m), .int (nI xs.length), .ref q2]) (st := []) dX0_weaveJoined_24 (kX0_mergeSpans hl c5c H7 (by omega) (by omega) (by omega) (by omega) (by first | omega | assumption | (simp only [List.length_append, List.length_cons, List.length_nil, span_len, Nat.sub_zero] at *; omega))) sX0_mergeSpans mw_166 rfl (Nat.le_of_ble_eq_true rfl) ⟨⟨Nat.le_of_ble_eq_true rfl, Nat.le_of_ble_eq_true rfl⟩, Nat.le_of_ble_eq_true rfl, Nat.le_of_ble_eq_true rfl⟩ (fun v8 h9 n10 c11 => ?_) (fun _ _ _ hx => hx.elim)
  obtain ⟨c11a, c11b, c11c, c11d⟩ := c11
  rw [c11a, c11b]
  show mT _ _ _ _ 27 [.ref lo, .int (nI m)] [.int (winv (span xs 0 m) (span xs m xs.length))] _ _ _ _
  refine mt_pop dX0_weaveJoined_27 rfl ?_
  refine mt_return dX0_weaveJoined_28 rfl (Nat.le_of_ble_eq_true rfl) (Nat.le_of_ble_eq_true rfl) ?_
  exact ⟨rfl, rfl, c11c, fun j hj => (c11d j (by omega)).trans (c5d j (by omega))⟩
abbrev rX0_init : Room := { frames := 2, cells := 4 * 3, slots := 4 * 644, locals := 42 }
set_option maxRecDepth 100000 in
set_option maxHeartbeats 2000000 in
theorem kX0_init {l : Launch} (hl : l.stackTraces = false) {h : mH} {lo : Nat} (H : h lo = .inr (.inr (2, [.null, .null, .null, .null]))) : mC l mX0_init rX0_init [.ref lo, .int (nI 320)] h (lo + 1) (fun v h' n' => v = none ∧ n' = lo + 13 ∧ h' lo = .inr (.inr (2, [.ref (lo + 1), .ref (lo + 4), .ref (lo + 7), .ref (lo + 10)])) ∧ rowAt h' (lo + 1) 320 (nI 1) [] ∧ rowAt h' (lo + 4) 320 (nI 1) [] ∧ rowAt h' (lo + 7) 320 (nI 1) [] ∧ rowAt h' (lo + 10) 320 (nI 1) [] ∧ ∀ j, j < lo → h' j = h j) (mNX) := by
  refine mm_enter hl (by decide +kernel) rfl rfl rfl (Nat.le_of_ble_eq_true rfl) ?_
  show mT _ _ _ _ 0 [.ref lo, .int (nI 320)] [] _ _ 0 0
  refine mt_aload_n dX0_init_0 rfl rfl ?_
  refine mt_objInit dX0_init_1 mw_93 mw_58 mw_59 (Nat.le_of_ble_eq_true rfl) ⟨Nat.le_of_ble_eq_true rfl, Nat.le_of_ble_eq_true rfl⟩ ?_
  refine mt_aload_n dX0_init_4 rfl rfl ?_
  refine mp_new mKX1 dX0_init_5 mw_94 mw_62 mw_32 (fs := [.null, .null, .int (nI 0), .int (nI 0)]) mDX1 (mdf_ok rfl) (Nat.le_of_ble_eq_true rfl) (Nat.le_of_ble_eq_true rfl) (fun h1 e2 f3 => ?_)
  refine mt_dup dX0_init_8 rfl ?_
  refine mt_iload_n dX0_init_9 rfl ?_
  refine mt_iconst dX0_init_10 (v := nI 1) rfl ?_
  refine mt_callI (N := mX1_init) (Rc := rX1_init) (As := [.int (nI 320), .int (nI 1)]) (st := [.ref (lo + 1), .ref lo]) dX0_init_11 (kX1_init hl e2 (by decide) rfl) sX1_init mw_95 rfl (Nat.le_of_ble_eq_true rfl) ⟨⟨Nat.le_of_ble_eq_true rfl, Nat.le_of_ble_eq_true rfl⟩, Nat.le_of_ble_eq_true rfl, Nat.le_of_ble_eq_true rfl⟩ (fun v4 h5 n6 c7 => ?_)
  obtain ⟨c7a, c7b, c7c, c7d⟩ := c7
  rw [c7a, c7b]
  show mT _ _ _ _ 14 [.ref lo, .int (nI 320)] [.ref (lo + 1), .ref lo] _ _ _ _
  refine mp_putfinal mKX0 (i := 0) (fs' := [.ref (lo + 1), .null, .null, .null]) (by decide) mw_96 rfl rfl rfl dX0_init_14 ((c7d (lo) (by omega)).trans ((f3 (lo) (by omega)).trans H)) (Nat.le_of_ble_eq_true rfl) rfl rfl (fun h8 e9 f10 => ?_)
  refine mt_aload_n dX0_init_17 rfl rfl ?_
  refine mp_new mKX1 dX0_init_18 mw_94 mw_62 mw_32 (fs := [.null, .null, .int (nI 0), .int (nI 0)]) mDX1 (mdf_ok rfl) (by simp only [rX0_init]; omega) (by simp only [rX0_init]; omega) (fun h11 e12 f13 => ?_)
  refine mt_dup dX0_init_21 rfl ?_
  refine mt_iload_n dX0_init_22 rfl ?_
  refine mt_iconst dX0_init_23 (v := nI 1) rfl ?_
  refine mt_callI (N := mX1_init) (Rc := rX1_init) (As := [.int (nI 320), .int (nI 1)]) (st := [.ref (lo + 4), .ref lo]) dX0_init_24 (kX1_init hl e12 (by decide) rfl) sX1_init mw_95 rfl (Nat.le_of_ble_eq_true rfl) ⟨⟨Nat.le_of_ble_eq_true rfl, Nat.le_of_ble_eq_true rfl⟩, Nat.le_of_ble_eq_true rfl, Nat.le_of_ble_eq_true rfl⟩ (fun v14 h15 n16 c17 => ?_)
  obtain ⟨c17a, c17b, c17c, c17d⟩ := c17
  rw [c17a, c17b]
  show mT _ _ _ _ 27 [.ref lo, .int (nI 320)] [.ref (lo + 4), .ref lo] _ _ _ _
  refine mp_putfinal mKX0 (i := 1) (fs' := [.ref (lo + 1), .ref (lo + 4), .null, .null]) (by decide) mw_98 rfl rfl rfl dX0_init_27 ((c17d (lo) (by omega)).trans ((f13 (lo) (by omega)).trans e9)) (Nat.le_of_ble_eq_true rfl) rfl rfl (fun h18 e19 f20 => ?_)
  refine mt_aload_n dX0_init_30 rfl rfl ?_
  refine mp_new mKX1 dX0_init_31 mw_94 mw_62 mw_32 (fs := [.null, .null, .int (nI 0), .int (nI 0)]) mDX1 (mdf_ok rfl) (by simp only [rX0_init]; omega) (by simp only [rX0_init]; omega) (fun h21 e22 f23 => ?_)
  refine mt_dup dX0_init_34 rfl ?_
  refine mt_iload_n dX0_init_35 rfl ?_
  refine mt_iconst dX0_init_36 (v := nI 1) rfl ?_
  refine mt_callI (N := mX1_init) (Rc := rX1_init) (As := [.int (nI 320), .int (nI 1)]) (st := [.ref (lo + 7), .ref lo]) dX0_init_37 (kX1_init hl e22 (by decide) rfl) sX1_init mw_95 rfl (Nat.le_of_ble_eq_true rfl) ⟨⟨Nat.le_of_ble_eq_true rfl, Nat.le_of_ble_eq_true rfl⟩, Nat.le_of_ble_eq_true rfl, Nat.le_of_ble_eq_true rfl⟩ (fun v24 h25 n26 c27 => ?_)
  obtain ⟨c27a, c27b, c27c, c27d⟩ := c27
  rw [c27a, c27b]
  show mT _ _ _ _ 40 [.ref lo, .int (nI 320)] [.ref (lo + 7), .ref lo] _ _ _ _
  refine mp_putfinal mKX0 (i := 2) (fs' := [.ref (lo + 1), .ref (lo + 4), .ref (lo + 7), .null]) (by decide) mw_100 rfl rfl rfl dX0_init_40 ((c27d (lo) (by omega)).trans ((f23 (lo) (by omega)).trans e19)) (Nat.le_of_ble_eq_true rfl) rfl rfl (fun h28 e29 f30 => ?_)
  refine mt_aload_n dX0_init_43 rfl rfl ?_
  refine mp_new mKX1 dX0_init_44 mw_94 mw_62 mw_32 (fs := [.null, .null, .int (nI 0), .int (nI 0)]) mDX1 (mdf_ok rfl) (by simp only [rX0_init]; omega) (by simp only [rX0_init]; omega) (fun h31 e32 f33 => ?_)
  refine mt_dup dX0_init_47 rfl ?_
  refine mt_iload_n dX0_init_48 rfl ?_
  refine mt_iconst dX0_init_49 (v := nI 1) rfl ?_
  refine mt_callI (N := mX1_init) (Rc := rX1_init) (As := [.int (nI 320), .int (nI 1)]) (st := [.ref (lo + 10), .ref lo]) dX0_init_50 (kX1_init hl e32 (by decide) rfl) sX1_init mw_95 rfl (Nat.le_of_ble_eq_true rfl) ⟨⟨Nat.le_of_ble_eq_true rfl, Nat.le_of_ble_eq_true rfl⟩, Nat.le_of_ble_eq_true rfl, Nat.le_of_ble_eq_true rfl⟩ (fun v34 h35 n36 c37 => ?_)
  obtain ⟨c37a, c37b, c37c, c37d⟩ := c37
  rw [c37a, c37b]
  show mT _ _ _ _ 53 [.ref lo, .int (nI 320)] [.ref (lo + 10), .ref lo] _ _ _ _
  refine mp_putfinal mKX0 (i := 3) (fs' := [.ref (lo + 1), .ref (lo + 4), .ref (lo + 7), .ref (lo + 10)]) (by decide) mw_102 rfl rfl rfl dX0_init_53 ((c37d (lo) (by omega)).trans ((f33 (lo) (by omega)).trans e29)) (Nat.le_of_ble_eq_true rfl) rfl rfl (fun h38 e39 f40 => ?_)
  refine mt_return dX0_init_56 rfl (by simp only [rX0_init]; omega) (by simp only [rX0_init]; omega) ?_
  have H41 : rowAt h38 (lo + 1) 320 (nI 1) ([]) := ((((((((((c7c).fr (fun j j1 j2 => f10 j (by omega))).fr (fun j j1 j2 => f13 j (by omega))).fr (fun j j1 j2 => c17d j (by omega))).fr (fun j j1 j2 => f20 j (by omega))).fr (fun j j1 j2 => f23 j (by omega))).fr (fun j j1 j2 => c27d j (by omega))).fr (fun j j1 j2 => f30 j (by omega))).fr (fun j j1 j2 => f33 j (by omega))).fr (fun j j1 j2 => c37d j (by omega))).fr (fun j j1 j2 => f40 j (by omega))
  have H42 : rowAt h38 (lo + 4) 320 (nI 1) ([]) := (((((((c17c).fr (fun j j1 j2 => f20 j (by omega))).fr (fun j j1 j2 => f23 j (by omega))).fr (fun j j1 j2 => c27d j (by omega))).fr (fun j j1 j2 => f30 j (by omega))).fr (fun j j1 j2 => f33 j (by omega))).fr (fun j j1 j2 => c37d j (by omega))).fr (fun j j1 j2 => f40 j (by omega))
  have H43 : rowAt h38 (lo + 7) 320 (nI 1) ([]) := ((((c27c).fr (fun j j1 j2 => f30 j (by omega))).fr (fun j j1 j2 => f33 j (by omega))).fr (fun j j1 j2 => c37d j (by omega))).fr (fun j j1 j2 => f40 j (by omega))
  have H44 : rowAt h38 (lo + 10) 320 (nI 1) ([]) := (c37c).fr (fun j j1 j2 => f40 j (by omega))
  exact ⟨rfl, rfl, e39, H41, H42, H43, H44, fun j hj => (f40 j (by omega)).trans ((c37d j (by omega)).trans ((f33 j (by omega)).trans ((f30 j (by omega)).trans ((c27d j (by omega)).trans ((f23 j (by omega)).trans ((f20 j (by omega)).trans ((c17d j (by omega)).trans ((f13 j (by omega)).trans ((f10 j (by omega)).trans ((c7d j (by omega)).trans (f3 j (by omega))))))))))))⟩

/-! ===== the class's state, what calls answer ===== -/
section MTH
variable {l : Launch} {M : mM} {R : Room} {K : mK} {pc : Nat} {ls st : List Value} {h : mH} {n cc sc : Nat}
theorem mt_acmp_ne {a b : Nat} {off : Int} {tgt : Nat} (hdg : decode M.2.1 pc = .ok (.if_acmp .ne off, 3)) (ht : (pc : Int) + off = (tgt : Int)) (kt : ¬ a = b → mT l M R K tgt ls st h n cc sc) (kf : a = b → mT l M R K (pc + 3) ls st h n cc sc) : mT l M R K pc ls (.ref b :: .ref a :: st) h n cc sc := by
  intro p e s m args below meth c G w0 H locs LS ws st' hC hD
  obtain ⟨d1, d2, d3, d4, d5, d6, d7⟩ := hD
  obtain ⟨⟨y, eb⟩, t1, hwb, rfl, d7a⟩ := d7.ref
  obtain ⟨⟨x, ea⟩, t2, hwa, rfl, d7b⟩ := d7a.ref
  have hxy : x = y ↔ a = b := ⟨fun q => d3.1 a b _ _ hwa hwb q, fun q => by subst q; rw [hwa] at hwb; cases hwb; rfl⟩
  refine lv_acmp_ne (rx := some x) (ry := some y) hC.1 hC.2.2.1 hdg ht (fun q => kt (fun q2 => q (congrArg some (hxy.mpr q2))) p e s m args below meth c G w0 H locs LS ws _ hC ⟨d1, d2, d3, d4, d5, d6, d7b⟩) (fun q => kf (hxy.mp (Option.some.inj q)) p e s m args below meth c G w0 H locs LS ws _ hC ⟨d1, d2, d3, d4, d5, d6, d7b⟩)
theorem mp_aaload {a t len j : Nat} {i : Int32} {g : Nat → Option Nat} {ty : FieldType} {v : Value} (hdg : decode M.2.1 pc = .ok (.aaload, 1)) (he : h a = .inr (.inl (t, len, g))) (ht : ∀ tc, (mTy tc)[t]? = some (tc t, ty)) (hty : ty.isReference = true) (hi : i = nI j) (hj : j < len) (hL : len < 2 ^ 31) (hv : va_rf (g j) = v) (k : mT l M R K (pc + 1) ls (v :: st) h n cc sc) : mT l M R K pc ls (.int i :: .ref a :: st) h n cc sc := mt_aaload hdg he ht hty hi hj hL hv k
end MTH
/-- a number of k that begin with 0 -/
def inN (k : Nat) (x : Int32) : Option Nat := if x < 0 ∨ ¬ x < nI k then none else some x.toNatClampNeg
theorem inN_some {k j : Nat} (hj : j < k) (hk : k < 2 ^ 31) : inN k (nI j) = some j := by
  unfold inN
  rw [if_neg, nI_clamp (by omega)]
  rintro (h | h)
  · exact nI_pos (by omega) h
  · exact h (nI_lt hj hk)
theorem inN_out {k j : Nat} (hj : ¬ j < k) (h : j < 2 ^ 31) : inN k (nI j) = none := by
  unfold inN
  rw [if_pos (Or.inr (nI_nlt (by omega) h))]
theorem inN_neg {k : Nat} {x : Int32} (h : x < 0) : inN k x = none := if_pos (Or.inl h)
theorem inN_big {k : Nat} {x : Int32} (h : ¬ x < nI k) : inN k x = none := if_pos (Or.inr h)
theorem inN_mid {k : Nat} {x : Int32} (h0 : ¬ x < 0) (h : x < nI k) (hk : k < 2 ^ 31) : ∃ j, j < k ∧ x = nI j := by
  obtain ⟨j, hj, rfl⟩ := nI_of h0
  exact ⟨j, (nI_ltI hj hk).mp h, rfl⟩
theorem inN_le {k : Nat} {x : Int32} (h0 : ¬ x < 0) (h : ¬ nI k < x) (hk : k < 2 ^ 30) : ∃ j, j < k + 1 ∧ x = nI j := by
  obtain ⟨j, hj, rfl⟩ := nI_of h0
  refine ⟨j, ?_, rfl⟩
  have := (not_congr (nI_ltI (by omega) hj)).mp h
  omega
theorem inN_gt {k : Nat} {x : Int32} (h : nI k < x) (hk : k < 2 ^ 30) : inN (k + 1) x = none := by
  by_cases h0 : x < 0
  · exact inN_neg h0
  · obtain ⟨j, hj, rfl⟩ := nI_of h0
    exact inN_out (by have := (nI_ltI (by omega) hj).mp h; omega) hj
theorem inN_of {k j : Nat} {x : Int32} (h : inN k x = some j) (hk : k < 2 ^ 31) : j < k ∧ x = nI j := by
  unfold inN at h
  split at h
  · cases h
  · rename_i q
    have q1 : ¬ x < 0 := fun z => q (Or.inl z)
    have q2 : x < nI k := Classical.byContradiction fun z => q (Or.inr z)
    obtain ⟨i, hi, rfl⟩ := inN_mid q1 q2 hk
    cases h
    rw [nI_clamp (by omega)]
    exact ⟨hi, rfl⟩
abbrev cS : Type := (Nat → List mIt) × Int32 × Int32 × Int32 × Int32
def rroom (r : Nat) : Nat := if r = 3 then 320 else 150
def cSet (S : cS) (r : Nat) (ys : List mIt) : cS := (fun k => if k = r then ys else S.1 k, S.2)
def cAct (S : cS) : cS := (S.1, S.2.1, S.2.2.1 + nI 1, S.2.2.2.1, S.2.2.2.2)
def cRef (S : cS) : cS := (S.1, S.2.1, S.2.2.1, S.2.2.2.1 + nI 1, S.2.2.2.2)
def cGiv (S : cS) (g : Int32) : cS := (S.1, g, S.2.2)
def cObj (S : cS) : mE := .inr (.inr (4, [.ref 1, .ref 14, .int S.2.1, .int S.2.2.1, .int S.2.2.2.1, .int S.2.2.2.2]))
/-- the class's object with all its cells, 0 to 26 -/
def cAt (h : mH) (S : cS) : Prop := h 0 = cObj S ∧ (∃ g : Nat → Option Nat, h 1 = .inr (.inl (2, 4, g)) ∧ ∀ r, r < 4 → g r = some (2 + 3 * r)) ∧ h 14 = .inr (.inr (2, [.ref 15, .ref 18, .ref 21, .ref 24])) ∧ (∀ r, r < 4 → rowAt h (2 + 3 * r) (rroom r) (mb (decide (r < 2))) (S.1 r)) ∧ (∃ zs, rowAt h 15 320 (nI 1) zs) ∧ (∃ zs, rowAt h 18 320 (nI 1) zs) ∧ (∃ zs, rowAt h 21 320 (nI 1) zs) ∧ (∃ zs, rowAt h 24 320 (nI 1) zs)
theorem rowAt.len {h : mH} {a room : Nat} {fl : Int32} {xs : List mIt} (H : rowAt h a room fl xs) : xs.length ≤ room ∧ room ≤ 320 := by
  obtain ⟨f, g, -, -, -, h1, h2, -⟩ := H
  exact ⟨h1, h2⟩
def eI : String := "java/lang/IndexOutOfBoundsException"
def eA : String := "java/lang/IllegalArgumentException"
/-- a call's end: kind (0 an answer, 1 no such place, 2 no such argument), answer, state -/
def cOk (o : Nat × Value × cS) (h : mH) (n : Nat) : Option Value → mH → Nat → Prop := fun v h' n' => o.1 = 0 ∧ v = some o.2.1 ∧ n' = n ∧ cAt h' o.2.2 ∧ ∀ j, 27 ≤ j → h' j = h j
def cNo (k : Nat) (h : mH) (n : Nat) : String → mH → Nat → Prop := fun E h' n' => ((E = eI ∧ k = 1) ∨ (E = eA ∧ k = 2)) ∧ h' = h ∧ n' = n
theorem cOk.of {o : Nat × Value × cS} {h h' : mH} {n n' : Nat} {x : Value} {S' : cS} {v : Option Value} (ho : o = (0, x, S')) (hv : v = some x) (hn : n' = n) (hc : cAt h' S') (hf : ∀ j, 27 ≤ j → h' j = h j) : cOk o h n v h' n' := by
  subst ho
  exact ⟨rfl, hv, hn, hc, hf⟩
theorem cNo.i {k : Nat} {h : mH} {n : Nat} (hk : k = 1) : cNo k h n eI h n := ⟨Or.inl ⟨rfl, hk⟩, rfl, rfl⟩
theorem cNo.a {k : Nat} {h : mH} {n : Nat} (hk : k = 2) : cNo k h n eA h n := ⟨Or.inr ⟨rfl, hk⟩, rfl, rfl⟩
/-- rows but one are as they were -/
theorem cRows {h h' : mH} {S : cS} {r : Nat} {ys : List mIt} (hR : ∀ k, k < 4 → rowAt h (2 + 3 * k) (rroom k) (mb (decide (k < 2))) (S.1 k)) (hr : r < 4) (hn : rowAt h' (2 + 3 * r) (rroom r) (mb (decide (r < 2))) ys) (hf : ∀ j, 2 ≤ j → j < 14 → (j < 2 + 3 * r ∨ 2 + 3 * r + 3 ≤ j) → h' j = h j) : ∀ k, k < 4 → rowAt h' (2 + 3 * k) (rroom k) (mb (decide (k < 2))) (if k = r then ys else S.1 k) := by
  intro k hk
  by_cases q : k = r
  · subst q; rw [if_pos rfl]; exact hn
  · rw [if_neg q]; exact (hR k hk).fr (fun j h1 h2 => hf j (by omega) (by omega) (by omega))
theorem cRows0 {h h' : mH} {S : cS} (hR : ∀ k, k < 4 → rowAt h (2 + 3 * k) (rroom k) (mb (decide (k < 2))) (S.1 k)) (hf : ∀ j, 2 ≤ j → j < 14 → h' j = h j) : ∀ k, k < 4 → rowAt h' (2 + 3 * k) (rroom k) (mb (decide (k < 2))) (S.1 k) := fun k hk => (hR k hk).fr (fun j h1 h2 => hf j (by omega) (by omega))
def keyOk (x : Int32) : Bool := !decide (x < -99999) && !decide (nI 99999 < x)
def dAt (S : cS) (k : Nat) (x : Int32) (f : Nat → Nat × Value × cS) : Nat × Value × cS := match inN k x with
  | none => (1, .null, S)
  | some j => f j
def dArg (S : cS) (k : Nat) (x : Int32) (f : Nat → Nat × Value × cS) : Nat × Value × cS := match inN k x with
  | none => (2, .null, S)
  | some j => f j
def dFit (S : cS) (b : Bool) (o : Nat × Value × cS) : Nat × Value × cS := if b = true then o else (2, .null, S)
theorem dAt_s {S : cS} {k j : Nat} {f : Nat → Nat × Value × cS} (hj : j < k) (hk : k < 2 ^ 31) : dAt S k (nI j) f = f j := by
  unfold dAt
  rw [inN_some hj hk]
theorem dAt_n {S : cS} {k : Nat} {x : Int32} {f : Nat → Nat × Value × cS} (h : inN k x = none) : dAt S k x f = (1, .null, S) := by
  unfold dAt
  rw [h]
theorem dArg_s {S : cS} {k j : Nat} {f : Nat → Nat × Value × cS} (hj : j < k) (hk : k < 2 ^ 31) : dArg S k (nI j) f = f j := by
  unfold dArg
  rw [inN_some hj hk]
theorem dArg_n {S : cS} {k : Nat} {x : Int32} {f : Nat → Nat × Value × cS} (h : inN k x = none) : dArg S k x f = (2, .null, S) := by
  unfold dArg
  rw [h]
theorem dFit_s {S : cS} {b : Bool} {o : Nat × Value × cS} (h : b = true) : dFit S b o = o := if_pos h
theorem dFit_n {S : cS} {b : Bool} {o : Nat × Value × cS} (h : b = false) : dFit S b o = (2, .null, S) := if_neg (by rw [h]; decide)
def nst (b : Bool) (g : Int32) : Int32 := if b = true then g else -1
def ngv (b : Bool) (g : Int32) : Int32 := if b = true then g + nI 1 else g
theorem mX_fit : ∀ x ∈ ["java/lang/RuntimeException", "java/lang/Exception"], Bundle.fit x = true := by
  intro x hx
  rcases List.mem_cons.mp hx with rfl | hx
  · decide +kernel
  · rcases List.mem_cons.mp hx with rfl | hx
    · decide +kernel
    · cases hx
theorem mX_at289 : ∀ w ∈ vx_atS RX2 289 eI ["java/lang/RuntimeException", "java/lang/Exception"], w ∈ mGw ∨ w ∈ mNw := mGN (by decide +kernel)
theorem mX_at239 : ∀ w ∈ vx_atS RX2 239 eA ["java/lang/RuntimeException", "java/lang/Exception"], w ∈ mGw ∨ w ∈ mNw := mGN (by decide +kernel)
theorem mX_ot289 : ∀ w ∈ Cond.classLink RX2 285 eI :: Cond.initialized eI :: vx_atS RX2 289 eI ["java/lang/RuntimeException", "java/lang/Exception"], vx_ot w = true := List.all_eq_true.mp (by decide +kernel)
theorem mX_ot239 : ∀ w ∈ Cond.classLink RX2 235 eA :: Cond.initialized eA :: vx_atS RX2 239 eA ["java/lang/RuntimeException", "java/lang/Exception"], vx_ot w = true := List.all_eq_true.mp (by decide +kernel)
theorem inN_0 {x : Int32} : inN 0 x = none := by
  by_cases h : x < 0
  · exact inN_neg h
  · exact inN_big h
theorem no_m1 {x : Int32} (h : ¬ x < 0) (h2 : x < -1) : False := by
  apply h
  rw [Int32.lt_iff_toInt_lt] at *
  have : (-1 : Int32).toInt = -1 := by decide
  have : (0 : Int32).toInt = 0 := by decide
  omega
theorem rowAt_put {h : mH} {a room i : Nat} {fl k s : Int32} {xs : List mIt} {f g : Nat → Int32} (e0 : h a = .inr (.inr (3, [.ref (a + 1), .ref (a + 2), .int fl, .int (nI xs.length)]))) (e1 : h (a + 1) = .inl (0, room, upd f i k)) (e2 : h (a + 2) = .inl (0, room, upd g i s)) (hi : i < xs.length) (hl : xs.length ≤ room) (hr : room ≤ 320) (hk : ∀ i, i < xs.length → f i = xk xs i) (ht : ∀ i, i < xs.length → g i = xt xs i) : rowAt h a room fl (xs.set i (k, s)) := by
  have e : (xs.set i (k, s)).length = xs.length := List.length_set
  refine ⟨_, _, by rw [e]; exact e0, e1, e2, by omega, hr, fun j hj => ?_, fun j hj => ?_⟩
  · rw [e] at hj
    rw [xk_put hi]
    unfold upd
    by_cases q : j = i
    · simp [q]
    · simp [q, hk j hj]
  · rw [e] at hj
    rw [xt_put hi]
    unfold upd
    by_cases q : j = i
    · simp [q]
    · simp [q, ht j hj]
/-- a row's items from a place down to the first -/
def rv (xs : List mIt) : Nat → List mIt
  | 0 => []
  | d + 1 => (xk xs d, xt xs d) :: rv xs d
theorem rv_go {xs ys : List mIt} {d : Nat} : (ys ++ [(xk xs d, xt xs d)]) ++ rv xs d = ys ++ rv xs (d + 1) := by rw [List.append_assoc]; rfl
theorem rv_len {xs : List mIt} : ∀ {d : Nat}, (rv xs d).length = d
  | 0 => rfl
  | d + 1 => by show (rv xs d).length + 1 = _; rw [rv_len]
/-- the key of a pattern at a place -/
def patKey (p k m : Nat) (a : Int32) (b : Nat) : Int32 := match p with
  | 1 => a + nI (k * b)
  | 2 => a - nI (k * b)
  | 3 => a + nI (k % b)
  | 4 => if k / b % 2 = 0 then a + nI (k % b) else a + nI b - nI 1 - nI (k % b)
  | 5 => a + nI (b * min k (m - 1 - k))
  | 6 => if k % 2 = 0 then a + nI (k / 2) else a + nI b - nI (k / 2)
  | _ => a
def drw (x : Int32) : Int32 := x * nI 25173 + nI 13849 - (x * nI 25173 + nI 13849) / nI 65536 * nI 65536
def drk (x : Int32) : Int32 := x - x / nI 512 * nI 512
def drx (a : Int32) (b : Nat) : Int32 := nI (1000 * b) + a + nI 999 - (nI (1000 * b) + a + nI 999) / nI 65536 * nI 65536
def aOk (x : Int32) : Bool := !decide (x < -999) && !decide (nI 999 < x)
/-- 1 .. 99 -/
def dB (S : cS) (x : Int32) (f : Nat → Nat × Value × cS) : Nat × Value × cS := if x < 1 ∨ nI 99 < x then (2, .null, S) else f x.toNatClampNeg
theorem dB_in {x : Int32} (h1 : ¬ x < 1) (h2 : ¬ nI 99 < x) : ∃ p, p < 100 ∧ 0 < p ∧ x = nI p := by
  have h0 : ¬ x < 0 := fun z => h1 (by
    rw [Int32.lt_iff_toInt_lt] at *
    have e0 : (0 : Int32).toInt = 0 := by decide
    have e1 : (1 : Int32).toInt = 1 := by decide
    omega)
  obtain ⟨p, hp, rfl⟩ := nI_of h0
  have h3 := (not_congr (nI_ltI (by decide) hp)).mp h2
  have h4 : ¬ p < 1 := fun z => h1 (nI_lt z (by decide))
  exact ⟨p, by omega, by omega, rfl⟩
theorem dB_s {S : cS} {p : Nat} {f : Nat → Nat × Value × cS} (hp : p < 100) (h0 : 0 < p) : dB S (nI p) f = f p := by
  unfold dB
  rw [if_neg, nI_clamp (by omega)]
  rintro (h | h)
  · exact nI_nlt (a := p) (b := 1) (by omega) (by omega) h
  · exact nI_nlt (a := 99) (b := p) (by omega) (by decide) h
theorem dB_n {S : cS} {x : Int32} {f : Nat → Nat × Value × cS} (h : x < 1 ∨ nI 99 < x) : dB S x f = (2, .null, S) := if_pos h
/-- the stamp of an item that comes from another row -/
def cst (t ft : Bool) (x g : Int32) : Int32 := if t = true then (if ft = true then x else g) else -1
def cgv (t ft : Bool) (g : Int32) : Int32 := if t = true then (if ft = true then g else g + nI 1) else g
def stBring (xs : List mIt) (t ft : Bool) (i : Nat) (p : List mIt × Int32) : List mIt × Int32 := (p.1 ++ [(xk xs i, cst t ft (xt xs i) p.2)], cgv t ft p.2)
/-- ys and behind it what comes of xs; the next stamp -/
def bringL (xs : List mIt) (t ft : Bool) (ys : List mIt) (g : Int32) : List mIt × Int32 := mlp (stBring xs t ft) (xs.length - 0) 0 (ys, g)
theorem xk_app_lt {xs zs : List mIt} {i : Nat} (h : i < xs.length) : xk (xs ++ zs) i = xk xs i := by
  unfold xk
  rw [List.getD_eq_getElem?_getD, List.getD_eq_getElem?_getD, List.getElem?_append_left h]
theorem xt_app_lt {xs zs : List mIt} {i : Nat} (h : i < xs.length) : xt (xs ++ zs) i = xt xs i := by
  unfold xt
  rw [List.getD_eq_getElem?_getD, List.getD_eq_getElem?_getD, List.getElem?_append_left h]
def stPat (p m : Nat) (a : Int32) (b : Nat) (bl : Bool) (k : Nat) (q : List mIt × Int32) : List mIt × Int32 := (q.1 ++ [(patKey p k m a b, nst bl q.2)], ngv bl q.2)
def stDrw (bl : Bool) (_ : Nat) (q : List mIt × Int32 × Int32) : List mIt × Int32 × Int32 := (q.1 ++ [(drk (drw q.2.2), nst bl q.2.1)], ngv bl q.2.1, drw q.2.2)
theorem bt_nf {b : Bool} (h : b = true) : ¬ b = false := by rw [h]; decide
theorem bringL_len {xs : List mIt} {t ft : Bool} {ys : List mIt} {g : Int32} : (bringL xs t ft ys g).1.length = ys.length + xs.length := by
  have h : ∀ (d i : Nat) (ys : List mIt) (g : Int32), (mlp (stBring xs t ft) d i (ys, g)).1.length = ys.length + d := by
    intro d
    induction d with
    | zero => intro i ys g; rfl
    | succ d ih =>
      intro i ys g
      refine (ih (i + 1) (ys ++ [(xk xs i, cst t ft (xt xs i) g)]) (cgv t ft g)).trans ?_
      simp only [List.length_append, List.length_cons, List.length_nil]
      omega
  exact h _ _ _ _
/-- two sorted rows, joined, woven; the second one begins at m -/
def weave (xs : List mIt) (m : Nat) : List mIt := List.merge (span xs 0 m) (span xs m xs.length) wle
theorem weave_len {xs : List mIt} {m : Nat} (h : m ≤ xs.length) : (weave xs m).length = xs.length := by
  unfold weave
  rw [List.length_merge, span_len h, span_len (Nat.le_refl _)]
  omega
theorem inN_no {k : Nat} {x : Int32} (h : inN k x = none) (hk : k < 2 ^ 31) : x.toInt < 0 ∨ (k : Int) - 1 < x.toInt := by
  unfold inN at h
  split at h
  · rename_i q
    rcases q with q | q
    · left
      have := Int32.lt_iff_toInt_lt.mp q
      have e0 : (0 : Int32).toInt = 0 := by decide
      omega
    · right
      rw [Int32.lt_iff_toInt_lt, nI_toInt hk] at q
      omega
  · cases h
theorem cNo_no {k : Nat} {h : mH} {n : Nat} {E : String} {h' : mH} {n' : Nat} (hk : k = 0) (hx : cNo k h n E h' n') : False := by
  subst hk
  rcases hx.1 with ⟨-, q⟩ | ⟨-, q⟩ <;> cases q
theorem cOk.use {o : Nat × Value × cS} {h h' : mH} {n n' : Nat} {x : Value} {S' : cS} {v : Option Value} (hc : cOk o h n v h' n') (ho : o = (0, x, S')) : v = some x ∧ n' = n ∧ cAt h' S' ∧ ∀ j, 27 ≤ j → h' j = h j := by
  subst ho
  exact hc.2

/-! ===== the class: its small methods ===== -/
abbrev rX2_rowOf : Room := { frames := 6, cells := 1, slots := 6, locals := 90 }
set_option maxRecDepth 100000 in
set_option maxHeartbeats 2000000 in
theorem kX2_rowOf {l : Launch} (hl : l.stackTraces = false) {h : mH} {n : Nat} {S : cS} {row : Int32} (C : cAt h S) : mC l mX2_rowOf rX2_rowOf [.ref 0, .int row] h n (fun v h' n' => ∃ r, r < 4 ∧ row = nI r ∧ v = some (.ref (2 + 3 * r)) ∧ h' = h ∧ n' = n) (fun E h' n' => E = eI ∧ inN 4 row = none ∧ h' = h ∧ n' = n) := by
  obtain ⟨C0, ⟨cg, C1, C1g⟩, C14, CR, ⟨zs15, H15⟩, ⟨zs18, H18⟩, ⟨zs21, H21⟩, ⟨zs24, H24⟩⟩ := id C
  refine mm_enter hl (by decide +kernel) rfl rfl rfl (Nat.le_of_ble_eq_true rfl) ?_
  show mT _ _ _ _ 0 [.ref 0, .int row] [] _ _ 0 0
  refine mt_iload_n dX2_rowOf_0 rfl ?_
  refine mt_if_lt dX2_rowOf_1 (tgt := 13) rfl (fun q1 => ?_) (fun q1 => ?_)
  · refine mt_throwSW (by decide +kernel) mX_fit mw_234 mw_39 (fun G U t => ⟨_, t.1⟩) mX_at289 mX_ot289 dX2_rowOf_13 dX2_rowOf_16 dX2_rowOf_17 dX2_rowOf_20 dX2_rowOf_23 rfl ⟨Nat.le_of_ble_eq_true rfl, Nat.le_of_ble_eq_true rfl⟩ (Nat.le_of_ble_eq_true rfl) (Nat.le_of_ble_eq_true rfl) (Nat.le_of_ble_eq_true rfl) ?_
    exact ⟨rfl, by first | exact inN_neg (by assumption) | exact inN_big (by assumption), rfl, rfl⟩
  · refine mt_iload_n dX2_rowOf_4 rfl ?_
    refine mt_aload_n dX2_rowOf_5 rfl rfl ?_
    refine mt_getfield mKX2 (i := 0) (by decide) mw_112 dX2_rowOf_6 C0 rfl ?_
    refine mt_alenq dX2_rowOf_9 C1 (fun _ => rfl) ?_
    refine mt_icmp_lt dX2_rowOf_10 (tgt := 24) rfl (fun q2 => ?_) (fun q2 => ?_)
    · obtain ⟨r, hr, rfl⟩ := inN_mid (k := 4) (by assumption) (by assumption) (by decide)
      refine mt_aload_n dX2_rowOf_24 rfl rfl ?_
      refine mt_getfield mKX2 (i := 0) (by decide) mw_112 dX2_rowOf_25 C0 rfl ?_
      refine mt_iload_n dX2_rowOf_28 rfl ?_
      refine mp_aaload dX2_rowOf_29 C1 (fun _ => rfl) rfl rfl (by omega) (by omega) (v := .ref (2 + 3 * r)) (by rw [C1g _ (by omega)]; rfl) ?_
      refine mt_areturn dX2_rowOf_30 rfl (by first | exact Or.inl ⟨_, rfl⟩ | exact Or.inr ⟨_, rfl⟩) rfl (Nat.le_of_ble_eq_true rfl) (Nat.le_of_ble_eq_true rfl) ?_
      exact ⟨r, hr, rfl, rfl, rfl, rfl⟩
    · refine mt_throwSW (by decide +kernel) mX_fit mw_234 mw_39 (fun G U t => ⟨_, t.1⟩) mX_at289 mX_ot289 dX2_rowOf_13 dX2_rowOf_16 dX2_rowOf_17 dX2_rowOf_20 dX2_rowOf_23 rfl ⟨Nat.le_of_ble_eq_true rfl, Nat.le_of_ble_eq_true rfl⟩ (Nat.le_of_ble_eq_true rfl) (Nat.le_of_ble_eq_true rfl) (Nat.le_of_ble_eq_true rfl) ?_
      exact ⟨rfl, by first | exact inN_neg (by assumption) | exact inN_big (by assumption), rfl, rfl⟩
abbrev rX2_demand : Room := { frames := 6, cells := 1, slots := 6, locals := 90 }
set_option maxRecDepth 100000 in
set_option maxHeartbeats 2000000 in
theorem kX2_demand_t {l : Launch} (hl : l.stackTraces = false) {h : mH} {n : Nat}  : mC l mX2_demand rX2_demand [.int (nI 1)] h n (fun v h' n' => v = none ∧ h' = h ∧ n' = n) (mNX) := by
  refine mm_enter hl (by decide +kernel) rfl rfl rfl (Nat.le_of_ble_eq_true rfl) ?_
  show mT _ _ _ _ 0 [.int (nI 1)] [] _ _ 0 0
  refine mt_iload_n dX2_demand_0 rfl ?_
  refine mt_if_ne dX2_demand_1 (tgt := 15) rfl (fun q1 => ?_) (fun q1 => ?_)
  · have q1 := (not_congr (mI_eq0 (by omega))).mp q1
    refine mt_return dX2_demand_15 rfl (Nat.le_of_ble_eq_true rfl) (Nat.le_of_ble_eq_true rfl) ?_
    exact ⟨rfl, rfl, rfl⟩
  · have q1 := (mI_eq0 (by omega)).mp q1
    exact absurd q1 (by decide)
set_option maxRecDepth 100000 in
set_option maxHeartbeats 2000000 in
theorem kX2_demand_f {l : Launch} (hl : l.stackTraces = false) {h : mH} {n : Nat}  : mC l mX2_demand rX2_demand [.int (nI 0)] h n (fun _ _ _ => False) (fun E h' n' => E = eA ∧ h' = h ∧ n' = n) := by
  refine mm_enter hl (by decide +kernel) rfl rfl rfl (Nat.le_of_ble_eq_true rfl) ?_
  show mT _ _ _ _ 0 [.int (nI 0)] [] _ _ 0 0
  refine mt_iload_n dX2_demand_0 rfl ?_
  refine mt_if_ne dX2_demand_1 (tgt := 15) rfl (fun q1 => ?_) (fun q1 => ?_)
  · have q1 := (not_congr (mI_eq0 (by omega))).mp q1
    exact absurd q1 (by decide)
  · have q1 := (mI_eq0 (by omega)).mp q1
    refine mt_throwSW (by decide +kernel) mX_fit mw_312 mw_40 (fun G U t => ⟨_, t.2.1⟩) mX_at239 mX_ot239 dX2_demand_4 dX2_demand_7 dX2_demand_8 dX2_demand_11 dX2_demand_14 rfl ⟨Nat.le_of_ble_eq_true rfl, Nat.le_of_ble_eq_true rfl⟩ (Nat.le_of_ble_eq_true rfl) (Nat.le_of_ble_eq_true rfl) (Nat.le_of_ble_eq_true rfl) ?_
    exact ⟨rfl, rfl, rfl⟩
abbrev rX2_demandWithin : Room := { frames := 6, cells := 1, slots := 6, locals := 90 }
set_option maxRecDepth 100000 in
set_option maxHeartbeats 2000000 in
theorem kX2_demandWithin_t {l : Launch} (hl : l.stackTraces = false) {h : mH} {n : Nat}  : mC l mX2_demandWithin rX2_demandWithin [.int (nI 1)] h n (fun v h' n' => v = none ∧ h' = h ∧ n' = n) (mNX) := by
  refine mm_enter hl (by decide +kernel) rfl rfl rfl (Nat.le_of_ble_eq_true rfl) ?_
  show mT _ _ _ _ 0 [.int (nI 1)] [] _ _ 0 0
  refine mt_iload_n dX2_demandWithin_0 rfl ?_
  refine mt_if_ne dX2_demandWithin_1 (tgt := 15) rfl (fun q1 => ?_) (fun q1 => ?_)
  · have q1 := (not_congr (mI_eq0 (by omega))).mp q1
    refine mt_return dX2_demandWithin_15 rfl (Nat.le_of_ble_eq_true rfl) (Nat.le_of_ble_eq_true rfl) ?_
    exact ⟨rfl, rfl, rfl⟩
  · have q1 := (mI_eq0 (by omega)).mp q1
    exact absurd q1 (by decide)
set_option maxRecDepth 100000 in
set_option maxHeartbeats 2000000 in
theorem kX2_demandWithin_f {l : Launch} (hl : l.stackTraces = false) {h : mH} {n : Nat}  : mC l mX2_demandWithin rX2_demandWithin [.int (nI 0)] h n (fun _ _ _ => False) (fun E h' n' => E = eI ∧ h' = h ∧ n' = n) := by
  refine mm_enter hl (by decide +kernel) rfl rfl rfl (Nat.le_of_ble_eq_true rfl) ?_
  show mT _ _ _ _ 0 [.int (nI 0)] [] _ _ 0 0
  refine mt_iload_n dX2_demandWithin_0 rfl ?_
  refine mt_if_ne dX2_demandWithin_1 (tgt := 15) rfl (fun q1 => ?_) (fun q1 => ?_)
  · have q1 := (not_congr (mI_eq0 (by omega))).mp q1
    exact absurd q1 (by decide)
  · have q1 := (mI_eq0 (by omega)).mp q1
    refine mt_throwSW (by decide +kernel) mX_fit mw_234 mw_39 (fun G U t => ⟨_, t.2.2.2.1⟩) mX_at289 mX_ot289 dX2_demandWithin_4 dX2_demandWithin_7 dX2_demandWithin_8 dX2_demandWithin_11 dX2_demandWithin_14 rfl ⟨Nat.le_of_ble_eq_true rfl, Nat.le_of_ble_eq_true rfl⟩ (Nat.le_of_ble_eq_true rfl) (Nat.le_of_ble_eq_true rfl) (Nat.le_of_ble_eq_true rfl) ?_
    exact ⟨rfl, rfl, rfl⟩
abbrev rX2_demandKey : Room := { frames := 7, cells := 1, slots := 6, locals := 110 }
set_option maxRecDepth 100000 in
set_option maxHeartbeats 2000000 in
theorem kX2_demandKey {l : Launch} (hl : l.stackTraces = false) {h : mH} {n : Nat} {key : Int32}  : mC l mX2_demandKey rX2_demandKey [.int key] h n (fun v h' n' => v = none ∧ keyOk key = true ∧ h' = h ∧ n' = n) (fun E h' n' => E = eA ∧ keyOk key = false ∧ h' = h ∧ n' = n) := by
  refine mm_enter hl (by decide +kernel) rfl rfl rfl (Nat.le_of_ble_eq_true rfl) ?_
  show mT _ _ _ _ 0 [.int key] [] _ _ 0 0
  refine mt_iload_n dX2_demandKey_0 rfl ?_
  refine mt_ldcw (v := (-99999)) dX2_demandKey_1 mw_444 ?_
  refine mt_icmp_lt dX2_demandKey_4 (tgt := 18) rfl (fun q1 => ?_) (fun q1 => ?_)
  · refine mt_iconst dX2_demandKey_18 (v := nI 0) rfl ?_
    refine mt_callS (N := mX2_demand) (Rc := rX2_demand) (As := [.int (nI 0)]) (st := []) dX2_demandKey_19 (kX2_demand_f hl) sX2_demand mw_309 rfl (Nat.le_of_ble_eq_true rfl) ⟨⟨Nat.le_of_ble_eq_true rfl, Nat.le_of_ble_eq_true rfl⟩, Nat.le_of_ble_eq_true rfl, Nat.le_of_ble_eq_true rfl⟩ (fun _ _ _ hv => hv.elim) (fun E h9 n9 hx => ?_)
    obtain ⟨rfl, rfl, rfl⟩ := hx
    refine mt_out rfl ?_ (Nat.le_of_ble_eq_true rfl) (Nat.le_of_ble_eq_true rfl)
    exact ⟨rfl, by simp [keyOk, q1], rfl, rfl⟩
  · refine mt_iload_n dX2_demandKey_7 rfl ?_
    refine mt_ldcw (v := nI 99999) dX2_demandKey_8 mw_445 ?_
    refine mt_icmp_gt dX2_demandKey_11 (tgt := 18) rfl (fun q6 => ?_) (fun q6 => ?_)
    · refine mt_iconst dX2_demandKey_18 (v := nI 0) rfl ?_
      refine mt_callS (N := mX2_demand) (Rc := rX2_demand) (As := [.int (nI 0)]) (st := []) dX2_demandKey_19 (kX2_demand_f hl) sX2_demand mw_309 rfl (Nat.le_of_ble_eq_true rfl) ⟨⟨Nat.le_of_ble_eq_true rfl, Nat.le_of_ble_eq_true rfl⟩, Nat.le_of_ble_eq_true rfl, Nat.le_of_ble_eq_true rfl⟩ (fun _ _ _ hv => hv.elim) (fun E h9 n9 hx => ?_)
      obtain ⟨rfl, rfl, rfl⟩ := hx
      refine mt_out rfl ?_ (Nat.le_of_ble_eq_true rfl) (Nat.le_of_ble_eq_true rfl)
      exact ⟨rfl, by simp [keyOk, q1, q6], rfl, rfl⟩
    · refine mt_iconst dX2_demandKey_14 (v := nI 1) rfl ?_
      refine mt_goto dX2_demandKey_15 (tgt := 19) rfl ?_
      refine mt_callS (N := mX2_demand) (Rc := rX2_demand) (As := [.int (nI 1)]) (st := []) dX2_demandKey_19 (kX2_demand_t hl) sX2_demand mw_309 rfl (Nat.le_of_ble_eq_true rfl) ⟨⟨Nat.le_of_ble_eq_true rfl, Nat.le_of_ble_eq_true rfl⟩, Nat.le_of_ble_eq_true rfl, Nat.le_of_ble_eq_true rfl⟩ (fun v11 h12 n13 c14 => ?_) (fun _ _ _ hx => hx.elim)
      obtain ⟨c14a, c14b, c14c⟩ := c14
      rw [c14a, c14b, c14c]
      show mT _ _ _ _ 22 [.int key] [] _ _ _ _
      refine mt_return dX2_demandKey_22 rfl (Nat.le_of_ble_eq_true rfl) (Nat.le_of_ble_eq_true rfl) ?_
      exact ⟨rfl, by simp [keyOk, q1, q6], rfl, rfl⟩
abbrev rX2_demandPlace : Room := { frames := 7, cells := 1, slots := 6, locals := 110 }
set_option maxRecDepth 100000 in
set_option maxHeartbeats 2000000 in
theorem kX2_demandPlace {l : Launch} (hl : l.stackTraces = false) {h : mH} {n a room : Nat} {fl : Int32} {xs : List mIt} {place : Int32} (H : rowAt h a room fl xs) : mC l mX2_demandPlace rX2_demandPlace [.ref a, .int place] h n (fun v h' n' => ∃ p, p < xs.length ∧ place = nI p ∧ v = none ∧ h' = h ∧ n' = n) (fun E h' n' => E = eI ∧ inN xs.length place = none ∧ h' = h ∧ n' = n) := by
  obtain ⟨f_1, g_1, ea_1, ek_1, es_1, ql_1, qr_1, qk_1, qt_1⟩ := id H
  refine mm_enter hl (by decide +kernel) rfl rfl rfl (Nat.le_of_ble_eq_true rfl) ?_
  show mT _ _ _ _ 0 [.ref a, .int place] [] _ _ 0 0
  refine mt_iload_n dX2_demandPlace_0 rfl ?_
  refine mt_if_lt dX2_demandPlace_1 (tgt := 16) rfl (fun q2 => ?_) (fun q2 => ?_)
  · refine mt_iconst dX2_demandPlace_16 (v := nI 0) rfl ?_
    refine mt_callS (N := mX2_demandWithin) (Rc := rX2_demandWithin) (As := [.int (nI 0)]) (st := []) dX2_demandPlace_17 (kX2_demandWithin_f hl) sX2_demandWithin mw_460 rfl (Nat.le_of_ble_eq_true rfl) ⟨⟨Nat.le_of_ble_eq_true rfl, Nat.le_of_ble_eq_true rfl⟩, Nat.le_of_ble_eq_true rfl, Nat.le_of_ble_eq_true rfl⟩ (fun _ _ _ hv => hv.elim) (fun E h9 n9 hx => ?_)
    obtain ⟨rfl, rfl, rfl⟩ := hx
    refine mt_out rfl ?_ (Nat.le_of_ble_eq_true rfl) (Nat.le_of_ble_eq_true rfl)
    exact ⟨rfl, by first | exact inN_neg (by assumption) | exact inN_big (by assumption) | (rw [q0]; exact inN_0), rfl, rfl⟩
  · refine mt_iload_n dX2_demandPlace_4 rfl ?_
    refine mt_aload_n dX2_demandPlace_5 rfl rfl ?_
    refine mt_getfield mKX1 (i := 3) (by decide) mw_76 dX2_demandPlace_6 ea_1 rfl ?_
    refine mt_icmp_ge dX2_demandPlace_9 (tgt := 16) rfl (fun q7 => ?_) (fun q7 => ?_)
    · have q7 := Int32.not_lt.mpr q7
      refine mt_iconst dX2_demandPlace_16 (v := nI 0) rfl ?_
      refine mt_callS (N := mX2_demandWithin) (Rc := rX2_demandWithin) (As := [.int (nI 0)]) (st := []) dX2_demandPlace_17 (kX2_demandWithin_f hl) sX2_demandWithin mw_460 rfl (Nat.le_of_ble_eq_true rfl) ⟨⟨Nat.le_of_ble_eq_true rfl, Nat.le_of_ble_eq_true rfl⟩, Nat.le_of_ble_eq_true rfl, Nat.le_of_ble_eq_true rfl⟩ (fun _ _ _ hv => hv.elim) (fun E h9 n9 hx => ?_)
      obtain ⟨rfl, rfl, rfl⟩ := hx
      refine mt_out rfl ?_ (Nat.le_of_ble_eq_true rfl) (Nat.le_of_ble_eq_true rfl)
      exact ⟨rfl, by first | exact inN_neg (by assumption) | exact inN_big (by assumption) | (rw [q0]; exact inN_0), rfl, rfl⟩
    · have q7 := Int32.not_le.mp q7
      refine mt_iconst dX2_demandPlace_12 (v := nI 1) rfl ?_
      refine mt_goto dX2_demandPlace_13 (tgt := 17) rfl ?_
      refine mt_callS (N := mX2_demandWithin) (Rc := rX2_demandWithin) (As := [.int (nI 1)]) (st := []) dX2_demandPlace_17 (kX2_demandWithin_t hl) sX2_demandWithin mw_460 rfl (Nat.le_of_ble_eq_true rfl) ⟨⟨Nat.le_of_ble_eq_true rfl, Nat.le_of_ble_eq_true rfl⟩, Nat.le_of_ble_eq_true rfl, Nat.le_of_ble_eq_true rfl⟩ (fun v12 h13 n14 c15 => ?_) (fun _ _ _ hx => hx.elim)
      obtain ⟨c15a, c15b, c15c⟩ := c15
      rw [c15a, c15b, c15c]
      show mT _ _ _ _ 20 [.ref a, .int place] [] _ _ _ _
      refine mt_return dX2_demandPlace_20 rfl (Nat.le_of_ble_eq_true rfl) (Nat.le_of_ble_eq_true rfl) ?_
      obtain ⟨p, hp, rfl⟩ := inN_mid (k := xs.length) (by assumption) (by assumption) (by omega)
      exact ⟨p, hp, rfl, rfl, rfl, rfl⟩
abbrev rX2_demandPlaceWithNext : Room := { frames := 7, cells := 1, slots := 6, locals := 110 }
set_option maxRecDepth 100000 in
set_option maxHeartbeats 2000000 in
theorem kX2_demandPlaceWithNext {l : Launch} (hl : l.stackTraces = false) {h : mH} {n a room : Nat} {fl : Int32} {xs : List mIt} {place : Int32} (H : rowAt h a room fl xs) : mC l mX2_demandPlaceWithNext rX2_demandPlaceWithNext [.ref a, .int place] h n (fun v h' n' => ∃ p, p < (xs.length - 1) ∧ place = nI p ∧ v = none ∧ h' = h ∧ n' = n) (fun E h' n' => E = eI ∧ inN (xs.length - 1) place = none ∧ h' = h ∧ n' = n) := by
  obtain ⟨f_1, g_1, ea_1, ek_1, es_1, ql_1, qr_1, qk_1, qt_1⟩ := id H
  refine mm_enter hl (by decide +kernel) rfl rfl rfl (Nat.le_of_ble_eq_true rfl) ?_
  show mT _ _ _ _ 0 [.ref a, .int place] [] _ _ 0 0
  refine mt_iload_n dX2_demandPlaceWithNext_0 rfl ?_
  refine mt_if_lt dX2_demandPlaceWithNext_1 (tgt := 18) rfl (fun q2 => ?_) (fun q2 => ?_)
  · refine mt_iconst dX2_demandPlaceWithNext_18 (v := nI 0) rfl ?_
    refine mt_callS (N := mX2_demandWithin) (Rc := rX2_demandWithin) (As := [.int (nI 0)]) (st := []) dX2_demandPlaceWithNext_19 (kX2_demandWithin_f hl) sX2_demandWithin mw_460 rfl (Nat.le_of_ble_eq_true rfl) ⟨⟨Nat.le_of_ble_eq_true rfl, Nat.le_of_ble_eq_true rfl⟩, Nat.le_of_ble_eq_true rfl, Nat.le_of_ble_eq_true rfl⟩ (fun _ _ _ hv => hv.elim) (fun E h9 n9 hx => ?_)
    obtain ⟨rfl, rfl, rfl⟩ := hx
    refine mt_out rfl ?_ (Nat.le_of_ble_eq_true rfl) (Nat.le_of_ble_eq_true rfl)
    exact ⟨rfl, by first | exact inN_neg (by assumption) | exact inN_big (by assumption) | (rw [q0]; exact inN_0), rfl, rfl⟩
  · refine mt_iload_n dX2_demandPlaceWithNext_4 rfl ?_
    refine mt_aload_n dX2_demandPlaceWithNext_5 rfl rfl ?_
    refine mt_getfield mKX1 (i := 3) (by decide) mw_76 dX2_demandPlaceWithNext_6 ea_1 rfl ?_
    by_cases q0 : xs.length = 0
    · refine mt_iconst dX2_demandPlaceWithNext_9 (v := nI 1) rfl ?_
      refine mp_isub dX2_demandPlaceWithNext_10 (v := -1) (by rw [q0]; rfl) ?_
      refine mt_icmp_ge dX2_demandPlaceWithNext_11 (tgt := 18) rfl (fun q7 => ?_) (fun q7 => ?_)
      · have q7 := Int32.not_lt.mpr q7
        refine mt_iconst dX2_demandPlaceWithNext_18 (v := nI 0) rfl ?_
        refine mt_callS (N := mX2_demandWithin) (Rc := rX2_demandWithin) (As := [.int (nI 0)]) (st := []) dX2_demandPlaceWithNext_19 (kX2_demandWithin_f hl) sX2_demandWithin mw_460 rfl (Nat.le_of_ble_eq_true rfl) ⟨⟨Nat.le_of_ble_eq_true rfl, Nat.le_of_ble_eq_true rfl⟩, Nat.le_of_ble_eq_true rfl, Nat.le_of_ble_eq_true rfl⟩ (fun _ _ _ hv => hv.elim) (fun E h9 n9 hx => ?_)
        obtain ⟨rfl, rfl, rfl⟩ := hx
        refine mt_out rfl ?_ (Nat.le_of_ble_eq_true rfl) (Nat.le_of_ble_eq_true rfl)
        exact ⟨rfl, by first | exact inN_neg (by assumption) | exact inN_big (by assumption) | (rw [q0]; exact inN_0), rfl, rfl⟩
      · have q7 := Int32.not_le.mp q7
        refine mt_iconst dX2_demandPlaceWithNext_14 (v := nI 1) rfl ?_
        refine mt_goto dX2_demandPlaceWithNext_15 (tgt := 19) rfl ?_
        refine mt_callS (N := mX2_demandWithin) (Rc := rX2_demandWithin) (As := [.int (nI 1)]) (st := []) dX2_demandPlaceWithNext_19 (kX2_demandWithin_t hl) sX2_demandWithin mw_460 rfl (Nat.le_of_ble_eq_true rfl) ⟨⟨Nat.le_of_ble_eq_true rfl, Nat.le_of_ble_eq_true rfl⟩, Nat.le_of_ble_eq_true rfl, Nat.le_of_ble_eq_true rfl⟩ (fun v12 h13 n14 c15 => ?_) (fun _ _ _ hx => hx.elim)
        obtain ⟨c15a, c15b, c15c⟩ := c15
        rw [c15a, c15b, c15c]
        show mT _ _ _ _ 22 [.ref a, .int place] [] _ _ _ _
        refine mt_return dX2_demandPlaceWithNext_22 rfl (Nat.le_of_ble_eq_true rfl) (Nat.le_of_ble_eq_true rfl) ?_
        exact (no_m1 q2 q7).elim
    · refine mt_iconst dX2_demandPlaceWithNext_9 (v := nI 1) rfl ?_
      refine mp_isub dX2_demandPlaceWithNext_10 (v := nI (xs.length - 1)) (pk_sub (by omega)) ?_
      refine mt_icmp_ge dX2_demandPlaceWithNext_11 (tgt := 18) rfl (fun q16 => ?_) (fun q16 => ?_)
      · have q16 := Int32.not_lt.mpr q16
        refine mt_iconst dX2_demandPlaceWithNext_18 (v := nI 0) rfl ?_
        refine mt_callS (N := mX2_demandWithin) (Rc := rX2_demandWithin) (As := [.int (nI 0)]) (st := []) dX2_demandPlaceWithNext_19 (kX2_demandWithin_f hl) sX2_demandWithin mw_460 rfl (Nat.le_of_ble_eq_true rfl) ⟨⟨Nat.le_of_ble_eq_true rfl, Nat.le_of_ble_eq_true rfl⟩, Nat.le_of_ble_eq_true rfl, Nat.le_of_ble_eq_true rfl⟩ (fun _ _ _ hv => hv.elim) (fun E h9 n9 hx => ?_)
        obtain ⟨rfl, rfl, rfl⟩ := hx
        refine mt_out rfl ?_ (Nat.le_of_ble_eq_true rfl) (Nat.le_of_ble_eq_true rfl)
        exact ⟨rfl, by first | exact inN_neg (by assumption) | exact inN_big (by assumption) | (rw [q0]; exact inN_0), rfl, rfl⟩
      · have q16 := Int32.not_le.mp q16
        refine mt_iconst dX2_demandPlaceWithNext_14 (v := nI 1) rfl ?_
        refine mt_goto dX2_demandPlaceWithNext_15 (tgt := 19) rfl ?_
        refine mt_callS (N := mX2_demandWithin) (Rc := rX2_demandWithin) (As := [.int (nI 1)]) (st := []) dX2_demandPlaceWithNext_19 (kX2_demandWithin_t hl) sX2_demandWithin mw_460 rfl (Nat.le_of_ble_eq_true rfl) ⟨⟨Nat.le_of_ble_eq_true rfl, Nat.le_of_ble_eq_true rfl⟩, Nat.le_of_ble_eq_true rfl, Nat.le_of_ble_eq_true rfl⟩ (fun v21 h22 n23 c24 => ?_) (fun _ _ _ hx => hx.elim)
        obtain ⟨c24a, c24b, c24c⟩ := c24
        rw [c24a, c24b, c24c]
        show mT _ _ _ _ 22 [.ref a, .int place] [] _ _ _ _
        refine mt_return dX2_demandPlaceWithNext_22 rfl (Nat.le_of_ble_eq_true rfl) (Nat.le_of_ble_eq_true rfl) ?_
        obtain ⟨p, hp, rfl⟩ := inN_mid (k := (xs.length - 1)) (by assumption) (by assumption) (by omega)
        exact ⟨p, hp, rfl, rfl, rfl, rfl⟩
abbrev rX2_done : Room := { frames := 0, cells := 0, slots := 0, locals := 0 }
set_option maxRecDepth 100000 in
set_option maxHeartbeats 2000000 in
theorem kX2_done {l : Launch} (hl : l.stackTraces = false) {h : mH} {n r1 r14 : Nat} {g ac rf kn : Int32} {x : Int32} (C0 : h 0 = .inr (.inr (4, [.ref r1, .ref r14, .int g, .int ac, .int rf, .int kn]))) : mC l mX2_done rX2_done [.ref 0, .int x] h n (fun v h' n' => v = some (.int (x)) ∧ n' = n ∧ h' 0 = .inr (.inr (4, [.ref r1, .ref r14, .int g, .int (ac + nI 1), .int rf, .int kn])) ∧ ∀ j, j ≠ 0 → h' j = h j) (mNX) := by
  refine mm_enter hl (by decide +kernel) rfl rfl rfl (Nat.le_of_ble_eq_true rfl) ?_
  show mT _ _ _ _ 0 [.ref 0, .int x] [] _ _ 0 0
  refine mt_aload_n dX2_done_0 rfl rfl ?_
  refine mt_dup dX2_done_1 rfl ?_
  refine mt_getfield mKX2 (i := 3) (by decide) mw_115 dX2_done_2 C0 rfl ?_
  refine mt_iconst dX2_done_5 (v := nI 1) rfl ?_
  refine mp_iadd dX2_done_6 (v := ac + (nI 1)) rfl ?_
  refine mp_putfield mKX2 (i := 3) (fs' := [.ref r1, .ref r14, .int g, .int (ac + (nI 1)), .int rf, .int kn]) (by decide) mw_115 rfl dX2_done_7 C0 (Nat.le_of_ble_eq_true rfl) rfl rfl (fun h1 e2 f3 => ?_)
  refine mt_iload_n dX2_done_10 rfl ?_
  refine mt_ireturn dX2_done_11 rfl rfl (Nat.le_of_ble_eq_true rfl) (Nat.le_of_ble_eq_true rfl) ?_
  exact ⟨rfl, rfl, e2, fun j hj => f3 j (by omega)⟩
abbrev rX2_refused : Room := { frames := 0, cells := 0, slots := 0, locals := 0 }
set_option maxRecDepth 100000 in
set_option maxHeartbeats 2000000 in
theorem kX2_refused {l : Launch} (hl : l.stackTraces = false) {h : mH} {n r1 r14 : Nat} {g ac rf kn : Int32} (C0 : h 0 = .inr (.inr (4, [.ref r1, .ref r14, .int g, .int ac, .int rf, .int kn]))) : mC l mX2_refused rX2_refused [.ref 0] h n (fun v h' n' => v = some (.int (-9)) ∧ n' = n ∧ h' 0 = .inr (.inr (4, [.ref r1, .ref r14, .int g, .int ac, .int (rf + nI 1), .int kn])) ∧ ∀ j, j ≠ 0 → h' j = h j) (mNX) := by
  refine mm_enter hl (by decide +kernel) rfl rfl rfl (Nat.le_of_ble_eq_true rfl) ?_
  show mT _ _ _ _ 0 [.ref 0] [] _ _ 0 0
  refine mt_aload_n dX2_refused_0 rfl rfl ?_
  refine mt_dup dX2_refused_1 rfl ?_
  refine mt_getfield mKX2 (i := 4) (by decide) mw_116 dX2_refused_2 C0 rfl ?_
  refine mt_iconst dX2_refused_5 (v := nI 1) rfl ?_
  refine mp_iadd dX2_refused_6 (v := rf + (nI 1)) rfl ?_
  refine mp_putfield mKX2 (i := 4) (fs' := [.ref r1, .ref r14, .int g, .int ac, .int (rf + (nI 1)), .int kn]) (by decide) mw_116 rfl dX2_refused_7 C0 (Nat.le_of_ble_eq_true rfl) rfl rfl (fun h1 e2 f3 => ?_)
  refine mt_bipush dX2_refused_10 (v := -9) (by decide) ?_
  refine mt_ireturn dX2_refused_12 rfl rfl (Nat.le_of_ble_eq_true rfl) (Nat.le_of_ble_eq_true rfl) ?_
  exact ⟨rfl, rfl, e2, fun j hj => f3 j (by omega)⟩
abbrev rX2_nextStamp : Room := { frames := 0, cells := 0, slots := 0, locals := 0 }
set_option maxRecDepth 100000 in
set_option maxHeartbeats 2000000 in
theorem kX2_nextStamp {l : Launch} (hl : l.stackTraces = false) {h : mH} {n r1 r14 : Nat} {g ac rf kn : Int32} (C0 : h 0 = .inr (.inr (4, [.ref r1, .ref r14, .int g, .int ac, .int rf, .int kn]))) : mC l mX2_nextStamp rX2_nextStamp [.ref 0] h n (fun v h' n' => v = some (.int (g)) ∧ n' = n ∧ h' 0 = .inr (.inr (4, [.ref r1, .ref r14, .int (g + nI 1), .int ac, .int rf, .int kn])) ∧ ∀ j, j ≠ 0 → h' j = h j) (mNX) := by
  refine mm_enter hl (by decide +kernel) rfl rfl rfl (Nat.le_of_ble_eq_true rfl) ?_
  show mT _ _ _ _ 0 [.ref 0, .double 0] [] _ _ 0 0
  refine mt_aload_n dX2_nextStamp_0 rfl rfl ?_
  refine mt_getfield mKX2 (i := 2) (by decide) mw_114 dX2_nextStamp_1 C0 rfl ?_
  refine mp_istore_n dX2_nextStamp_4 (ls' := [.ref 0, .int g]) rfl (by decide) rfl ?_
  refine mt_aload_n dX2_nextStamp_5 rfl rfl ?_
  refine mt_dup dX2_nextStamp_6 rfl ?_
  refine mt_getfield mKX2 (i := 2) (by decide) mw_114 dX2_nextStamp_7 C0 rfl ?_
  refine mt_iconst dX2_nextStamp_10 (v := nI 1) rfl ?_
  refine mp_iadd dX2_nextStamp_11 (v := g + (nI 1)) rfl ?_
  refine mp_putfield mKX2 (i := 2) (fs' := [.ref r1, .ref r14, .int (g + (nI 1)), .int ac, .int rf, .int kn]) (by decide) mw_114 rfl dX2_nextStamp_12 C0 (Nat.le_of_ble_eq_true rfl) rfl rfl (fun h1 e2 f3 => ?_)
  refine mt_iload_n dX2_nextStamp_15 rfl ?_
  refine mt_ireturn dX2_nextStamp_16 rfl rfl (Nat.le_of_ble_eq_true rfl) (Nat.le_of_ble_eq_true rfl) ?_
  exact ⟨rfl, rfl, e2, fun j hj => f3 j (by omega)⟩
abbrev rX2_stampOfNew : Room := { frames := 1, cells := 0, slots := 0, locals := 21 }
set_option maxRecDepth 100000 in
set_option maxHeartbeats 2000000 in
theorem kX2_stampOfNew {l : Launch} (hl : l.stackTraces = false) {h : mH} {n r1 r14 : Nat} {g ac rf kn : Int32} {a k s : Nat} {b : Bool} {z : Int32} (C0 : h 0 = .inr (.inr (4, [.ref r1, .ref r14, .int g, .int ac, .int rf, .int kn]))) (H : h a = .inr (.inr (3, [.ref k, .ref s, .int (mb b), .int z]))) : mC l mX2_stampOfNew rX2_stampOfNew [.ref 0, .ref a] h n (fun v h' n' => v = some (.int (nst b g)) ∧ n' = n ∧ h' 0 = .inr (.inr (4, [.ref r1, .ref r14, .int (ngv b g), .int ac, .int rf, .int kn])) ∧ ∀ j, j ≠ 0 → h' j = h j) (mNX) := by
  refine mm_enter hl (by decide +kernel) rfl rfl rfl (Nat.le_of_ble_eq_true rfl) ?_
  show mT _ _ _ _ 0 [.ref 0, .ref a] [] _ _ 0 0
  refine mt_aload_n dX2_stampOfNew_0 rfl rfl ?_
  refine mt_getfield mKX1 (i := 2) (by decide) mw_74 dX2_stampOfNew_1 H rfl ?_
  refine mt_if_eq dX2_stampOfNew_4 (tgt := 14) rfl (fun q1 => ?_) (fun q1 => ?_)
  · have q1 : b = false := mb_0.mp q1
    refine mt_iconst dX2_stampOfNew_14 (v := -1) rfl ?_
    refine mt_ireturn dX2_stampOfNew_15 rfl rfl (Nat.le_of_ble_eq_true rfl) (Nat.le_of_ble_eq_true rfl) ?_
    exact ⟨by rw [q1]; rfl, rfl, by rw [q1]; exact C0, fun _ _ => rfl⟩
  · have q1 : b = true := mb_1.mp q1
    refine mt_aload_n dX2_stampOfNew_7 rfl rfl ?_
    refine mt_callV (N := mX2_nextStamp) (Rc := rX2_nextStamp) (As := []) (st := []) dX2_stampOfNew_8 (kX2_nextStamp hl C0) sX2_nextStamp mw_417 mKX2 rfl C0 rfl (Nat.le_of_ble_eq_true rfl) ⟨⟨Nat.le_of_ble_eq_true rfl, Nat.le_of_ble_eq_true rfl⟩, Nat.le_of_ble_eq_true rfl, Nat.le_of_ble_eq_true rfl⟩ (fun v2 h3 n4 c5 => ?_) (fun _ _ _ hx => hx.elim)
    obtain ⟨c5a, c5b, c5c, c5d⟩ := c5
    rw [c5a, c5b]
    show mT _ _ _ _ 11 [.ref 0, .ref a] [.int g] _ _ _ _
    refine mt_goto dX2_stampOfNew_11 (tgt := 15) rfl ?_
    refine mt_ireturn dX2_stampOfNew_15 rfl rfl (Nat.le_of_ble_eq_true rfl) (Nat.le_of_ble_eq_true rfl) ?_
    exact ⟨by rw [q1]; rfl, rfl, by rw [q1]; exact c5c, fun j hj => c5d j (by omega)⟩

/-! ===== the class: acts ===== -/
/-- from .. to within a row of L -/
def dKeep (S : cS) (L : Nat) (x y : Int32) (f : Nat → Nat → Nat × Value × cS) : Nat × Value × cS := if x < 0 ∨ y < x ∨ nI L < y then (1, .null, S) else f x.toNatClampNeg y.toNatClampNeg
theorem keep_in {L : Nat} {x y : Int32} (h1 : ¬ x < 0) (h2 : ¬ y < x) (h3 : ¬ nI L < y) (hL : L < 2 ^ 30) : ∃ p, p < L + 1 ∧ ∃ t, t < L + 1 ∧ p ≤ t ∧ x = nI p ∧ y = nI t := by
  obtain ⟨p, hp, rfl⟩ := nI_of h1
  have h4 : ¬ y < 0 := fun z => h2 (by
    rw [Int32.lt_iff_toInt_lt] at *
    have e0 : (0 : Int32).toInt = 0 := by decide
    have e1 := nI_toInt hp
    omega)
  obtain ⟨t, ht, rfl⟩ := nI_of h4
  have h5 := (not_congr (nI_ltI ht hp)).mp h2
  have h6 := (not_congr (nI_ltI (by omega) ht)).mp h3
  exact ⟨p, by omega, t, by omega, by omega, rfl, rfl⟩
theorem keep_pos {S : cS} {L p t : Nat} {f : Nat → Nat → Nat × Value × cS} (hpt : p ≤ t) (ht : t < L + 1) (hL : L < 2 ^ 30) : dKeep S L (nI p) (nI t) f = f p t := by
  unfold dKeep
  rw [if_neg, nI_clamp (by omega), nI_clamp (by omega)]
  rintro (h | h | h)
  · exact nI_pos (by omega) h
  · exact nI_nlt hpt (by omega) h
  · exact nI_nlt (by omega) (by omega) h
theorem keep_neg {S : cS} {L : Nat} {x y : Int32} {f : Nat → Nat → Nat × Value × cS} (h : x < 0 ∨ y < x ∨ nI L < y) : dKeep S L x y f = (1, .null, S) := if_pos h
def sp_clear (S : cS) (row : Int32) : Nat × Value × cS := dAt S 4 row fun r => (0, .int (nI (S.1 r).length), cAct (cSet S r []))
abbrev rX2_clear : Room := { frames := 7, cells := 1, slots := 6, locals := 111 }
set_option maxRecDepth 100000 in
set_option maxHeartbeats 2000000 in
theorem kX2_clear {l : Launch} (hl : l.stackTraces = false) {h : mH} {n : Nat} {S : cS} {row : Int32} (C : cAt h S) : mC l mX2_clear rX2_clear [.ref 0, .int row] h n (cOk (sp_clear S row) h n) (cNo (sp_clear S row).1 h n) := by
  obtain ⟨C0, ⟨cg, C1, C1g⟩, C14, CR, ⟨zs15, HK15⟩, ⟨zs18, HK18⟩, ⟨zs21, HK21⟩, ⟨zs24, HK24⟩⟩ := id C
  refine mm_enter hl (by decide +kernel) rfl rfl rfl (Nat.le_of_ble_eq_true rfl) ?_
  show mT _ _ _ _ 0 [.ref 0, .int row, .double 0, .double 0] [] _ _ 0 0
  refine mt_aload_n dX2_clear_0 rfl rfl ?_
  refine mt_iload_n dX2_clear_1 rfl ?_
  refine mt_callV (N := mX2_rowOf) (Rc := rX2_rowOf) (As := [.int row]) (st := []) dX2_clear_2 (kX2_rowOf hl C) sX2_rowOf mw_230 mKX2 rfl C0 rfl (Nat.le_of_ble_eq_true rfl) ⟨⟨Nat.le_of_ble_eq_true rfl, Nat.le_of_ble_eq_true rfl⟩, Nat.le_of_ble_eq_true rfl, Nat.le_of_ble_eq_true rfl⟩ (fun v1 h2 n3 c4 => ?_) (fun E h9 n9 hx => mt_out rfl (by obtain ⟨rfl, hq, rfl, rfl⟩ := hx; exact cNo.i (by simp only [sp_clear, dAt_n hq])) (Nat.le_of_ble_eq_true rfl) (Nat.le_of_ble_eq_true rfl))
  obtain ⟨r5, hr5, rfl, c4a, c4b, c4c⟩ := c4
  rw [c4a, c4b, c4c]
  have hLr5 := (CR r5 hr5).len
  show mT _ _ _ _ 5 [.ref 0, .int (nI r5), .double 0, .double 0] [.ref (2 + 3 * r5)] _ _ _ _
  refine mp_astore_n dX2_clear_5 (ls' := [.ref 0, .int (nI r5), .ref (2 + 3 * r5), .double 0]) rfl rfl (by decide) rfl ?_
  refine mt_aload_n dX2_clear_6 rfl rfl ?_
  obtain ⟨f_6, g_6, ea_6, ek_6, es_6, ql_6, qr_6, qk_6, qt_6⟩ := id CR r5 (by omega)
  refine mt_getfield mKX1 (i := 3) (by decide) mw_76 dX2_clear_7 ea_6 rfl ?_
  refine mp_istore_n dX2_clear_10 (ls' := [.ref 0, .int (nI r5), .ref (2 + 3 * r5), .int (nI ((S.1 r5).length))]) rfl (by decide) rfl ?_
  refine mt_aload_n dX2_clear_11 rfl rfl ?_
  have H7 : rowAt h (2 + 3 * r5) (rroom r5) (mb (decide (r5 < 2))) (S.1 r5) := CR r5 (by omega)
  refine mt_callV (N := mX1_empty) (Rc := rX1_empty) (As := []) (st := []) dX2_clear_12 (kX1_empty hl H7) sX1_empty mw_407 mKX1 rfl ea_6 rfl (Nat.le_of_ble_eq_true rfl) ⟨⟨Nat.le_of_ble_eq_true rfl, Nat.le_of_ble_eq_true rfl⟩, Nat.le_of_ble_eq_true rfl, Nat.le_of_ble_eq_true rfl⟩ (fun v8 h9 n10 c11 => ?_) (fun _ _ _ hx => hx.elim)
  obtain ⟨c11a, c11b, c11c, c11d⟩ := c11
  rw [c11a, c11b]
  show mT _ _ _ _ 15 [.ref 0, .int (nI r5), .ref (2 + 3 * r5), .int (nI ((S.1 r5).length))] [] _ _ _ _
  refine mt_aload_n dX2_clear_15 rfl rfl ?_
  refine mt_iload_n dX2_clear_16 rfl ?_
  refine mt_callV (N := mX2_done) (Rc := rX2_done) (As := [.int (nI ((S.1 r5).length))]) (st := []) dX2_clear_17 (kX2_done hl ((c11d (0) (by omega)).trans C0)) sX2_done mw_430 mKX2 rfl ((c11d (0) (by omega)).trans C0) rfl (Nat.le_of_ble_eq_true rfl) ⟨⟨Nat.le_of_ble_eq_true rfl, Nat.le_of_ble_eq_true rfl⟩, Nat.le_of_ble_eq_true rfl, Nat.le_of_ble_eq_true rfl⟩ (fun v12 h13 n14 c15 => ?_) (fun _ _ _ hx => hx.elim)
  obtain ⟨c15a, c15b, c15c, c15d⟩ := c15
  rw [c15a, c15b]
  show mT _ _ _ _ 20 [.ref 0, .int (nI r5), .ref (2 + 3 * r5), .int (nI ((S.1 r5).length))] [.int (nI ((S.1 r5).length))] _ _ _ _
  refine mt_ireturn dX2_clear_20 rfl rfl (Nat.le_of_ble_eq_true rfl) (Nat.le_of_ble_eq_true rfl) ?_
  exact cOk.of (x := .int (nI ((S.1 r5).length))) (S' := (fun k => if k = r5 then [] else S.1 k, S.2.1, S.2.2.1 + nI 1, S.2.2.2.1, S.2.2.2.2)) (by simp only [sp_clear, dAt_s hr5 (by decide)] <;> rfl) rfl rfl ⟨c15c, ⟨cg, (c15d (1) (by omega)).trans ((c11d (1) (by omega)).trans C1), C1g⟩, (c15d (14) (by omega)).trans ((c11d (14) (by omega)).trans C14), cRows CR (by omega) ((c11c).fr (fun j j1 j2 => c15d j (by omega))) (fun j j1 j2 j3 => (c15d j (by omega)).trans (c11d j (by omega))), ⟨_, ((HK15).fr (fun j j1 j2 => c11d j (by omega))).fr (fun j j1 j2 => c15d j (by omega))⟩, ⟨_, ((HK18).fr (fun j j1 j2 => c11d j (by omega))).fr (fun j j1 j2 => c15d j (by omega))⟩, ⟨_, ((HK21).fr (fun j j1 j2 => c11d j (by omega))).fr (fun j j1 j2 => c15d j (by omega))⟩, ⟨_, ((HK24).fr (fun j j1 j2 => c11d j (by omega))).fr (fun j j1 j2 => c15d j (by omega))⟩⟩ (fun j hj => (c15d j (by omega)).trans (c11d j (by omega)))
def sp_drop (S : cS) (row : Int32) (place : Int32) : Nat × Value × cS := dAt S 4 row fun r => dAt S (S.1 r).length place fun p => (0, .int (xk (S.1 r) p), cAct (cSet S r (span (S.1 r) 0 p ++ span (S.1 r) (p + 1) (S.1 r).length)))
abbrev rX2_drop : Room := { frames := 8, cells := 2, slots := 12, locals := 131 }
set_option maxRecDepth 100000 in
set_option maxHeartbeats 2000000 in
theorem kX2_drop {l : Launch} (hl : l.stackTraces = false) {h : mH} {n : Nat} {S : cS} {row : Int32} {place : Int32} (C : cAt h S) : mC l mX2_drop rX2_drop [.ref 0, .int row, .int place] h n (cOk (sp_drop S row place) h n) (cNo (sp_drop S row place).1 h n) := by
  obtain ⟨C0, ⟨cg, C1, C1g⟩, C14, CR, ⟨zs15, HK15⟩, ⟨zs18, HK18⟩, ⟨zs21, HK21⟩, ⟨zs24, HK24⟩⟩ := id C
  refine mm_enter hl (by decide +kernel) rfl rfl rfl (Nat.le_of_ble_eq_true rfl) ?_
  show mT _ _ _ _ 0 [.ref 0, .int row, .int place, .double 0, .double 0, .double 0] [] _ _ 0 0
  refine mt_aload_n dX2_drop_0 rfl rfl ?_
  refine mt_iload_n dX2_drop_1 rfl ?_
  refine mt_callV (N := mX2_rowOf) (Rc := rX2_rowOf) (As := [.int row]) (st := []) dX2_drop_2 (kX2_rowOf hl C) sX2_rowOf mw_230 mKX2 rfl C0 rfl (Nat.le_of_ble_eq_true rfl) ⟨⟨Nat.le_of_ble_eq_true rfl, Nat.le_of_ble_eq_true rfl⟩, Nat.le_of_ble_eq_true rfl, Nat.le_of_ble_eq_true rfl⟩ (fun v1 h2 n3 c4 => ?_) (fun E h9 n9 hx => mt_out rfl (by obtain ⟨rfl, hq, rfl, rfl⟩ := hx; exact cNo.i (by simp only [sp_drop, dAt_n hq])) (Nat.le_of_ble_eq_true rfl) (Nat.le_of_ble_eq_true rfl))
  obtain ⟨r5, hr5, rfl, c4a, c4b, c4c⟩ := c4
  rw [c4a, c4b, c4c]
  have hLr5 := (CR r5 hr5).len
  show mT _ _ _ _ 5 [.ref 0, .int (nI r5), .int place, .double 0, .double 0, .double 0] [.ref (2 + 3 * r5)] _ _ _ _
  refine mp_astore_n dX2_drop_5 (ls' := [.ref 0, .int (nI r5), .int place, .ref (2 + 3 * r5), .double 0, .double 0]) rfl rfl (by decide) rfl ?_
  refine mt_aload_n dX2_drop_6 rfl rfl ?_
  refine mt_iload_n dX2_drop_7 rfl ?_
  have H6 : rowAt h (2 + 3 * r5) (rroom r5) (mb (decide (r5 < 2))) (S.1 r5) := CR r5 (by omega)
  refine mt_callS (N := mX2_demandPlace) (Rc := rX2_demandPlace) (As := [.ref (2 + 3 * r5), .int place]) (st := []) dX2_drop_8 (kX2_demandPlace hl H6) sX2_demandPlace mw_457 rfl (Nat.le_of_ble_eq_true rfl) ⟨⟨Nat.le_of_ble_eq_true rfl, Nat.le_of_ble_eq_true rfl⟩, Nat.le_of_ble_eq_true rfl, Nat.le_of_ble_eq_true rfl⟩ (fun v7 h8 n9 c10 => ?_) (fun E h9 n9 hx => mt_out rfl (by obtain ⟨rfl, hq, rfl, rfl⟩ := hx; exact cNo.i (by simp only [sp_drop, dAt_n hq, dAt_s hr5 (by decide)])) (Nat.le_of_ble_eq_true rfl) (Nat.le_of_ble_eq_true rfl))
  obtain ⟨p11, hp11, rfl, c10a, c10b, c10c⟩ := c10
  rw [c10a, c10b, c10c]
  have hLp11 := (H6).len
  show mT _ _ _ _ 11 [.ref 0, .int (nI r5), .int (nI p11), .ref (2 + 3 * r5), .double 0, .double 0] [] _ _ _ _
  refine mt_aload_n dX2_drop_11 rfl rfl ?_
  obtain ⟨f_12, g_12, ea_12, ek_12, es_12, ql_12, qr_12, qk_12, qt_12⟩ := id H6
  refine mt_getfield mKX1 (i := 0) (by decide) mw_68 dX2_drop_12 ea_12 rfl ?_
  refine mt_iload_n dX2_drop_15 rfl ?_
  refine mp_iaload dX2_drop_16 ek_12 rfl (by omega) (by omega) (v := xk (S.1 r5) p11) (qk_12 _ (by omega)) ?_
  refine mp_istore dX2_drop_17 (ls' := [.ref 0, .int (nI r5), .int (nI p11), .ref (2 + 3 * r5), .int (xk (S.1 r5) p11), .double 0]) rfl (by decide) rfl ?_
  refine mt_aload_n dX2_drop_19 rfl rfl ?_
  refine mt_getfield mKX2 (i := 1) (by decide) mw_113 dX2_drop_20 C0 rfl ?_
  refine mt_getfield mKX0 (i := 2) (by decide) mw_101 dX2_drop_23 C14 rfl ?_
  refine mp_astore dX2_drop_26 (ls' := [.ref 0, .int (nI r5), .int (nI p11), .ref (2 + 3 * r5), .int (xk (S.1 r5) p11), .ref 21]) rfl rfl (by decide) rfl ?_
  refine mt_aload dX2_drop_28 rfl rfl ?_
  obtain ⟨f_17, g_17, ea_17, ek_17, es_17, ql_17, qr_17, qk_17, qt_17⟩ := id HK21
  refine mt_callV (N := mX1_empty) (Rc := rX1_empty) (As := []) (st := []) dX2_drop_30 (kX1_empty hl HK21) sX1_empty mw_407 mKX1 rfl ea_17 rfl (Nat.le_of_ble_eq_true rfl) ⟨⟨Nat.le_of_ble_eq_true rfl, Nat.le_of_ble_eq_true rfl⟩, Nat.le_of_ble_eq_true rfl, Nat.le_of_ble_eq_true rfl⟩ (fun v13 h14 n15 c16 => ?_) (fun _ _ _ hx => hx.elim)
  obtain ⟨c16a, c16b, c16c, c16d⟩ := c16
  rw [c16a, c16b]
  show mT _ _ _ _ 33 [.ref 0, .int (nI r5), .int (nI p11), .ref (2 + 3 * r5), .int (xk (S.1 r5) p11), .ref 21] [] _ _ _ _
  refine mt_aload dX2_drop_33 rfl rfl ?_
  refine mt_aload_n dX2_drop_35 rfl rfl ?_
  refine mt_iconst dX2_drop_36 (v := nI 0) rfl ?_
  refine mt_iload_n dX2_drop_37 rfl ?_
  have H18 : rowAt h14 (2 + 3 * r5) (rroom r5) (mb (decide (r5 < 2))) (S.1 r5) := (H6).fr (fun j j1 j2 => c16d j (by omega))
  obtain ⟨f_23, g_23, ea_23, ek_23, es_23, ql_23, qr_23, qk_23, qt_23⟩ := id c16c
  refine mt_callV (N := mX1_appendSpan) (Rc := rX1_appendSpan) (As := [.ref (2 + 3 * r5), .int (nI 0), .int (nI p11)]) (st := []) dX2_drop_38 (kX1_appendSpan hl c16c H18 (by omega) (by omega) (by first | omega | assumption | (simp only [List.length_append, List.length_cons, List.length_nil, span_len, Nat.sub_zero] at *; omega)) (by omega)) sX1_appendSpan mw_211 mKX1 rfl ea_23 rfl (Nat.le_of_ble_eq_true rfl) ⟨⟨Nat.le_of_ble_eq_true rfl, Nat.le_of_ble_eq_true rfl⟩, Nat.le_of_ble_eq_true rfl, Nat.le_of_ble_eq_true rfl⟩ (fun v19 h20 n21 c22 => ?_) (fun _ _ _ hx => hx.elim)
  have sl42 := span_len (ys := S.1 r5) (i := 0) (e := p11) (by omega)
  obtain ⟨c22a, c22b, c22c, c22d⟩ := c22
  rw [c22a, c22b]
  show mT _ _ _ _ 41 [.ref 0, .int (nI r5), .int (nI p11), .ref (2 + 3 * r5), .int (xk (S.1 r5) p11), .ref 21] [] _ _ _ _
  refine mt_aload dX2_drop_41 rfl rfl ?_
  refine mt_aload_n dX2_drop_43 rfl rfl ?_
  refine mt_iload_n dX2_drop_44 rfl ?_
  refine mt_iconst dX2_drop_45 (v := nI 1) rfl ?_
  refine mp_iadd dX2_drop_46 (v := nI (p11 + 1)) (nI_add _ _) ?_
  refine mt_aload_n dX2_drop_47 rfl rfl ?_
  refine mt_getfield mKX1 (i := 3) (by decide) mw_76 dX2_drop_48 ((c22d (2 + 3 * r5) (by omega)).trans ((c16d (2 + 3 * r5) (by omega)).trans ea_12)) rfl ?_
  have H24 : rowAt h20 (2 + 3 * r5) (rroom r5) (mb (decide (r5 < 2))) (S.1 r5) := (H18).fr (fun j j1 j2 => c22d j (by omega))
  obtain ⟨f_29, g_29, ea_29, ek_29, es_29, ql_29, qr_29, qk_29, qt_29⟩ := id c22c
  refine mt_callV (N := mX1_appendSpan) (Rc := rX1_appendSpan) (As := [.ref (2 + 3 * r5), .int (nI (p11 + 1)), .int (nI ((S.1 r5).length))]) (st := []) dX2_drop_51 (kX1_appendSpan hl c22c H24 (by omega) (by omega) (by first | omega | assumption | (simp only [List.length_append, List.length_cons, List.length_nil, span_len, Nat.sub_zero] at *; omega)) (by omega)) sX1_appendSpan mw_211 mKX1 rfl ea_29 rfl (Nat.le_of_ble_eq_true rfl) ⟨⟨Nat.le_of_ble_eq_true rfl, Nat.le_of_ble_eq_true rfl⟩, Nat.le_of_ble_eq_true rfl, Nat.le_of_ble_eq_true rfl⟩ (fun v25 h26 n27 c28 => ?_) (fun _ _ _ hx => hx.elim)
  have sl56 := span_len (ys := S.1 r5) (i := p11 + 1) (e := (S.1 r5).length) (by omega)
  obtain ⟨c28a, c28b, c28c, c28d⟩ := c28
  rw [c28a, c28b]
  show mT _ _ _ _ 54 [.ref 0, .int (nI r5), .int (nI p11), .ref (2 + 3 * r5), .int (xk (S.1 r5) p11), .ref 21] [] _ _ _ _
  refine mt_aload_n dX2_drop_54 rfl rfl ?_
  refine mt_aload dX2_drop_55 rfl rfl ?_
  have H30 : rowAt h26 (2 + 3 * r5) (rroom r5) (mb (decide (r5 < 2))) (S.1 r5) := (H24).fr (fun j j1 j2 => c28d j (by omega))
  refine mt_callV (N := mX1_become) (Rc := rX1_become) (As := [.ref 21]) (st := []) dX2_drop_57 (kX1_become hl H30 c28c (by omega) (by first | omega | assumption | (simp only [List.length_append, List.length_cons, List.length_nil, span_len, Nat.sub_zero] at *; omega))) sX1_become mw_210 mKX1 rfl ((c28d (2 + 3 * r5) (by omega)).trans ((c22d (2 + 3 * r5) (by omega)).trans ((c16d (2 + 3 * r5) (by omega)).trans ea_12))) rfl (Nat.le_of_ble_eq_true rfl) ⟨⟨Nat.le_of_ble_eq_true rfl, Nat.le_of_ble_eq_true rfl⟩, Nat.le_of_ble_eq_true rfl, Nat.le_of_ble_eq_true rfl⟩ (fun v31 h32 n33 c34 => ?_) (fun _ _ _ hx => hx.elim)
  obtain ⟨c34a, c34b, c34c, c34d⟩ := c34
  rw [c34a, c34b]
  show mT _ _ _ _ 60 [.ref 0, .int (nI r5), .int (nI p11), .ref (2 + 3 * r5), .int (xk (S.1 r5) p11), .ref 21] [] _ _ _ _
  refine mt_aload_n dX2_drop_60 rfl rfl ?_
  refine mt_iload dX2_drop_61 rfl ?_
  refine mt_callV (N := mX2_done) (Rc := rX2_done) (As := [.int (xk (S.1 r5) p11)]) (st := []) dX2_drop_63 (kX2_done hl ((c34d (0) (by omega)).trans ((c28d (0) (by omega)).trans ((c22d (0) (by omega)).trans ((c16d (0) (by omega)).trans C0))))) sX2_done mw_430 mKX2 rfl ((c34d (0) (by omega)).trans ((c28d (0) (by omega)).trans ((c22d (0) (by omega)).trans ((c16d (0) (by omega)).trans C0)))) rfl (Nat.le_of_ble_eq_true rfl) ⟨⟨Nat.le_of_ble_eq_true rfl, Nat.le_of_ble_eq_true rfl⟩, Nat.le_of_ble_eq_true rfl, Nat.le_of_ble_eq_true rfl⟩ (fun v35 h36 n37 c38 => ?_) (fun _ _ _ hx => hx.elim)
  obtain ⟨c38a, c38b, c38c, c38d⟩ := c38
  rw [c38a, c38b]
  show mT _ _ _ _ 66 [.ref 0, .int (nI r5), .int (nI p11), .ref (2 + 3 * r5), .int (xk (S.1 r5) p11), .ref 21] [.int (xk (S.1 r5) p11)] _ _ _ _
  refine mt_ireturn dX2_drop_66 rfl rfl (Nat.le_of_ble_eq_true rfl) (Nat.le_of_ble_eq_true rfl) ?_
  exact cOk.of (x := .int (xk (S.1 r5) p11)) (S' := (fun k => if k = r5 then (([]) ++ span (S.1 r5) 0 p11) ++ span (S.1 r5) (p11 + 1) ((S.1 r5).length) else S.1 k, S.2.1, S.2.2.1 + nI 1, S.2.2.2.1, S.2.2.2.2)) (by simp only [sp_drop, dAt_s hr5 (by decide), dAt_s hp11 (by omega)] <;> rfl) rfl rfl ⟨c38c, ⟨cg, (c38d (1) (by omega)).trans ((c34d (1) (by omega)).trans ((c28d (1) (by omega)).trans ((c22d (1) (by omega)).trans ((c16d (1) (by omega)).trans C1)))), C1g⟩, (c38d (14) (by omega)).trans ((c34d (14) (by omega)).trans ((c28d (14) (by omega)).trans ((c22d (14) (by omega)).trans ((c16d (14) (by omega)).trans C14)))), cRows CR (by omega) ((c34c).fr (fun j j1 j2 => c38d j (by omega))) (fun j j1 j2 j3 => (c38d j (by omega)).trans ((c34d j (by omega)).trans ((c28d j (by omega)).trans ((c22d j (by omega)).trans (c16d j (by omega)))))), ⟨_, (((((HK15).fr (fun j j1 j2 => c16d j (by omega))).fr (fun j j1 j2 => c22d j (by omega))).fr (fun j j1 j2 => c28d j (by omega))).fr (fun j j1 j2 => c34d j (by omega))).fr (fun j j1 j2 => c38d j (by omega))⟩, ⟨_, (((((HK18).fr (fun j j1 j2 => c16d j (by omega))).fr (fun j j1 j2 => c22d j (by omega))).fr (fun j j1 j2 => c28d j (by omega))).fr (fun j j1 j2 => c34d j (by omega))).fr (fun j j1 j2 => c38d j (by omega))⟩, ⟨_, ((c28c).fr (fun j j1 j2 => c34d j (by omega))).fr (fun j j1 j2 => c38d j (by omega))⟩, ⟨_, (((((HK24).fr (fun j j1 j2 => c16d j (by omega))).fr (fun j j1 j2 => c22d j (by omega))).fr (fun j j1 j2 => c28d j (by omega))).fr (fun j j1 j2 => c34d j (by omega))).fr (fun j j1 j2 => c38d j (by omega))⟩⟩ (fun j hj => (c38d j (by omega)).trans ((c34d j (by omega)).trans ((c28d j (by omega)).trans ((c22d j (by omega)).trans (c16d j (by omega))))))
def sp_exchange (S : cS) (row : Int32) (place : Int32) : Nat × Value × cS := dAt S 4 row fun r => dAt S ((S.1 r).length - 1) place fun p => (0, .int (q_wrongerByExchange (S.1 r) p), cAct (cSet S r (swp (S.1 r) p (p + 1))))
abbrev rX2_exchange : Room := { frames := 8, cells := 2, slots := 12, locals := 131 }
set_option maxRecDepth 100000 in
set_option maxHeartbeats 2000000 in
theorem kX2_exchange {l : Launch} (hl : l.stackTraces = false) {h : mH} {n : Nat} {S : cS} {row : Int32} {place : Int32} (C : cAt h S) : mC l mX2_exchange rX2_exchange [.ref 0, .int row, .int place] h n (cOk (sp_exchange S row place) h n) (cNo (sp_exchange S row place).1 h n) := by
  obtain ⟨C0, ⟨cg, C1, C1g⟩, C14, CR, ⟨zs15, HK15⟩, ⟨zs18, HK18⟩, ⟨zs21, HK21⟩, ⟨zs24, HK24⟩⟩ := id C
  refine mm_enter hl (by decide +kernel) rfl rfl rfl (Nat.le_of_ble_eq_true rfl) ?_
  show mT _ _ _ _ 0 [.ref 0, .int row, .int place, .double 0, .double 0] [] _ _ 0 0
  refine mt_aload_n dX2_exchange_0 rfl rfl ?_
  refine mt_iload_n dX2_exchange_1 rfl ?_
  refine mt_callV (N := mX2_rowOf) (Rc := rX2_rowOf) (As := [.int row]) (st := []) dX2_exchange_2 (kX2_rowOf hl C) sX2_rowOf mw_230 mKX2 rfl C0 rfl (Nat.le_of_ble_eq_true rfl) ⟨⟨Nat.le_of_ble_eq_true rfl, Nat.le_of_ble_eq_true rfl⟩, Nat.le_of_ble_eq_true rfl, Nat.le_of_ble_eq_true rfl⟩ (fun v1 h2 n3 c4 => ?_) (fun E h9 n9 hx => mt_out rfl (by obtain ⟨rfl, hq, rfl, rfl⟩ := hx; exact cNo.i (by simp only [sp_exchange, dAt_n hq])) (Nat.le_of_ble_eq_true rfl) (Nat.le_of_ble_eq_true rfl))
  obtain ⟨r5, hr5, rfl, c4a, c4b, c4c⟩ := c4
  rw [c4a, c4b, c4c]
  have hLr5 := (CR r5 hr5).len
  show mT _ _ _ _ 5 [.ref 0, .int (nI r5), .int place, .double 0, .double 0] [.ref (2 + 3 * r5)] _ _ _ _
  refine mp_astore_n dX2_exchange_5 (ls' := [.ref 0, .int (nI r5), .int place, .ref (2 + 3 * r5), .double 0]) rfl rfl (by decide) rfl ?_
  refine mt_aload_n dX2_exchange_6 rfl rfl ?_
  refine mt_iload_n dX2_exchange_7 rfl ?_
  have H6 : rowAt h (2 + 3 * r5) (rroom r5) (mb (decide (r5 < 2))) (S.1 r5) := CR r5 (by omega)
  refine mt_callS (N := mX2_demandPlaceWithNext) (Rc := rX2_demandPlaceWithNext) (As := [.ref (2 + 3 * r5), .int place]) (st := []) dX2_exchange_8 (kX2_demandPlaceWithNext hl H6) sX2_demandPlaceWithNext mw_485 rfl (Nat.le_of_ble_eq_true rfl) ⟨⟨Nat.le_of_ble_eq_true rfl, Nat.le_of_ble_eq_true rfl⟩, Nat.le_of_ble_eq_true rfl, Nat.le_of_ble_eq_true rfl⟩ (fun v7 h8 n9 c10 => ?_) (fun E h9 n9 hx => mt_out rfl (by obtain ⟨rfl, hq, rfl, rfl⟩ := hx; exact cNo.i (by simp only [sp_exchange, dAt_n hq, dAt_s hr5 (by decide)])) (Nat.le_of_ble_eq_true rfl) (Nat.le_of_ble_eq_true rfl))
  obtain ⟨p11, hp11, rfl, c10a, c10b, c10c⟩ := c10
  rw [c10a, c10b, c10c]
  have hLp11 := (H6).len
  show mT _ _ _ _ 11 [.ref 0, .int (nI r5), .int (nI p11), .ref (2 + 3 * r5), .double 0] [] _ _ _ _
  refine mt_aload_n dX2_exchange_11 rfl rfl ?_
  refine mt_iload_n dX2_exchange_12 rfl ?_
  obtain ⟨f_16, g_16, ea_16, ek_16, es_16, ql_16, qr_16, qk_16, qt_16⟩ := id H6
  refine mt_callV (N := mX1_wrongerByExchange) (Rc := rX1_wrongerByExchange) (As := [.int (nI p11)]) (st := []) dX2_exchange_13 (kX1_wrongerByExchange hl H6 (by omega)) sX1_wrongerByExchange mw_488 mKX1 rfl ea_16 rfl (Nat.le_of_ble_eq_true rfl) ⟨⟨Nat.le_of_ble_eq_true rfl, Nat.le_of_ble_eq_true rfl⟩, Nat.le_of_ble_eq_true rfl, Nat.le_of_ble_eq_true rfl⟩ (fun v12 h13 n14 c15 => ?_) (fun _ _ _ hx => hx.elim)
  obtain ⟨c15a, c15b, c15c⟩ := c15
  rw [c15a, c15b, c15c]
  show mT _ _ _ _ 16 [.ref 0, .int (nI r5), .int (nI p11), .ref (2 + 3 * r5), .double 0] [.int (q_wrongerByExchange (S.1 r5) p11)] _ _ _ _
  refine mp_istore dX2_exchange_16 (ls' := [.ref 0, .int (nI r5), .int (nI p11), .ref (2 + 3 * r5), .int (q_wrongerByExchange (S.1 r5) p11)]) rfl (by decide) rfl ?_
  refine mt_aload_n dX2_exchange_18 rfl rfl ?_
  refine mt_iload_n dX2_exchange_19 rfl ?_
  refine mt_iload_n dX2_exchange_20 rfl ?_
  refine mt_iconst dX2_exchange_21 (v := nI 1) rfl ?_
  refine mp_iadd dX2_exchange_22 (v := nI (p11 + 1)) (nI_add _ _) ?_
  refine mt_callV (N := mX1_trade) (Rc := rX1_trade) (As := [.int (nI p11), .int (nI (p11 + 1))]) (st := []) dX2_exchange_23 (kX1_trade hl H6 (by omega) (by omega)) sX1_trade mw_492 mKX1 rfl ea_16 rfl (Nat.le_of_ble_eq_true rfl) ⟨⟨Nat.le_of_ble_eq_true rfl, Nat.le_of_ble_eq_true rfl⟩, Nat.le_of_ble_eq_true rfl, Nat.le_of_ble_eq_true rfl⟩ (fun v17 h18 n19 c20 => ?_) (fun _ _ _ hx => hx.elim)
  obtain ⟨c20a, c20b, c20c, c20d⟩ := c20
  rw [c20a, c20b]
  show mT _ _ _ _ 26 [.ref 0, .int (nI r5), .int (nI p11), .ref (2 + 3 * r5), .int (q_wrongerByExchange (S.1 r5) p11)] [] _ _ _ _
  refine mt_aload_n dX2_exchange_26 rfl rfl ?_
  refine mt_iload dX2_exchange_27 rfl ?_
  refine mt_callV (N := mX2_done) (Rc := rX2_done) (As := [.int (q_wrongerByExchange (S.1 r5) p11)]) (st := []) dX2_exchange_29 (kX2_done hl ((c20d (0) (by omega)).trans C0)) sX2_done mw_430 mKX2 rfl ((c20d (0) (by omega)).trans C0) rfl (Nat.le_of_ble_eq_true rfl) ⟨⟨Nat.le_of_ble_eq_true rfl, Nat.le_of_ble_eq_true rfl⟩, Nat.le_of_ble_eq_true rfl, Nat.le_of_ble_eq_true rfl⟩ (fun v21 h22 n23 c24 => ?_) (fun _ _ _ hx => hx.elim)
  obtain ⟨c24a, c24b, c24c, c24d⟩ := c24
  rw [c24a, c24b]
  show mT _ _ _ _ 32 [.ref 0, .int (nI r5), .int (nI p11), .ref (2 + 3 * r5), .int (q_wrongerByExchange (S.1 r5) p11)] [.int (q_wrongerByExchange (S.1 r5) p11)] _ _ _ _
  refine mt_ireturn dX2_exchange_32 rfl rfl (Nat.le_of_ble_eq_true rfl) (Nat.le_of_ble_eq_true rfl) ?_
  exact cOk.of (x := .int (q_wrongerByExchange (S.1 r5) p11)) (S' := (fun k => if k = r5 then swp (S.1 r5) p11 (p11 + 1) else S.1 k, S.2.1, S.2.2.1 + nI 1, S.2.2.2.1, S.2.2.2.2)) (by simp only [sp_exchange, dAt_s hr5 (by decide), dAt_s hp11 (by omega)] <;> rfl) rfl rfl ⟨c24c, ⟨cg, (c24d (1) (by omega)).trans ((c20d (1) (by omega)).trans C1), C1g⟩, (c24d (14) (by omega)).trans ((c20d (14) (by omega)).trans C14), cRows CR (by omega) ((c20c).fr (fun j j1 j2 => c24d j (by omega))) (fun j j1 j2 j3 => (c24d j (by omega)).trans (c20d j (by omega))), ⟨_, ((HK15).fr (fun j j1 j2 => c20d j (by omega))).fr (fun j j1 j2 => c24d j (by omega))⟩, ⟨_, ((HK18).fr (fun j j1 j2 => c20d j (by omega))).fr (fun j j1 j2 => c24d j (by omega))⟩, ⟨_, ((HK21).fr (fun j j1 j2 => c20d j (by omega))).fr (fun j j1 j2 => c24d j (by omega))⟩, ⟨_, ((HK24).fr (fun j j1 j2 => c20d j (by omega))).fr (fun j j1 j2 => c24d j (by omega))⟩⟩ (fun j hj => (c24d j (by omega)).trans (c20d j (by omega)))
def sp_swap (S : cS) (row : Int32) (place : Int32) (other : Int32) : Nat × Value × cS := dAt S 4 row fun r => dAt S (S.1 r).length place fun p => dAt S (S.1 r).length other fun q => (0, .int (if xk (S.1 r) p = xk (S.1 r) q then nI 0 else nI 1), cAct (cSet S r (swp (S.1 r) p q)))
abbrev rX2_swap : Room := { frames := 8, cells := 3, slots := 18, locals := 131 }
set_option maxRecDepth 100000 in
set_option maxHeartbeats 2000000 in
theorem kX2_swap {l : Launch} (hl : l.stackTraces = false) {h : mH} {n : Nat} {S : cS} {row : Int32} {place : Int32} {other : Int32} (C : cAt h S) : mC l mX2_swap rX2_swap [.ref 0, .int row, .int place, .int other] h n (cOk (sp_swap S row place other) h n) (cNo (sp_swap S row place other).1 h n) := by
  obtain ⟨C0, ⟨cg, C1, C1g⟩, C14, CR, ⟨zs15, HK15⟩, ⟨zs18, HK18⟩, ⟨zs21, HK21⟩, ⟨zs24, HK24⟩⟩ := id C
  refine mm_enter hl (by decide +kernel) rfl rfl rfl (Nat.le_of_ble_eq_true rfl) ?_
  show mT _ _ _ _ 0 [.ref 0, .int row, .int place, .int other, .double 0, .double 0] [] _ _ 0 0
  refine mt_aload_n dX2_swap_0 rfl rfl ?_
  refine mt_iload_n dX2_swap_1 rfl ?_
  refine mt_callV (N := mX2_rowOf) (Rc := rX2_rowOf) (As := [.int row]) (st := []) dX2_swap_2 (kX2_rowOf hl C) sX2_rowOf mw_230 mKX2 rfl C0 rfl (Nat.le_of_ble_eq_true rfl) ⟨⟨Nat.le_of_ble_eq_true rfl, Nat.le_of_ble_eq_true rfl⟩, Nat.le_of_ble_eq_true rfl, Nat.le_of_ble_eq_true rfl⟩ (fun v1 h2 n3 c4 => ?_) (fun E h9 n9 hx => mt_out rfl (by obtain ⟨rfl, hq, rfl, rfl⟩ := hx; exact cNo.i (by simp only [sp_swap, dAt_n hq])) (Nat.le_of_ble_eq_true rfl) (Nat.le_of_ble_eq_true rfl))
  obtain ⟨r5, hr5, rfl, c4a, c4b, c4c⟩ := c4
  rw [c4a, c4b, c4c]
  have hLr5 := (CR r5 hr5).len
  show mT _ _ _ _ 5 [.ref 0, .int (nI r5), .int place, .int other, .double 0, .double 0] [.ref (2 + 3 * r5)] _ _ _ _
  refine mp_astore dX2_swap_5 (ls' := [.ref 0, .int (nI r5), .int place, .int other, .ref (2 + 3 * r5), .double 0]) rfl rfl (by decide) rfl ?_
  refine mt_aload dX2_swap_7 rfl rfl ?_
  refine mt_iload_n dX2_swap_9 rfl ?_
  have H6 : rowAt h (2 + 3 * r5) (rroom r5) (mb (decide (r5 < 2))) (S.1 r5) := CR r5 (by omega)
  refine mt_callS (N := mX2_demandPlace) (Rc := rX2_demandPlace) (As := [.ref (2 + 3 * r5), .int place]) (st := []) dX2_swap_10 (kX2_demandPlace hl H6) sX2_demandPlace mw_457 rfl (Nat.le_of_ble_eq_true rfl) ⟨⟨Nat.le_of_ble_eq_true rfl, Nat.le_of_ble_eq_true rfl⟩, Nat.le_of_ble_eq_true rfl, Nat.le_of_ble_eq_true rfl⟩ (fun v7 h8 n9 c10 => ?_) (fun E h9 n9 hx => mt_out rfl (by obtain ⟨rfl, hq, rfl, rfl⟩ := hx; exact cNo.i (by simp only [sp_swap, dAt_n hq, dAt_s hr5 (by decide)])) (Nat.le_of_ble_eq_true rfl) (Nat.le_of_ble_eq_true rfl))
  obtain ⟨p11, hp11, rfl, c10a, c10b, c10c⟩ := c10
  rw [c10a, c10b, c10c]
  have hLp11 := (H6).len
  show mT _ _ _ _ 13 [.ref 0, .int (nI r5), .int (nI p11), .int other, .ref (2 + 3 * r5), .double 0] [] _ _ _ _
  refine mt_aload dX2_swap_13 rfl rfl ?_
  refine mt_iload_n dX2_swap_15 rfl ?_
  refine mt_callS (N := mX2_demandPlace) (Rc := rX2_demandPlace) (As := [.ref (2 + 3 * r5), .int other]) (st := []) dX2_swap_16 (kX2_demandPlace hl H6) sX2_demandPlace mw_457 rfl (Nat.le_of_ble_eq_true rfl) ⟨⟨Nat.le_of_ble_eq_true rfl, Nat.le_of_ble_eq_true rfl⟩, Nat.le_of_ble_eq_true rfl, Nat.le_of_ble_eq_true rfl⟩ (fun v12 h13 n14 c15 => ?_) (fun E h9 n9 hx => mt_out rfl (by obtain ⟨rfl, hq, rfl, rfl⟩ := hx; exact cNo.i (by simp only [sp_swap, dAt_n hq, dAt_s hr5 (by decide), dAt_s hp11 (by omega)])) (Nat.le_of_ble_eq_true rfl) (Nat.le_of_ble_eq_true rfl))
  obtain ⟨p16, hp16, rfl, c15a, c15b, c15c⟩ := c15
  rw [c15a, c15b, c15c]
  have hLp16 := (H6).len
  show mT _ _ _ _ 19 [.ref 0, .int (nI r5), .int (nI p11), .int (nI p16), .ref (2 + 3 * r5), .double 0] [] _ _ _ _
  refine mt_aload dX2_swap_19 rfl rfl ?_
  obtain ⟨f_17, g_17, ea_17, ek_17, es_17, ql_17, qr_17, qk_17, qt_17⟩ := id H6
  refine mt_getfield mKX1 (i := 0) (by decide) mw_68 dX2_swap_21 ea_17 rfl ?_
  refine mt_iload_n dX2_swap_24 rfl ?_
  refine mp_iaload dX2_swap_25 ek_17 rfl (by omega) (by omega) (v := xk (S.1 r5) p11) (qk_17 _ (by omega)) ?_
  refine mt_aload dX2_swap_26 rfl rfl ?_
  refine mt_getfield mKX1 (i := 0) (by decide) mw_68 dX2_swap_28 ea_17 rfl ?_
  refine mt_iload_n dX2_swap_31 rfl ?_
  refine mp_iaload dX2_swap_32 ek_17 rfl (by omega) (by omega) (v := xk (S.1 r5) p16) (qk_17 _ (by omega)) ?_
  refine mt_icmp_eq dX2_swap_33 (tgt := 40) rfl (fun q18 => ?_) (fun q18 => ?_)
  · refine mt_iconst dX2_swap_40 (v := nI 0) rfl ?_
    refine mp_istore dX2_swap_41 (ls' := [.ref 0, .int (nI r5), .int (nI p11), .int (nI p16), .ref (2 + 3 * r5), .int (nI 0)]) rfl (by decide) rfl ?_
    refine mt_aload dX2_swap_43 rfl rfl ?_
    refine mt_iload_n dX2_swap_45 rfl ?_
    refine mt_iload_n dX2_swap_46 rfl ?_
    refine mt_callV (N := mX1_trade) (Rc := rX1_trade) (As := [.int (nI p11), .int (nI p16)]) (st := []) dX2_swap_47 (kX1_trade hl H6 (by omega) (by omega)) sX1_trade mw_492 mKX1 rfl ea_17 rfl (Nat.le_of_ble_eq_true rfl) ⟨⟨Nat.le_of_ble_eq_true rfl, Nat.le_of_ble_eq_true rfl⟩, Nat.le_of_ble_eq_true rfl, Nat.le_of_ble_eq_true rfl⟩ (fun v19 h20 n21 c22 => ?_) (fun _ _ _ hx => hx.elim)
    obtain ⟨c22a, c22b, c22c, c22d⟩ := c22
    rw [c22a, c22b]
    show mT _ _ _ _ 50 [.ref 0, .int (nI r5), .int (nI p11), .int (nI p16), .ref (2 + 3 * r5), .int (nI 0)] [] _ _ _ _
    refine mt_aload_n dX2_swap_50 rfl rfl ?_
    refine mt_iload dX2_swap_51 rfl ?_
    refine mt_if_eq dX2_swap_53 (tgt := 60) rfl (fun q23 => ?_) (fun q23 => ?_)
    · have q23 := (mI_eq0 (by omega)).mp q23
      refine mt_iconst dX2_swap_60 (v := nI 0) rfl ?_
      refine mt_callV (N := mX2_done) (Rc := rX2_done) (As := [.int (nI 0)]) (st := []) dX2_swap_61 (kX2_done hl ((c22d (0) (by omega)).trans C0)) sX2_done mw_430 mKX2 rfl ((c22d (0) (by omega)).trans C0) rfl (Nat.le_of_ble_eq_true rfl) ⟨⟨Nat.le_of_ble_eq_true rfl, Nat.le_of_ble_eq_true rfl⟩, Nat.le_of_ble_eq_true rfl, Nat.le_of_ble_eq_true rfl⟩ (fun v24 h25 n26 c27 => ?_) (fun _ _ _ hx => hx.elim)
      obtain ⟨c27a, c27b, c27c, c27d⟩ := c27
      rw [c27a, c27b]
      show mT _ _ _ _ 64 [.ref 0, .int (nI r5), .int (nI p11), .int (nI p16), .ref (2 + 3 * r5), .int (nI 0)] [.int (nI 0)] _ _ _ _
      refine mt_ireturn dX2_swap_64 rfl rfl (Nat.le_of_ble_eq_true rfl) (Nat.le_of_ble_eq_true rfl) ?_
      exact cOk.of (x := .int (nI 0)) (S' := (fun k => if k = r5 then swp (S.1 r5) p11 p16 else S.1 k, S.2.1, S.2.2.1 + nI 1, S.2.2.2.1, S.2.2.2.2)) (by simp only [sp_swap, dAt_s hr5 (by decide), dAt_s hp11 (by omega), dAt_s hp16 (by omega)]; simp only [q18, if_true, if_false]; rfl) rfl rfl ⟨c27c, ⟨cg, (c27d (1) (by omega)).trans ((c22d (1) (by omega)).trans C1), C1g⟩, (c27d (14) (by omega)).trans ((c22d (14) (by omega)).trans C14), cRows CR (by omega) ((c22c).fr (fun j j1 j2 => c27d j (by omega))) (fun j j1 j2 j3 => (c27d j (by omega)).trans (c22d j (by omega))), ⟨_, ((HK15).fr (fun j j1 j2 => c22d j (by omega))).fr (fun j j1 j2 => c27d j (by omega))⟩, ⟨_, ((HK18).fr (fun j j1 j2 => c22d j (by omega))).fr (fun j j1 j2 => c27d j (by omega))⟩, ⟨_, ((HK21).fr (fun j j1 j2 => c22d j (by omega))).fr (fun j j1 j2 => c27d j (by omega))⟩, ⟨_, ((HK24).fr (fun j j1 j2 => c22d j (by omega))).fr (fun j j1 j2 => c27d j (by omega))⟩⟩ (fun j hj => (c27d j (by omega)).trans (c22d j (by omega)))
    · have q23 := (not_congr (mI_eq0 (by omega))).mp q23
      exact absurd q23 (by decide)
  · refine mt_iconst dX2_swap_36 (v := nI 1) rfl ?_
    refine mt_goto dX2_swap_37 (tgt := 41) rfl ?_
    refine mp_istore dX2_swap_41 (ls' := [.ref 0, .int (nI r5), .int (nI p11), .int (nI p16), .ref (2 + 3 * r5), .int (nI 1)]) rfl (by decide) rfl ?_
    refine mt_aload dX2_swap_43 rfl rfl ?_
    refine mt_iload_n dX2_swap_45 rfl ?_
    refine mt_iload_n dX2_swap_46 rfl ?_
    refine mt_callV (N := mX1_trade) (Rc := rX1_trade) (As := [.int (nI p11), .int (nI p16)]) (st := []) dX2_swap_47 (kX1_trade hl H6 (by omega) (by omega)) sX1_trade mw_492 mKX1 rfl ea_17 rfl (Nat.le_of_ble_eq_true rfl) ⟨⟨Nat.le_of_ble_eq_true rfl, Nat.le_of_ble_eq_true rfl⟩, Nat.le_of_ble_eq_true rfl, Nat.le_of_ble_eq_true rfl⟩ (fun v28 h29 n30 c31 => ?_) (fun _ _ _ hx => hx.elim)
    obtain ⟨c31a, c31b, c31c, c31d⟩ := c31
    rw [c31a, c31b]
    show mT _ _ _ _ 50 [.ref 0, .int (nI r5), .int (nI p11), .int (nI p16), .ref (2 + 3 * r5), .int (nI 1)] [] _ _ _ _
    refine mt_aload_n dX2_swap_50 rfl rfl ?_
    refine mt_iload dX2_swap_51 rfl ?_
    refine mt_if_eq dX2_swap_53 (tgt := 60) rfl (fun q32 => ?_) (fun q32 => ?_)
    · have q32 := (mI_eq0 (by omega)).mp q32
      exact absurd q32 (by decide)
    · have q32 := (not_congr (mI_eq0 (by omega))).mp q32
      refine mt_iconst dX2_swap_56 (v := nI 1) rfl ?_
      refine mt_goto dX2_swap_57 (tgt := 61) rfl ?_
      refine mt_callV (N := mX2_done) (Rc := rX2_done) (As := [.int (nI 1)]) (st := []) dX2_swap_61 (kX2_done hl ((c31d (0) (by omega)).trans C0)) sX2_done mw_430 mKX2 rfl ((c31d (0) (by omega)).trans C0) rfl (Nat.le_of_ble_eq_true rfl) ⟨⟨Nat.le_of_ble_eq_true rfl, Nat.le_of_ble_eq_true rfl⟩, Nat.le_of_ble_eq_true rfl, Nat.le_of_ble_eq_true rfl⟩ (fun v33 h34 n35 c36 => ?_) (fun _ _ _ hx => hx.elim)
      obtain ⟨c36a, c36b, c36c, c36d⟩ := c36
      rw [c36a, c36b]
      show mT _ _ _ _ 64 [.ref 0, .int (nI r5), .int (nI p11), .int (nI p16), .ref (2 + 3 * r5), .int (nI 1)] [.int (nI 1)] _ _ _ _
      refine mt_ireturn dX2_swap_64 rfl rfl (Nat.le_of_ble_eq_true rfl) (Nat.le_of_ble_eq_true rfl) ?_
      exact cOk.of (x := .int (nI 1)) (S' := (fun k => if k = r5 then swp (S.1 r5) p11 p16 else S.1 k, S.2.1, S.2.2.1 + nI 1, S.2.2.2.1, S.2.2.2.2)) (by simp only [sp_swap, dAt_s hr5 (by decide), dAt_s hp11 (by omega), dAt_s hp16 (by omega)]; simp only [q18, if_true, if_false]; rfl) rfl rfl ⟨c36c, ⟨cg, (c36d (1) (by omega)).trans ((c31d (1) (by omega)).trans C1), C1g⟩, (c36d (14) (by omega)).trans ((c31d (14) (by omega)).trans C14), cRows CR (by omega) ((c31c).fr (fun j j1 j2 => c36d j (by omega))) (fun j j1 j2 j3 => (c36d j (by omega)).trans (c31d j (by omega))), ⟨_, ((HK15).fr (fun j j1 j2 => c31d j (by omega))).fr (fun j j1 j2 => c36d j (by omega))⟩, ⟨_, ((HK18).fr (fun j j1 j2 => c31d j (by omega))).fr (fun j j1 j2 => c36d j (by omega))⟩, ⟨_, ((HK21).fr (fun j j1 j2 => c31d j (by omega))).fr (fun j j1 j2 => c36d j (by omega))⟩, ⟨_, ((HK24).fr (fun j j1 j2 => c31d j (by omega))).fr (fun j j1 j2 => c36d j (by omega))⟩⟩ (fun j hj => (c36d j (by omega)).trans (c31d j (by omega)))
def sp_put (S : cS) (row : Int32) (place : Int32) (key : Int32) : Nat × Value × cS := dAt S 4 row fun r => dAt S (S.1 r).length place fun p => dFit S (keyOk key) (0, .int (xk (S.1 r) p), cAct (cGiv (cSet S r ((S.1 r).set p (key, nst (decide (r < 2)) S.2.1))) (ngv (decide (r < 2)) S.2.1)))
abbrev rX2_put : Room := { frames := 8, cells := 3, slots := 18, locals := 131 }
set_option maxRecDepth 100000 in
set_option maxHeartbeats 2000000 in
theorem kX2_put {l : Launch} (hl : l.stackTraces = false) {h : mH} {n : Nat} {S : cS} {row : Int32} {place : Int32} {key : Int32} (C : cAt h S) : mC l mX2_put rX2_put [.ref 0, .int row, .int place, .int key] h n (cOk (sp_put S row place key) h n) (cNo (sp_put S row place key).1 h n) := by
  obtain ⟨C0, ⟨cg, C1, C1g⟩, C14, CR, ⟨zs15, HK15⟩, ⟨zs18, HK18⟩, ⟨zs21, HK21⟩, ⟨zs24, HK24⟩⟩ := id C
  refine mm_enter hl (by decide +kernel) rfl rfl rfl (Nat.le_of_ble_eq_true rfl) ?_
  show mT _ _ _ _ 0 [.ref 0, .int row, .int place, .int key, .double 0, .double 0] [] _ _ 0 0
  refine mt_aload_n dX2_put_0 rfl rfl ?_
  refine mt_iload_n dX2_put_1 rfl ?_
  refine mt_callV (N := mX2_rowOf) (Rc := rX2_rowOf) (As := [.int row]) (st := []) dX2_put_2 (kX2_rowOf hl C) sX2_rowOf mw_230 mKX2 rfl C0 rfl (Nat.le_of_ble_eq_true rfl) ⟨⟨Nat.le_of_ble_eq_true rfl, Nat.le_of_ble_eq_true rfl⟩, Nat.le_of_ble_eq_true rfl, Nat.le_of_ble_eq_true rfl⟩ (fun v1 h2 n3 c4 => ?_) (fun E h9 n9 hx => mt_out rfl (by obtain ⟨rfl, hq, rfl, rfl⟩ := hx; exact cNo.i (by simp only [sp_put, dAt_n hq])) (Nat.le_of_ble_eq_true rfl) (Nat.le_of_ble_eq_true rfl))
  obtain ⟨r5, hr5, rfl, c4a, c4b, c4c⟩ := c4
  rw [c4a, c4b, c4c]
  have hLr5 := (CR r5 hr5).len
  show mT _ _ _ _ 5 [.ref 0, .int (nI r5), .int place, .int key, .double 0, .double 0] [.ref (2 + 3 * r5)] _ _ _ _
  refine mp_astore dX2_put_5 (ls' := [.ref 0, .int (nI r5), .int place, .int key, .ref (2 + 3 * r5), .double 0]) rfl rfl (by decide) rfl ?_
  refine mt_aload dX2_put_7 rfl rfl ?_
  refine mt_iload_n dX2_put_9 rfl ?_
  have H6 : rowAt h (2 + 3 * r5) (rroom r5) (mb (decide (r5 < 2))) (S.1 r5) := CR r5 (by omega)
  refine mt_callS (N := mX2_demandPlace) (Rc := rX2_demandPlace) (As := [.ref (2 + 3 * r5), .int place]) (st := []) dX2_put_10 (kX2_demandPlace hl H6) sX2_demandPlace mw_457 rfl (Nat.le_of_ble_eq_true rfl) ⟨⟨Nat.le_of_ble_eq_true rfl, Nat.le_of_ble_eq_true rfl⟩, Nat.le_of_ble_eq_true rfl, Nat.le_of_ble_eq_true rfl⟩ (fun v7 h8 n9 c10 => ?_) (fun E h9 n9 hx => mt_out rfl (by obtain ⟨rfl, hq, rfl, rfl⟩ := hx; exact cNo.i (by simp only [sp_put, dAt_n hq, dAt_s hr5 (by decide)])) (Nat.le_of_ble_eq_true rfl) (Nat.le_of_ble_eq_true rfl))
  obtain ⟨p11, hp11, rfl, c10a, c10b, c10c⟩ := c10
  rw [c10a, c10b, c10c]
  have hLp11 := (H6).len
  show mT _ _ _ _ 13 [.ref 0, .int (nI r5), .int (nI p11), .int key, .ref (2 + 3 * r5), .double 0] [] _ _ _ _
  refine mt_iload_n dX2_put_13 rfl ?_
  refine mt_callS (N := mX2_demandKey) (Rc := rX2_demandKey) (As := [.int key]) (st := []) dX2_put_14 (kX2_demandKey hl) sX2_demandKey mw_441 rfl (Nat.le_of_ble_eq_true rfl) ⟨⟨Nat.le_of_ble_eq_true rfl, Nat.le_of_ble_eq_true rfl⟩, Nat.le_of_ble_eq_true rfl, Nat.le_of_ble_eq_true rfl⟩ (fun v12 h13 n14 c15 => ?_) (fun E h9 n9 hx => mt_out rfl (by obtain ⟨rfl, hq, rfl, rfl⟩ := hx; exact cNo.a (by simp only [sp_put, dFit_n hq, dAt_s hr5 (by decide), dAt_s hp11 (by omega)])) (Nat.le_of_ble_eq_true rfl) (Nat.le_of_ble_eq_true rfl))
  obtain ⟨c15a, c15k, c15b, c15c⟩ := c15
  rw [c15a, c15b, c15c]
  show mT _ _ _ _ 17 [.ref 0, .int (nI r5), .int (nI p11), .int key, .ref (2 + 3 * r5), .double 0] [] _ _ _ _
  refine mt_aload dX2_put_17 rfl rfl ?_
  obtain ⟨f_16, g_16, ea_16, ek_16, es_16, ql_16, qr_16, qk_16, qt_16⟩ := id H6
  refine mt_getfield mKX1 (i := 0) (by decide) mw_68 dX2_put_19 ea_16 rfl ?_
  refine mt_iload_n dX2_put_22 rfl ?_
  refine mp_iaload dX2_put_23 ek_16 rfl (by omega) (by omega) (v := xk (S.1 r5) p11) (qk_16 _ (by omega)) ?_
  refine mp_istore dX2_put_24 (ls' := [.ref 0, .int (nI r5), .int (nI p11), .int key, .ref (2 + 3 * r5), .int (xk (S.1 r5) p11)]) rfl (by decide) rfl ?_
  refine mt_aload dX2_put_26 rfl rfl ?_
  refine mt_getfield mKX1 (i := 0) (by decide) mw_68 dX2_put_28 ea_16 rfl ?_
  refine mt_iload_n dX2_put_31 rfl ?_
  refine mt_iload_n dX2_put_32 rfl ?_
  refine mp_iastore dX2_put_33 ek_16 rfl (by omega) (by omega) (fun h17 e18 f19 => ?_)
  refine mt_aload dX2_put_34 rfl rfl ?_
  refine mt_getfield mKX1 (i := 1) (by decide) mw_71 dX2_put_36 ((f19 (2 + 3 * r5) (by omega)).trans ea_16) rfl ?_
  refine mt_iload_n dX2_put_39 rfl ?_
  refine mt_aload_n dX2_put_40 rfl rfl ?_
  refine mt_aload dX2_put_41 rfl rfl ?_
  refine mt_callV (N := mX2_stampOfNew) (Rc := rX2_stampOfNew) (As := [.ref (2 + 3 * r5)]) (st := [.int (nI p11), .ref (2 + 3 * r5 + 2)]) dX2_put_43 (kX2_stampOfNew hl ((f19 (0) (by omega)).trans C0) ((f19 (2 + 3 * r5) (by omega)).trans ea_16)) sX2_stampOfNew mw_413 mKX2 rfl ((f19 (0) (by omega)).trans C0) rfl (Nat.le_of_ble_eq_true rfl) ⟨⟨Nat.le_of_ble_eq_true rfl, Nat.le_of_ble_eq_true rfl⟩, Nat.le_of_ble_eq_true rfl, Nat.le_of_ble_eq_true rfl⟩ (fun v20 h21 n22 c23 => ?_) (fun _ _ _ hx => hx.elim)
  obtain ⟨c23a, c23b, c23c, c23d⟩ := c23
  rw [c23a, c23b]
  show mT _ _ _ _ 46 [.ref 0, .int (nI r5), .int (nI p11), .int key, .ref (2 + 3 * r5), .int (xk (S.1 r5) p11)] [.int (nst (decide (r5 < 2)) S.2.1), .int (nI p11), .ref (2 + 3 * r5 + 2)] _ _ _ _
  refine mp_iastore dX2_put_46 ((c23d (2 + 3 * r5 + 2) (by omega)).trans ((f19 (2 + 3 * r5 + 2) (by omega)).trans es_16)) rfl (by omega) (by omega) (fun h24 e25 f26 => ?_)
  refine mt_aload_n dX2_put_47 rfl rfl ?_
  refine mt_iload dX2_put_48 rfl ?_
  refine mt_callV (N := mX2_done) (Rc := rX2_done) (As := [.int (xk (S.1 r5) p11)]) (st := []) dX2_put_50 (kX2_done hl ((f26 (0) (by omega)).trans c23c)) sX2_done mw_430 mKX2 rfl ((f26 (0) (by omega)).trans c23c) rfl (Nat.le_of_ble_eq_true rfl) ⟨⟨Nat.le_of_ble_eq_true rfl, Nat.le_of_ble_eq_true rfl⟩, Nat.le_of_ble_eq_true rfl, Nat.le_of_ble_eq_true rfl⟩ (fun v27 h28 n29 c30 => ?_) (fun _ _ _ hx => hx.elim)
  obtain ⟨c30a, c30b, c30c, c30d⟩ := c30
  rw [c30a, c30b]
  show mT _ _ _ _ 53 [.ref 0, .int (nI r5), .int (nI p11), .int key, .ref (2 + 3 * r5), .int (xk (S.1 r5) p11)] [.int (xk (S.1 r5) p11)] _ _ _ _
  refine mt_ireturn dX2_put_53 rfl rfl (Nat.le_of_ble_eq_true rfl) (Nat.le_of_ble_eq_true rfl) ?_
  exact cOk.of (x := .int (xk (S.1 r5) p11)) (S' := (fun k => if k = r5 then (S.1 r5).set p11 (key, nst (decide (r5 < 2)) S.2.1) else S.1 k, ngv (decide (r5 < 2)) S.2.1, S.2.2.1 + nI 1, S.2.2.2.1, S.2.2.2.2)) (by simp only [sp_put, dAt_s hr5 (by decide), dAt_s hp11 (by omega), dFit_s c15k] <;> rfl) rfl rfl ⟨c30c, ⟨cg, (c30d (1) (by omega)).trans ((f26 (1) (by omega)).trans ((c23d (1) (by omega)).trans ((f19 (1) (by omega)).trans C1))), C1g⟩, (c30d (14) (by omega)).trans ((f26 (14) (by omega)).trans ((c23d (14) (by omega)).trans ((f19 (14) (by omega)).trans C14))), cRows CR (by omega) ((rowAt_put ((f26 (2 + 3 * r5) (by omega)).trans ((c23d (2 + 3 * r5) (by omega)).trans ((f19 (2 + 3 * r5) (by omega)).trans ea_16))) ((f26 (2 + 3 * r5 + 1) (by omega)).trans ((c23d (2 + 3 * r5 + 1) (by omega)).trans e18)) (e25) hp11 ql_16 qr_16 qk_16 qt_16).fr (fun j j1 j2 => c30d j (by omega))) (fun j j1 j2 j3 => (c30d j (by omega)).trans ((f26 j (by omega)).trans ((c23d j (by omega)).trans (f19 j (by omega))))), ⟨_, ((((HK15).fr (fun j j1 j2 => f19 j (by omega))).fr (fun j j1 j2 => c23d j (by omega))).fr (fun j j1 j2 => f26 j (by omega))).fr (fun j j1 j2 => c30d j (by omega))⟩, ⟨_, ((((HK18).fr (fun j j1 j2 => f19 j (by omega))).fr (fun j j1 j2 => c23d j (by omega))).fr (fun j j1 j2 => f26 j (by omega))).fr (fun j j1 j2 => c30d j (by omega))⟩, ⟨_, ((((HK21).fr (fun j j1 j2 => f19 j (by omega))).fr (fun j j1 j2 => c23d j (by omega))).fr (fun j j1 j2 => f26 j (by omega))).fr (fun j j1 j2 => c30d j (by omega))⟩, ⟨_, ((((HK24).fr (fun j j1 j2 => f19 j (by omega))).fr (fun j j1 j2 => c23d j (by omega))).fr (fun j j1 j2 => f26 j (by omega))).fr (fun j j1 j2 => c30d j (by omega))⟩⟩ (fun j hj => (c30d j (by omega)).trans ((f26 j (by omega)).trans ((c23d j (by omega)).trans (f19 j (by omega)))))
def sp_add (S : cS) (row : Int32) (key : Int32) : Nat × Value × cS := dAt S 4 row fun r => dFit S (keyOk key) (if rroom r - (S.1 r).length < 1 then (0, .int (-9), cRef S) else (0, .int (nI ((S.1 r) ++ [(key, nst (decide (r < 2)) S.2.1)]).length), cAct (cGiv (cSet S r ((S.1 r) ++ [(key, nst (decide (r < 2)) S.2.1)])) (ngv (decide (r < 2)) S.2.1))))
abbrev rX2_add : Room := { frames := 8, cells := 2, slots := 12, locals := 130 }
set_option maxRecDepth 100000 in
set_option maxHeartbeats 2000000 in
theorem kX2_add {l : Launch} (hl : l.stackTraces = false) {h : mH} {n : Nat} {S : cS} {row : Int32} {key : Int32} (C : cAt h S) : mC l mX2_add rX2_add [.ref 0, .int row, .int key] h n (cOk (sp_add S row key) h n) (cNo (sp_add S row key).1 h n) := by
  obtain ⟨C0, ⟨cg, C1, C1g⟩, C14, CR, ⟨zs15, HK15⟩, ⟨zs18, HK18⟩, ⟨zs21, HK21⟩, ⟨zs24, HK24⟩⟩ := id C
  refine mm_enter hl (by decide +kernel) rfl rfl rfl (Nat.le_of_ble_eq_true rfl) ?_
  show mT _ _ _ _ 0 [.ref 0, .int row, .int key, .double 0] [] _ _ 0 0
  refine mt_aload_n dX2_add_0 rfl rfl ?_
  refine mt_iload_n dX2_add_1 rfl ?_
  refine mt_callV (N := mX2_rowOf) (Rc := rX2_rowOf) (As := [.int row]) (st := []) dX2_add_2 (kX2_rowOf hl C) sX2_rowOf mw_230 mKX2 rfl C0 rfl (Nat.le_of_ble_eq_true rfl) ⟨⟨Nat.le_of_ble_eq_true rfl, Nat.le_of_ble_eq_true rfl⟩, Nat.le_of_ble_eq_true rfl, Nat.le_of_ble_eq_true rfl⟩ (fun v1 h2 n3 c4 => ?_) (fun E h9 n9 hx => mt_out rfl (by obtain ⟨rfl, hq, rfl, rfl⟩ := hx; exact cNo.i (by simp only [sp_add, dAt_n hq])) (Nat.le_of_ble_eq_true rfl) (Nat.le_of_ble_eq_true rfl))
  obtain ⟨r5, hr5, rfl, c4a, c4b, c4c⟩ := c4
  rw [c4a, c4b, c4c]
  have hLr5 := (CR r5 hr5).len
  show mT _ _ _ _ 5 [.ref 0, .int (nI r5), .int key, .double 0] [.ref (2 + 3 * r5)] _ _ _ _
  refine mp_astore_n dX2_add_5 (ls' := [.ref 0, .int (nI r5), .int key, .ref (2 + 3 * r5)]) rfl rfl (by decide) rfl ?_
  refine mt_iload_n dX2_add_6 rfl ?_
  refine mt_callS (N := mX2_demandKey) (Rc := rX2_demandKey) (As := [.int key]) (st := []) dX2_add_7 (kX2_demandKey hl) sX2_demandKey mw_441 rfl (Nat.le_of_ble_eq_true rfl) ⟨⟨Nat.le_of_ble_eq_true rfl, Nat.le_of_ble_eq_true rfl⟩, Nat.le_of_ble_eq_true rfl, Nat.le_of_ble_eq_true rfl⟩ (fun v6 h7 n8 c9 => ?_) (fun E h9 n9 hx => mt_out rfl (by obtain ⟨rfl, hq, rfl, rfl⟩ := hx; exact cNo.a (by simp only [sp_add, dFit_n hq, dAt_s hr5 (by decide)])) (Nat.le_of_ble_eq_true rfl) (Nat.le_of_ble_eq_true rfl))
  obtain ⟨c9a, c9k, c9b, c9c⟩ := c9
  rw [c9a, c9b, c9c]
  show mT _ _ _ _ 10 [.ref 0, .int (nI r5), .int key, .ref (2 + 3 * r5)] [] _ _ _ _
  refine mt_aload_n dX2_add_10 rfl rfl ?_
  have H10 : rowAt h (2 + 3 * r5) (rroom r5) (mb (decide (r5 < 2))) (S.1 r5) := CR r5 (by omega)
  obtain ⟨f_15, g_15, ea_15, ek_15, es_15, ql_15, qr_15, qk_15, qt_15⟩ := id H10
  refine mt_callV (N := mX1_free) (Rc := rX1_free) (As := []) (st := []) dX2_add_11 (kX1_free hl H10) sX1_free mw_206 mKX1 rfl ea_15 rfl (Nat.le_of_ble_eq_true rfl) ⟨⟨Nat.le_of_ble_eq_true rfl, Nat.le_of_ble_eq_true rfl⟩, Nat.le_of_ble_eq_true rfl, Nat.le_of_ble_eq_true rfl⟩ (fun v11 h12 n13 c14 => ?_) (fun _ _ _ hx => hx.elim)
  obtain ⟨c14a, c14b, c14c⟩ := c14
  rw [c14a, c14b, c14c]
  show mT _ _ _ _ 14 [.ref 0, .int (nI r5), .int key, .ref (2 + 3 * r5)] [.int (nI ((rroom r5) - (S.1 r5).length))] _ _ _ _
  refine mt_iconst dX2_add_14 (v := nI 1) rfl ?_
  refine mt_icmp_ge dX2_add_15 (tgt := 23) rfl (fun q16 => ?_) (fun q16 => ?_)
  · have q16 := Int32.not_lt.mpr q16
    have q16 := (not_congr (nI_ltI (by omega) (by omega))).mp q16
    refine mt_aload_n dX2_add_23 rfl rfl ?_
    refine mt_iload_n dX2_add_24 rfl ?_
    refine mt_aload_n dX2_add_25 rfl rfl ?_
    refine mt_aload_n dX2_add_26 rfl rfl ?_
    refine mt_callV (N := mX2_stampOfNew) (Rc := rX2_stampOfNew) (As := [.ref (2 + 3 * r5)]) (st := [.int key, .ref (2 + 3 * r5)]) dX2_add_27 (kX2_stampOfNew hl C0 ea_15) sX2_stampOfNew mw_413 mKX2 rfl C0 rfl (Nat.le_of_ble_eq_true rfl) ⟨⟨Nat.le_of_ble_eq_true rfl, Nat.le_of_ble_eq_true rfl⟩, Nat.le_of_ble_eq_true rfl, Nat.le_of_ble_eq_true rfl⟩ (fun v17 h18 n19 c20 => ?_) (fun _ _ _ hx => hx.elim)
    obtain ⟨c20a, c20b, c20c, c20d⟩ := c20
    rw [c20a, c20b]
    show mT _ _ _ _ 30 [.ref 0, .int (nI r5), .int key, .ref (2 + 3 * r5)] [.int (nst (decide (r5 < 2)) S.2.1), .int key, .ref (2 + 3 * r5)] _ _ _ _
    have H21 : rowAt h18 (2 + 3 * r5) (rroom r5) (mb (decide (r5 < 2))) (S.1 r5) := (H10).fr (fun j j1 j2 => c20d j (by omega))
    refine mt_callV (N := mX1_append) (Rc := rX1_append) (As := [.int key, .int (nst (decide (r5 < 2)) S.2.1)]) (st := []) dX2_add_30 (kX1_append hl H21 (by first | omega | assumption | (simp only [List.length_append, List.length_cons, List.length_nil, span_len, Nat.sub_zero] at *; omega))) sX1_append mw_421 mKX1 rfl ((c20d (2 + 3 * r5) (by omega)).trans ea_15) rfl (Nat.le_of_ble_eq_true rfl) ⟨⟨Nat.le_of_ble_eq_true rfl, Nat.le_of_ble_eq_true rfl⟩, Nat.le_of_ble_eq_true rfl, Nat.le_of_ble_eq_true rfl⟩ (fun v22 h23 n24 c25 => ?_) (fun _ _ _ hx => hx.elim)
    obtain ⟨c25a, c25b, c25c, c25d⟩ := c25
    rw [c25a, c25b]
    show mT _ _ _ _ 33 [.ref 0, .int (nI r5), .int key, .ref (2 + 3 * r5)] [] _ _ _ _
    refine mt_aload_n dX2_add_33 rfl rfl ?_
    refine mt_aload_n dX2_add_34 rfl rfl ?_
    obtain ⟨f_26, g_26, ea_26, ek_26, es_26, ql_26, qr_26, qk_26, qt_26⟩ := id c25c
    refine mt_getfield mKX1 (i := 3) (by decide) mw_76 dX2_add_35 ea_26 rfl ?_
    refine mt_callV (N := mX2_done) (Rc := rX2_done) (As := [.int (nI (((S.1 r5) ++ [(key, nst (decide (r5 < 2)) S.2.1)]).length))]) (st := []) dX2_add_38 (kX2_done hl ((c25d (0) (by omega)).trans c20c)) sX2_done mw_430 mKX2 rfl ((c25d (0) (by omega)).trans c20c) rfl (Nat.le_of_ble_eq_true rfl) ⟨⟨Nat.le_of_ble_eq_true rfl, Nat.le_of_ble_eq_true rfl⟩, Nat.le_of_ble_eq_true rfl, Nat.le_of_ble_eq_true rfl⟩ (fun v27 h28 n29 c30 => ?_) (fun _ _ _ hx => hx.elim)
    obtain ⟨c30a, c30b, c30c, c30d⟩ := c30
    rw [c30a, c30b]
    show mT _ _ _ _ 41 [.ref 0, .int (nI r5), .int key, .ref (2 + 3 * r5)] [.int (nI (((S.1 r5) ++ [(key, nst (decide (r5 < 2)) S.2.1)]).length))] _ _ _ _
    refine mt_ireturn dX2_add_41 rfl rfl (Nat.le_of_ble_eq_true rfl) (Nat.le_of_ble_eq_true rfl) ?_
    exact cOk.of (x := .int (nI (((S.1 r5) ++ [(key, nst (decide (r5 < 2)) S.2.1)]).length))) (S' := (fun k => if k = r5 then (S.1 r5) ++ [(key, nst (decide (r5 < 2)) S.2.1)] else S.1 k, ngv (decide (r5 < 2)) S.2.1, S.2.2.1 + nI 1, S.2.2.2.1, S.2.2.2.2)) (by simp only [sp_add, dAt_s hr5 (by decide), dFit_s c9k, if_neg q16] <;> rfl) rfl rfl ⟨c30c, ⟨cg, (c30d (1) (by omega)).trans ((c25d (1) (by omega)).trans ((c20d (1) (by omega)).trans C1)), C1g⟩, (c30d (14) (by omega)).trans ((c25d (14) (by omega)).trans ((c20d (14) (by omega)).trans C14)), cRows CR (by omega) ((c25c).fr (fun j j1 j2 => c30d j (by omega))) (fun j j1 j2 j3 => (c30d j (by omega)).trans ((c25d j (by omega)).trans (c20d j (by omega)))), ⟨_, (((HK15).fr (fun j j1 j2 => c20d j (by omega))).fr (fun j j1 j2 => c25d j (by omega))).fr (fun j j1 j2 => c30d j (by omega))⟩, ⟨_, (((HK18).fr (fun j j1 j2 => c20d j (by omega))).fr (fun j j1 j2 => c25d j (by omega))).fr (fun j j1 j2 => c30d j (by omega))⟩, ⟨_, (((HK21).fr (fun j j1 j2 => c20d j (by omega))).fr (fun j j1 j2 => c25d j (by omega))).fr (fun j j1 j2 => c30d j (by omega))⟩, ⟨_, (((HK24).fr (fun j j1 j2 => c20d j (by omega))).fr (fun j j1 j2 => c25d j (by omega))).fr (fun j j1 j2 => c30d j (by omega))⟩⟩ (fun j hj => (c30d j (by omega)).trans ((c25d j (by omega)).trans (c20d j (by omega))))
  · have q16 := Int32.not_le.mp q16
    have q16 := (nI_ltI (by omega) (by omega)).mp q16
    refine mt_aload_n dX2_add_18 rfl rfl ?_
    refine mt_callV (N := mX2_refused) (Rc := rX2_refused) (As := []) (st := []) dX2_add_19 (kX2_refused hl C0) sX2_refused mw_446 mKX2 rfl C0 rfl (Nat.le_of_ble_eq_true rfl) ⟨⟨Nat.le_of_ble_eq_true rfl, Nat.le_of_ble_eq_true rfl⟩, Nat.le_of_ble_eq_true rfl, Nat.le_of_ble_eq_true rfl⟩ (fun v31 h32 n33 c34 => ?_) (fun _ _ _ hx => hx.elim)
    obtain ⟨c34a, c34b, c34c, c34d⟩ := c34
    rw [c34a, c34b]
    show mT _ _ _ _ 22 [.ref 0, .int (nI r5), .int key, .ref (2 + 3 * r5)] [.int (-9)] _ _ _ _
    refine mt_ireturn dX2_add_22 rfl rfl (Nat.le_of_ble_eq_true rfl) (Nat.le_of_ble_eq_true rfl) ?_
    exact cOk.of (x := .int (-9)) (S' := (S.1, S.2.1, S.2.2.1, S.2.2.2.1 + nI 1, S.2.2.2.2)) (by simp only [sp_add, dAt_s hr5 (by decide), dFit_s c9k, if_pos q16] <;> rfl) rfl rfl ⟨c34c, ⟨cg, (c34d (1) (by omega)).trans C1, C1g⟩, (c34d (14) (by omega)).trans C14, cRows0 CR (fun j j1 j2 => c34d j (by omega)), ⟨_, (HK15).fr (fun j j1 j2 => c34d j (by omega))⟩, ⟨_, (HK18).fr (fun j j1 j2 => c34d j (by omega))⟩, ⟨_, (HK21).fr (fun j j1 j2 => c34d j (by omega))⟩, ⟨_, (HK24).fr (fun j j1 j2 => c34d j (by omega))⟩⟩ (fun j hj => c34d j (by omega))
def sp_roll (S : cS) (row : Int32) (by_ : Int32) : Nat × Value × cS := dAt S 4 row fun r => dArg S ((S.1 r).length + 1) by_ fun p => (0, .int (q_otherKeys (S.1 r) (span (S.1 r) p (S.1 r).length ++ span (S.1 r) 0 p)), cAct (cSet S r (span (S.1 r) p (S.1 r).length ++ span (S.1 r) 0 p)))
abbrev rX2_roll : Room := { frames := 7, cells := 2, slots := 12, locals := 111 }
set_option maxRecDepth 100000 in
set_option maxHeartbeats 2000000 in
theorem kX2_roll {l : Launch} (hl : l.stackTraces = false) {h : mH} {n : Nat} {S : cS} {row : Int32} {by_ : Int32} (C : cAt h S) : mC l mX2_roll rX2_roll [.ref 0, .int row, .int by_] h n (cOk (sp_roll S row by_) h n) (cNo (sp_roll S row by_).1 h n) := by
  obtain ⟨C0, ⟨cg, C1, C1g⟩, C14, CR, ⟨zs15, HK15⟩, ⟨zs18, HK18⟩, ⟨zs21, HK21⟩, ⟨zs24, HK24⟩⟩ := id C
  refine mm_enter hl (by decide +kernel) rfl rfl rfl (Nat.le_of_ble_eq_true rfl) ?_
  show mT _ _ _ _ 0 [.ref 0, .int row, .int by_, .double 0, .double 0, .double 0] [] _ _ 0 0
  refine mt_aload_n dX2_roll_0 rfl rfl ?_
  refine mt_iload_n dX2_roll_1 rfl ?_
  refine mt_callV (N := mX2_rowOf) (Rc := rX2_rowOf) (As := [.int row]) (st := []) dX2_roll_2 (kX2_rowOf hl C) sX2_rowOf mw_230 mKX2 rfl C0 rfl (Nat.le_of_ble_eq_true rfl) ⟨⟨Nat.le_of_ble_eq_true rfl, Nat.le_of_ble_eq_true rfl⟩, Nat.le_of_ble_eq_true rfl, Nat.le_of_ble_eq_true rfl⟩ (fun v1 h2 n3 c4 => ?_) (fun E h9 n9 hx => mt_out rfl (by obtain ⟨rfl, hq, rfl, rfl⟩ := hx; exact cNo.i (by simp only [sp_roll, dAt_n hq])) (Nat.le_of_ble_eq_true rfl) (Nat.le_of_ble_eq_true rfl))
  obtain ⟨r5, hr5, rfl, c4a, c4b, c4c⟩ := c4
  rw [c4a, c4b, c4c]
  have hLr5 := (CR r5 hr5).len
  show mT _ _ _ _ 5 [.ref 0, .int (nI r5), .int by_, .double 0, .double 0, .double 0] [.ref (2 + 3 * r5)] _ _ _ _
  refine mp_astore_n dX2_roll_5 (ls' := [.ref 0, .int (nI r5), .int by_, .ref (2 + 3 * r5), .double 0, .double 0]) rfl rfl (by decide) rfl ?_
  refine mt_iload_n dX2_roll_6 rfl ?_
  refine mt_if_lt dX2_roll_7 (tgt := 22) rfl (fun q6 => ?_) (fun q6 => ?_)
  · refine mt_iconst dX2_roll_22 (v := nI 0) rfl ?_
    refine mt_callS (N := mX2_demand) (Rc := rX2_demand) (As := [.int (nI 0)]) (st := []) dX2_roll_23 (kX2_demand_f hl) sX2_demand mw_309 rfl (Nat.le_of_ble_eq_true rfl) ⟨⟨Nat.le_of_ble_eq_true rfl, Nat.le_of_ble_eq_true rfl⟩, Nat.le_of_ble_eq_true rfl, Nat.le_of_ble_eq_true rfl⟩ (fun _ _ _ hv => hv.elim) (fun E h9 n9 hx => ?_)
    obtain ⟨rfl, rfl, rfl⟩ := hx
    refine mt_out rfl ?_ (Nat.le_of_ble_eq_true rfl) (Nat.le_of_ble_eq_true rfl)
    exact cNo.a (by simp only [sp_roll, dArg_n (k := (S.1 r5).length + 1) (x := by_) (by first | exact inN_neg (by assumption) | exact inN_gt (by assumption) (by first | decide | omega)), dAt_s hr5 (by decide)])
  · refine mt_iload_n dX2_roll_10 rfl ?_
    refine mt_aload_n dX2_roll_11 rfl rfl ?_
    obtain ⟨f_11, g_11, ea_11, ek_11, es_11, ql_11, qr_11, qk_11, qt_11⟩ := id CR r5 (by omega)
    refine mt_getfield mKX1 (i := 3) (by decide) mw_76 dX2_roll_12 ea_11 rfl ?_
    refine mt_icmp_gt dX2_roll_15 (tgt := 22) rfl (fun q12 => ?_) (fun q12 => ?_)
    · refine mt_iconst dX2_roll_22 (v := nI 0) rfl ?_
      refine mt_callS (N := mX2_demand) (Rc := rX2_demand) (As := [.int (nI 0)]) (st := []) dX2_roll_23 (kX2_demand_f hl) sX2_demand mw_309 rfl (Nat.le_of_ble_eq_true rfl) ⟨⟨Nat.le_of_ble_eq_true rfl, Nat.le_of_ble_eq_true rfl⟩, Nat.le_of_ble_eq_true rfl, Nat.le_of_ble_eq_true rfl⟩ (fun _ _ _ hv => hv.elim) (fun E h9 n9 hx => ?_)
      obtain ⟨rfl, rfl, rfl⟩ := hx
      refine mt_out rfl ?_ (Nat.le_of_ble_eq_true rfl) (Nat.le_of_ble_eq_true rfl)
      exact cNo.a (by simp only [sp_roll, dArg_n (k := (S.1 r5).length + 1) (x := by_) (by first | exact inN_neg (by assumption) | exact inN_gt (by assumption) (by first | decide | omega)), dAt_s hr5 (by decide)])
    · refine mt_iconst dX2_roll_18 (v := nI 1) rfl ?_
      refine mt_goto dX2_roll_19 (tgt := 23) rfl ?_
      obtain ⟨p17, hp17, rfl⟩ := inN_le (k := (S.1 r5).length) (by assumption) (by assumption) (by first | decide | omega)
      refine mt_callS (N := mX2_demand) (Rc := rX2_demand) (As := [.int (nI 1)]) (st := []) dX2_roll_23 (kX2_demand_t hl) sX2_demand mw_309 rfl (Nat.le_of_ble_eq_true rfl) ⟨⟨Nat.le_of_ble_eq_true rfl, Nat.le_of_ble_eq_true rfl⟩, Nat.le_of_ble_eq_true rfl, Nat.le_of_ble_eq_true rfl⟩ (fun v18 h19 n20 c21 => ?_) (fun _ _ _ hx => hx.elim)
      obtain ⟨c21a, c21b, c21c⟩ := c21
      rw [c21a, c21b, c21c]
      show mT _ _ _ _ 26 [.ref 0, .int (nI r5), .int (nI p17), .ref (2 + 3 * r5), .double 0, .double 0] [] _ _ _ _
      refine mt_aload_n dX2_roll_26 rfl rfl ?_
      refine mt_getfield mKX2 (i := 1) (by decide) mw_113 dX2_roll_27 C0 rfl ?_
      refine mt_getfield mKX0 (i := 2) (by decide) mw_101 dX2_roll_30 C14 rfl ?_
      refine mp_astore dX2_roll_33 (ls' := [.ref 0, .int (nI r5), .int (nI p17), .ref (2 + 3 * r5), .ref 21, .double 0]) rfl rfl (by decide) rfl ?_
      refine mt_aload dX2_roll_35 rfl rfl ?_
      obtain ⟨f_26, g_26, ea_26, ek_26, es_26, ql_26, qr_26, qk_26, qt_26⟩ := id HK21
      refine mt_callV (N := mX1_empty) (Rc := rX1_empty) (As := []) (st := []) dX2_roll_37 (kX1_empty hl HK21) sX1_empty mw_407 mKX1 rfl ea_26 rfl (Nat.le_of_ble_eq_true rfl) ⟨⟨Nat.le_of_ble_eq_true rfl, Nat.le_of_ble_eq_true rfl⟩, Nat.le_of_ble_eq_true rfl, Nat.le_of_ble_eq_true rfl⟩ (fun v22 h23 n24 c25 => ?_) (fun _ _ _ hx => hx.elim)
      obtain ⟨c25a, c25b, c25c, c25d⟩ := c25
      rw [c25a, c25b]
      show mT _ _ _ _ 40 [.ref 0, .int (nI r5), .int (nI p17), .ref (2 + 3 * r5), .ref 21, .double 0] [] _ _ _ _
      refine mt_aload dX2_roll_40 rfl rfl ?_
      refine mt_aload_n dX2_roll_42 rfl rfl ?_
      refine mt_iload_n dX2_roll_43 rfl ?_
      refine mt_aload_n dX2_roll_44 rfl rfl ?_
      refine mt_getfield mKX1 (i := 3) (by decide) mw_76 dX2_roll_45 ((c25d (2 + 3 * r5) (by omega)).trans ea_11) rfl ?_
      have H27 : rowAt h23 (2 + 3 * r5) (rroom r5) (mb (decide (r5 < 2))) (S.1 r5) := (CR r5 (by omega)).fr (fun j j1 j2 => c25d j (by omega))
      obtain ⟨f_32, g_32, ea_32, ek_32, es_32, ql_32, qr_32, qk_32, qt_32⟩ := id c25c
      refine mt_callV (N := mX1_appendSpan) (Rc := rX1_appendSpan) (As := [.ref (2 + 3 * r5), .int (nI p17), .int (nI ((S.1 r5).length))]) (st := []) dX2_roll_48 (kX1_appendSpan hl c25c H27 (by omega) (by omega) (by first | omega | assumption | (simp only [List.length_append, List.length_cons, List.length_nil, span_len, Nat.sub_zero] at *; omega)) (by omega)) sX1_appendSpan mw_211 mKX1 rfl ea_32 rfl (Nat.le_of_ble_eq_true rfl) ⟨⟨Nat.le_of_ble_eq_true rfl, Nat.le_of_ble_eq_true rfl⟩, Nat.le_of_ble_eq_true rfl, Nat.le_of_ble_eq_true rfl⟩ (fun v28 h29 n30 c31 => ?_) (fun _ _ _ hx => hx.elim)
      have sl55 := span_len (ys := S.1 r5) (i := p17) (e := (S.1 r5).length) (by omega)
      obtain ⟨c31a, c31b, c31c, c31d⟩ := c31
      rw [c31a, c31b]
      show mT _ _ _ _ 51 [.ref 0, .int (nI r5), .int (nI p17), .ref (2 + 3 * r5), .ref 21, .double 0] [] _ _ _ _
      refine mt_aload dX2_roll_51 rfl rfl ?_
      refine mt_aload_n dX2_roll_53 rfl rfl ?_
      refine mt_iconst dX2_roll_54 (v := nI 0) rfl ?_
      refine mt_iload_n dX2_roll_55 rfl ?_
      have H33 : rowAt h29 (2 + 3 * r5) (rroom r5) (mb (decide (r5 < 2))) (S.1 r5) := (H27).fr (fun j j1 j2 => c31d j (by omega))
      obtain ⟨f_38, g_38, ea_38, ek_38, es_38, ql_38, qr_38, qk_38, qt_38⟩ := id c31c
      refine mt_callV (N := mX1_appendSpan) (Rc := rX1_appendSpan) (As := [.ref (2 + 3 * r5), .int (nI 0), .int (nI p17)]) (st := []) dX2_roll_56 (kX1_appendSpan hl c31c H33 (by omega) (by omega) (by first | omega | assumption | (simp only [List.length_append, List.length_cons, List.length_nil, span_len, Nat.sub_zero] at *; omega)) (by omega)) sX1_appendSpan mw_211 mKX1 rfl ea_38 rfl (Nat.le_of_ble_eq_true rfl) ⟨⟨Nat.le_of_ble_eq_true rfl, Nat.le_of_ble_eq_true rfl⟩, Nat.le_of_ble_eq_true rfl, Nat.le_of_ble_eq_true rfl⟩ (fun v34 h35 n36 c37 => ?_) (fun _ _ _ hx => hx.elim)
      have sl66 := span_len (ys := S.1 r5) (i := 0) (e := p17) (by omega)
      obtain ⟨c37a, c37b, c37c, c37d⟩ := c37
      rw [c37a, c37b]
      show mT _ _ _ _ 59 [.ref 0, .int (nI r5), .int (nI p17), .ref (2 + 3 * r5), .ref 21, .double 0] [] _ _ _ _
      refine mt_aload_n dX2_roll_59 rfl rfl ?_
      refine mt_aload dX2_roll_60 rfl rfl ?_
      have H39 : rowAt h35 (2 + 3 * r5) (rroom r5) (mb (decide (r5 < 2))) (S.1 r5) := (H33).fr (fun j j1 j2 => c37d j (by omega))
      refine mt_callV (N := mX1_otherKeys) (Rc := rX1_otherKeys) (As := [.ref 21]) (st := []) dX2_roll_62 (kX1_otherKeys hl H39 c37c) sX1_otherKeys mw_510 mKX1 rfl ((c37d (2 + 3 * r5) (by omega)).trans ((c31d (2 + 3 * r5) (by omega)).trans ((c25d (2 + 3 * r5) (by omega)).trans ea_11))) rfl (Nat.le_of_ble_eq_true rfl) ⟨⟨Nat.le_of_ble_eq_true rfl, Nat.le_of_ble_eq_true rfl⟩, Nat.le_of_ble_eq_true rfl, Nat.le_of_ble_eq_true rfl⟩ (fun v40 h41 n42 c43 => ?_) (fun _ _ _ hx => hx.elim)
      obtain ⟨c43a, c43b, c43c⟩ := c43
      rw [c43a, c43b, c43c]
      show mT _ _ _ _ 65 [.ref 0, .int (nI r5), .int (nI p17), .ref (2 + 3 * r5), .ref 21, .double 0] [.int (q_otherKeys (S.1 r5) ((([]) ++ span (S.1 r5) p17 ((S.1 r5).length)) ++ span (S.1 r5) 0 p17))] _ _ _ _
      refine mp_istore dX2_roll_65 (ls' := [.ref 0, .int (nI r5), .int (nI p17), .ref (2 + 3 * r5), .ref 21, .int (q_otherKeys (S.1 r5) ((([]) ++ span (S.1 r5) p17 ((S.1 r5).length)) ++ span (S.1 r5) 0 p17))]) rfl (by decide) rfl ?_
      refine mt_aload_n dX2_roll_67 rfl rfl ?_
      refine mt_aload dX2_roll_68 rfl rfl ?_
      refine mt_callV (N := mX1_become) (Rc := rX1_become) (As := [.ref 21]) (st := []) dX2_roll_70 (kX1_become hl H39 c37c (by omega) (by first | omega | assumption | (simp only [List.length_append, List.length_cons, List.length_nil, span_len, Nat.sub_zero] at *; omega))) sX1_become mw_210 mKX1 rfl ((c37d (2 + 3 * r5) (by omega)).trans ((c31d (2 + 3 * r5) (by omega)).trans ((c25d (2 + 3 * r5) (by omega)).trans ea_11))) rfl (Nat.le_of_ble_eq_true rfl) ⟨⟨Nat.le_of_ble_eq_true rfl, Nat.le_of_ble_eq_true rfl⟩, Nat.le_of_ble_eq_true rfl, Nat.le_of_ble_eq_true rfl⟩ (fun v44 h45 n46 c47 => ?_) (fun _ _ _ hx => hx.elim)
      obtain ⟨c47a, c47b, c47c, c47d⟩ := c47
      rw [c47a, c47b]
      show mT _ _ _ _ 73 [.ref 0, .int (nI r5), .int (nI p17), .ref (2 + 3 * r5), .ref 21, .int (q_otherKeys (S.1 r5) ((([]) ++ span (S.1 r5) p17 ((S.1 r5).length)) ++ span (S.1 r5) 0 p17))] [] _ _ _ _
      refine mt_aload_n dX2_roll_73 rfl rfl ?_
      refine mt_iload dX2_roll_74 rfl ?_
      refine mt_callV (N := mX2_done) (Rc := rX2_done) (As := [.int (q_otherKeys (S.1 r5) ((([]) ++ span (S.1 r5) p17 ((S.1 r5).length)) ++ span (S.1 r5) 0 p17))]) (st := []) dX2_roll_76 (kX2_done hl ((c47d (0) (by omega)).trans ((c37d (0) (by omega)).trans ((c31d (0) (by omega)).trans ((c25d (0) (by omega)).trans C0))))) sX2_done mw_430 mKX2 rfl ((c47d (0) (by omega)).trans ((c37d (0) (by omega)).trans ((c31d (0) (by omega)).trans ((c25d (0) (by omega)).trans C0)))) rfl (Nat.le_of_ble_eq_true rfl) ⟨⟨Nat.le_of_ble_eq_true rfl, Nat.le_of_ble_eq_true rfl⟩, Nat.le_of_ble_eq_true rfl, Nat.le_of_ble_eq_true rfl⟩ (fun v48 h49 n50 c51 => ?_) (fun _ _ _ hx => hx.elim)
      obtain ⟨c51a, c51b, c51c, c51d⟩ := c51
      rw [c51a, c51b]
      show mT _ _ _ _ 79 [.ref 0, .int (nI r5), .int (nI p17), .ref (2 + 3 * r5), .ref 21, .int (q_otherKeys (S.1 r5) ((([]) ++ span (S.1 r5) p17 ((S.1 r5).length)) ++ span (S.1 r5) 0 p17))] [.int (q_otherKeys (S.1 r5) ((([]) ++ span (S.1 r5) p17 ((S.1 r5).length)) ++ span (S.1 r5) 0 p17))] _ _ _ _
      refine mt_ireturn dX2_roll_79 rfl rfl (Nat.le_of_ble_eq_true rfl) (Nat.le_of_ble_eq_true rfl) ?_
      exact cOk.of (x := .int (q_otherKeys (S.1 r5) ((([]) ++ span (S.1 r5) p17 ((S.1 r5).length)) ++ span (S.1 r5) 0 p17))) (S' := (fun k => if k = r5 then (([]) ++ span (S.1 r5) p17 ((S.1 r5).length)) ++ span (S.1 r5) 0 p17 else S.1 k, S.2.1, S.2.2.1 + nI 1, S.2.2.2.1, S.2.2.2.2)) (by simp only [sp_roll, dAt_s hr5 (by decide), dArg_s hp17 (by first | decide | omega), if_neg q6, if_neg q12] <;> rfl) rfl rfl ⟨c51c, ⟨cg, (c51d (1) (by omega)).trans ((c47d (1) (by omega)).trans ((c37d (1) (by omega)).trans ((c31d (1) (by omega)).trans ((c25d (1) (by omega)).trans C1)))), C1g⟩, (c51d (14) (by omega)).trans ((c47d (14) (by omega)).trans ((c37d (14) (by omega)).trans ((c31d (14) (by omega)).trans ((c25d (14) (by omega)).trans C14)))), cRows CR (by omega) ((c47c).fr (fun j j1 j2 => c51d j (by omega))) (fun j j1 j2 j3 => (c51d j (by omega)).trans ((c47d j (by omega)).trans ((c37d j (by omega)).trans ((c31d j (by omega)).trans (c25d j (by omega)))))), ⟨_, (((((HK15).fr (fun j j1 j2 => c25d j (by omega))).fr (fun j j1 j2 => c31d j (by omega))).fr (fun j j1 j2 => c37d j (by omega))).fr (fun j j1 j2 => c47d j (by omega))).fr (fun j j1 j2 => c51d j (by omega))⟩, ⟨_, (((((HK18).fr (fun j j1 j2 => c25d j (by omega))).fr (fun j j1 j2 => c31d j (by omega))).fr (fun j j1 j2 => c37d j (by omega))).fr (fun j j1 j2 => c47d j (by omega))).fr (fun j j1 j2 => c51d j (by omega))⟩, ⟨_, ((c37c).fr (fun j j1 j2 => c47d j (by omega))).fr (fun j j1 j2 => c51d j (by omega))⟩, ⟨_, (((((HK24).fr (fun j j1 j2 => c25d j (by omega))).fr (fun j j1 j2 => c31d j (by omega))).fr (fun j j1 j2 => c37d j (by omega))).fr (fun j j1 j2 => c47d j (by omega))).fr (fun j j1 j2 => c51d j (by omega))⟩⟩ (fun j hj => (c51d j (by omega)).trans ((c47d j (by omega)).trans ((c37d j (by omega)).trans ((c31d j (by omega)).trans (c25d j (by omega))))))
def sp_keep (S : cS) (row : Int32) (from_ : Int32) (to : Int32) : Nat × Value × cS := dAt S 4 row fun r => dKeep S (S.1 r).length from_ to fun p t => (0, .int (nI (span (S.1 r) p t).length), cAct (cSet S r (span (S.1 r) p t)))
abbrev rX2_keep : Room := { frames := 7, cells := 2, slots := 12, locals := 111 }
set_option maxRecDepth 100000 in
set_option maxHeartbeats 2000000 in
theorem kX2_keep {l : Launch} (hl : l.stackTraces = false) {h : mH} {n : Nat} {S : cS} {row : Int32} {from_ : Int32} {to : Int32} (C : cAt h S) : mC l mX2_keep rX2_keep [.ref 0, .int row, .int from_, .int to] h n (cOk (sp_keep S row from_ to) h n) (cNo (sp_keep S row from_ to).1 h n) := by
  obtain ⟨C0, ⟨cg, C1, C1g⟩, C14, CR, ⟨zs15, HK15⟩, ⟨zs18, HK18⟩, ⟨zs21, HK21⟩, ⟨zs24, HK24⟩⟩ := id C
  refine mm_enter hl (by decide +kernel) rfl rfl rfl (Nat.le_of_ble_eq_true rfl) ?_
  show mT _ _ _ _ 0 [.ref 0, .int row, .int from_, .int to, .double 0, .double 0] [] _ _ 0 0
  refine mt_aload_n dX2_keep_0 rfl rfl ?_
  refine mt_iload_n dX2_keep_1 rfl ?_
  refine mt_callV (N := mX2_rowOf) (Rc := rX2_rowOf) (As := [.int row]) (st := []) dX2_keep_2 (kX2_rowOf hl C) sX2_rowOf mw_230 mKX2 rfl C0 rfl (Nat.le_of_ble_eq_true rfl) ⟨⟨Nat.le_of_ble_eq_true rfl, Nat.le_of_ble_eq_true rfl⟩, Nat.le_of_ble_eq_true rfl, Nat.le_of_ble_eq_true rfl⟩ (fun v1 h2 n3 c4 => ?_) (fun E h9 n9 hx => mt_out rfl (by obtain ⟨rfl, hq, rfl, rfl⟩ := hx; exact cNo.i (by simp only [sp_keep, dAt_n hq])) (Nat.le_of_ble_eq_true rfl) (Nat.le_of_ble_eq_true rfl))
  obtain ⟨r5, hr5, rfl, c4a, c4b, c4c⟩ := c4
  rw [c4a, c4b, c4c]
  have hLr5 := (CR r5 hr5).len
  show mT _ _ _ _ 5 [.ref 0, .int (nI r5), .int from_, .int to, .double 0, .double 0] [.ref (2 + 3 * r5)] _ _ _ _
  refine mp_astore dX2_keep_5 (ls' := [.ref 0, .int (nI r5), .int from_, .int to, .ref (2 + 3 * r5), .double 0]) rfl rfl (by decide) rfl ?_
  refine mt_iload_n dX2_keep_7 rfl ?_
  refine mt_if_lt dX2_keep_8 (tgt := 29) rfl (fun q6 => ?_) (fun q6 => ?_)
  · refine mt_iconst dX2_keep_29 (v := nI 0) rfl ?_
    refine mt_callS (N := mX2_demandWithin) (Rc := rX2_demandWithin) (As := [.int (nI 0)]) (st := []) dX2_keep_30 (kX2_demandWithin_f hl) sX2_demandWithin mw_460 rfl (Nat.le_of_ble_eq_true rfl) ⟨⟨Nat.le_of_ble_eq_true rfl, Nat.le_of_ble_eq_true rfl⟩, Nat.le_of_ble_eq_true rfl, Nat.le_of_ble_eq_true rfl⟩ (fun _ _ _ hv => hv.elim) (fun E h9 n9 hx => ?_)
    obtain ⟨rfl, rfl, rfl⟩ := hx
    refine mt_out rfl ?_ (Nat.le_of_ble_eq_true rfl) (Nat.le_of_ble_eq_true rfl)
    exact cNo.i (by simp only [sp_keep, keep_neg (L := (S.1 r5).length) (x := from_) (y := to) (by first | exact Or.inl (by assumption) | exact Or.inr (Or.inl (by assumption)) | exact Or.inr (Or.inr (by assumption))), dAt_s hr5 (by decide)])
  · refine mt_iload_n dX2_keep_11 rfl ?_
    refine mt_iload_n dX2_keep_12 rfl ?_
    refine mt_icmp_gt dX2_keep_13 (tgt := 29) rfl (fun q11 => ?_) (fun q11 => ?_)
    · refine mt_iconst dX2_keep_29 (v := nI 0) rfl ?_
      refine mt_callS (N := mX2_demandWithin) (Rc := rX2_demandWithin) (As := [.int (nI 0)]) (st := []) dX2_keep_30 (kX2_demandWithin_f hl) sX2_demandWithin mw_460 rfl (Nat.le_of_ble_eq_true rfl) ⟨⟨Nat.le_of_ble_eq_true rfl, Nat.le_of_ble_eq_true rfl⟩, Nat.le_of_ble_eq_true rfl, Nat.le_of_ble_eq_true rfl⟩ (fun _ _ _ hv => hv.elim) (fun E h9 n9 hx => ?_)
      obtain ⟨rfl, rfl, rfl⟩ := hx
      refine mt_out rfl ?_ (Nat.le_of_ble_eq_true rfl) (Nat.le_of_ble_eq_true rfl)
      exact cNo.i (by simp only [sp_keep, keep_neg (L := (S.1 r5).length) (x := from_) (y := to) (by first | exact Or.inl (by assumption) | exact Or.inr (Or.inl (by assumption)) | exact Or.inr (Or.inr (by assumption))), dAt_s hr5 (by decide)])
    · refine mt_iload_n dX2_keep_16 rfl ?_
      refine mt_aload dX2_keep_17 rfl rfl ?_
      obtain ⟨f_16, g_16, ea_16, ek_16, es_16, ql_16, qr_16, qk_16, qt_16⟩ := id CR r5 (by omega)
      refine mt_getfield mKX1 (i := 3) (by decide) mw_76 dX2_keep_19 ea_16 rfl ?_
      refine mt_icmp_gt dX2_keep_22 (tgt := 29) rfl (fun q17 => ?_) (fun q17 => ?_)
      · refine mt_iconst dX2_keep_29 (v := nI 0) rfl ?_
        refine mt_callS (N := mX2_demandWithin) (Rc := rX2_demandWithin) (As := [.int (nI 0)]) (st := []) dX2_keep_30 (kX2_demandWithin_f hl) sX2_demandWithin mw_460 rfl (Nat.le_of_ble_eq_true rfl) ⟨⟨Nat.le_of_ble_eq_true rfl, Nat.le_of_ble_eq_true rfl⟩, Nat.le_of_ble_eq_true rfl, Nat.le_of_ble_eq_true rfl⟩ (fun _ _ _ hv => hv.elim) (fun E h9 n9 hx => ?_)
        obtain ⟨rfl, rfl, rfl⟩ := hx
        refine mt_out rfl ?_ (Nat.le_of_ble_eq_true rfl) (Nat.le_of_ble_eq_true rfl)
        exact cNo.i (by simp only [sp_keep, keep_neg (L := (S.1 r5).length) (x := from_) (y := to) (by first | exact Or.inl (by assumption) | exact Or.inr (Or.inl (by assumption)) | exact Or.inr (Or.inr (by assumption))), dAt_s hr5 (by decide)])
      · refine mt_iconst dX2_keep_25 (v := nI 1) rfl ?_
        refine mt_goto dX2_keep_26 (tgt := 30) rfl ?_
        obtain ⟨p, hp, t, ht, hpt, rfl, rfl⟩ := keep_in (L := (S.1 r5).length) q6 q11 q17 (by omega)
        refine mt_callS (N := mX2_demandWithin) (Rc := rX2_demandWithin) (As := [.int (nI 1)]) (st := []) dX2_keep_30 (kX2_demandWithin_t hl) sX2_demandWithin mw_460 rfl (Nat.le_of_ble_eq_true rfl) ⟨⟨Nat.le_of_ble_eq_true rfl, Nat.le_of_ble_eq_true rfl⟩, Nat.le_of_ble_eq_true rfl, Nat.le_of_ble_eq_true rfl⟩ (fun v22 h23 n24 c25 => ?_) (fun _ _ _ hx => hx.elim)
        obtain ⟨c25a, c25b, c25c⟩ := c25
        rw [c25a, c25b, c25c]
        show mT _ _ _ _ 33 [.ref 0, .int (nI r5), .int (nI p), .int (nI t), .ref (2 + 3 * r5), .double 0] [] _ _ _ _
        refine mt_aload_n dX2_keep_33 rfl rfl ?_
        refine mt_getfield mKX2 (i := 1) (by decide) mw_113 dX2_keep_34 C0 rfl ?_
        refine mt_getfield mKX0 (i := 2) (by decide) mw_101 dX2_keep_37 C14 rfl ?_
        refine mp_astore dX2_keep_40 (ls' := [.ref 0, .int (nI r5), .int (nI p), .int (nI t), .ref (2 + 3 * r5), .ref 21]) rfl rfl (by decide) rfl ?_
        refine mt_aload dX2_keep_42 rfl rfl ?_
        obtain ⟨f_30, g_30, ea_30, ek_30, es_30, ql_30, qr_30, qk_30, qt_30⟩ := id HK21
        refine mt_callV (N := mX1_empty) (Rc := rX1_empty) (As := []) (st := []) dX2_keep_44 (kX1_empty hl HK21) sX1_empty mw_407 mKX1 rfl ea_30 rfl (Nat.le_of_ble_eq_true rfl) ⟨⟨Nat.le_of_ble_eq_true rfl, Nat.le_of_ble_eq_true rfl⟩, Nat.le_of_ble_eq_true rfl, Nat.le_of_ble_eq_true rfl⟩ (fun v26 h27 n28 c29 => ?_) (fun _ _ _ hx => hx.elim)
        obtain ⟨c29a, c29b, c29c, c29d⟩ := c29
        rw [c29a, c29b]
        show mT _ _ _ _ 47 [.ref 0, .int (nI r5), .int (nI p), .int (nI t), .ref (2 + 3 * r5), .ref 21] [] _ _ _ _
        refine mt_aload dX2_keep_47 rfl rfl ?_
        refine mt_aload dX2_keep_49 rfl rfl ?_
        refine mt_iload_n dX2_keep_51 rfl ?_
        refine mt_iload_n dX2_keep_52 rfl ?_
        have H31 : rowAt h27 (2 + 3 * r5) (rroom r5) (mb (decide (r5 < 2))) (S.1 r5) := (CR r5 (by omega)).fr (fun j j1 j2 => c29d j (by omega))
        obtain ⟨f_36, g_36, ea_36, ek_36, es_36, ql_36, qr_36, qk_36, qt_36⟩ := id c29c
        refine mt_callV (N := mX1_appendSpan) (Rc := rX1_appendSpan) (As := [.ref (2 + 3 * r5), .int (nI p), .int (nI t)]) (st := []) dX2_keep_53 (kX1_appendSpan hl c29c H31 (by omega) (by omega) (by first | omega | assumption | (simp only [List.length_append, List.length_cons, List.length_nil, span_len, Nat.sub_zero] at *; omega)) (by omega)) sX1_appendSpan mw_211 mKX1 rfl ea_36 rfl (Nat.le_of_ble_eq_true rfl) ⟨⟨Nat.le_of_ble_eq_true rfl, Nat.le_of_ble_eq_true rfl⟩, Nat.le_of_ble_eq_true rfl, Nat.le_of_ble_eq_true rfl⟩ (fun v32 h33 n34 c35 => ?_) (fun _ _ _ hx => hx.elim)
        have sl63 := span_len (ys := S.1 r5) (i := p) (e := t) (by omega)
        obtain ⟨c35a, c35b, c35c, c35d⟩ := c35
        rw [c35a, c35b]
        show mT _ _ _ _ 56 [.ref 0, .int (nI r5), .int (nI p), .int (nI t), .ref (2 + 3 * r5), .ref 21] [] _ _ _ _
        refine mt_aload dX2_keep_56 rfl rfl ?_
        refine mt_aload dX2_keep_58 rfl rfl ?_
        have H37 : rowAt h33 (2 + 3 * r5) (rroom r5) (mb (decide (r5 < 2))) (S.1 r5) := (H31).fr (fun j j1 j2 => c35d j (by omega))
        refine mt_callV (N := mX1_become) (Rc := rX1_become) (As := [.ref 21]) (st := []) dX2_keep_60 (kX1_become hl H37 c35c (by omega) (by first | omega | assumption | (simp only [List.length_append, List.length_cons, List.length_nil, span_len, Nat.sub_zero] at *; omega))) sX1_become mw_210 mKX1 rfl ((c35d (2 + 3 * r5) (by omega)).trans ((c29d (2 + 3 * r5) (by omega)).trans ea_16)) rfl (Nat.le_of_ble_eq_true rfl) ⟨⟨Nat.le_of_ble_eq_true rfl, Nat.le_of_ble_eq_true rfl⟩, Nat.le_of_ble_eq_true rfl, Nat.le_of_ble_eq_true rfl⟩ (fun v38 h39 n40 c41 => ?_) (fun _ _ _ hx => hx.elim)
        obtain ⟨c41a, c41b, c41c, c41d⟩ := c41
        rw [c41a, c41b]
        show mT _ _ _ _ 63 [.ref 0, .int (nI r5), .int (nI p), .int (nI t), .ref (2 + 3 * r5), .ref 21] [] _ _ _ _
        refine mt_aload_n dX2_keep_63 rfl rfl ?_
        refine mt_aload dX2_keep_64 rfl rfl ?_
        obtain ⟨f_42, g_42, ea_42, ek_42, es_42, ql_42, qr_42, qk_42, qt_42⟩ := id c41c
        refine mt_getfield mKX1 (i := 3) (by decide) mw_76 dX2_keep_66 ea_42 rfl ?_
        refine mt_callV (N := mX2_done) (Rc := rX2_done) (As := [.int (nI ((([]) ++ span (S.1 r5) p t).length))]) (st := []) dX2_keep_69 (kX2_done hl ((c41d (0) (by omega)).trans ((c35d (0) (by omega)).trans ((c29d (0) (by omega)).trans C0)))) sX2_done mw_430 mKX2 rfl ((c41d (0) (by omega)).trans ((c35d (0) (by omega)).trans ((c29d (0) (by omega)).trans C0))) rfl (Nat.le_of_ble_eq_true rfl) ⟨⟨Nat.le_of_ble_eq_true rfl, Nat.le_of_ble_eq_true rfl⟩, Nat.le_of_ble_eq_true rfl, Nat.le_of_ble_eq_true rfl⟩ (fun v43 h44 n45 c46 => ?_) (fun _ _ _ hx => hx.elim)
        obtain ⟨c46a, c46b, c46c, c46d⟩ := c46
        rw [c46a, c46b]
        show mT _ _ _ _ 72 [.ref 0, .int (nI r5), .int (nI p), .int (nI t), .ref (2 + 3 * r5), .ref 21] [.int (nI ((([]) ++ span (S.1 r5) p t).length))] _ _ _ _
        refine mt_ireturn dX2_keep_72 rfl rfl (Nat.le_of_ble_eq_true rfl) (Nat.le_of_ble_eq_true rfl) ?_
        exact cOk.of (x := .int (nI ((([]) ++ span (S.1 r5) p t).length))) (S' := (fun k => if k = r5 then ([]) ++ span (S.1 r5) p t else S.1 k, S.2.1, S.2.2.1 + nI 1, S.2.2.2.1, S.2.2.2.2)) (by simp only [sp_keep, dAt_s hr5 (by decide), keep_pos (L := (S.1 r5).length) hpt ht (by omega), if_neg q6, if_neg q11, if_neg q17] <;> rfl) rfl rfl ⟨c46c, ⟨cg, (c46d (1) (by omega)).trans ((c41d (1) (by omega)).trans ((c35d (1) (by omega)).trans ((c29d (1) (by omega)).trans C1))), C1g⟩, (c46d (14) (by omega)).trans ((c41d (14) (by omega)).trans ((c35d (14) (by omega)).trans ((c29d (14) (by omega)).trans C14))), cRows CR (by omega) ((c41c).fr (fun j j1 j2 => c46d j (by omega))) (fun j j1 j2 j3 => (c46d j (by omega)).trans ((c41d j (by omega)).trans ((c35d j (by omega)).trans (c29d j (by omega))))), ⟨_, ((((HK15).fr (fun j j1 j2 => c29d j (by omega))).fr (fun j j1 j2 => c35d j (by omega))).fr (fun j j1 j2 => c41d j (by omega))).fr (fun j j1 j2 => c46d j (by omega))⟩, ⟨_, ((((HK18).fr (fun j j1 j2 => c29d j (by omega))).fr (fun j j1 j2 => c35d j (by omega))).fr (fun j j1 j2 => c41d j (by omega))).fr (fun j j1 j2 => c46d j (by omega))⟩, ⟨_, ((c35c).fr (fun j j1 j2 => c41d j (by omega))).fr (fun j j1 j2 => c46d j (by omega))⟩, ⟨_, ((((HK24).fr (fun j j1 j2 => c29d j (by omega))).fr (fun j j1 j2 => c35d j (by omega))).fr (fun j j1 j2 => c41d j (by omega))).fr (fun j j1 j2 => c46d j (by omega))⟩⟩ (fun j hj => (c46d j (by omega)).trans ((c41d j (by omega)).trans ((c35d j (by omega)).trans (c29d j (by omega)))))
def sp_sort (S : cS) (row : Int32) : Nat × Value × cS := dAt S 4 row fun r => (0, .int (q_otherItems (S.1 r) (msort (S.1 r)).1), cAct (cSet S r (msort (S.1 r)).1))
abbrev rX2_sort : Room := { frames := 7, cells := 1, slots := 6, locals := 123 }
set_option maxRecDepth 100000 in
set_option maxHeartbeats 2000000 in
theorem kX2_sort {l : Launch} (hl : l.stackTraces = false) {h : mH} {n : Nat} {S : cS} {row : Int32} (C : cAt h S) : mC l mX2_sort rX2_sort [.ref 0, .int row] h n (cOk (sp_sort S row) h n) (cNo (sp_sort S row).1 h n) := by
  obtain ⟨C0, ⟨cg, C1, C1g⟩, C14, CR, ⟨zs15, HK15⟩, ⟨zs18, HK18⟩, ⟨zs21, HK21⟩, ⟨zs24, HK24⟩⟩ := id C
  refine mm_enter hl (by decide +kernel) rfl rfl rfl (Nat.le_of_ble_eq_true rfl) ?_
  show mT _ _ _ _ 0 [.ref 0, .int row, .double 0, .double 0] [] _ _ 0 0
  refine mt_aload_n dX2_sort_0 rfl rfl ?_
  refine mt_iload_n dX2_sort_1 rfl ?_
  refine mt_callV (N := mX2_rowOf) (Rc := rX2_rowOf) (As := [.int row]) (st := []) dX2_sort_2 (kX2_rowOf hl C) sX2_rowOf mw_230 mKX2 rfl C0 rfl (Nat.le_of_ble_eq_true rfl) ⟨⟨Nat.le_of_ble_eq_true rfl, Nat.le_of_ble_eq_true rfl⟩, Nat.le_of_ble_eq_true rfl, Nat.le_of_ble_eq_true rfl⟩ (fun v1 h2 n3 c4 => ?_) (fun E h9 n9 hx => mt_out rfl (by obtain ⟨rfl, hq, rfl, rfl⟩ := hx; exact cNo.i (by simp only [sp_sort, dAt_n hq])) (Nat.le_of_ble_eq_true rfl) (Nat.le_of_ble_eq_true rfl))
  obtain ⟨r5, hr5, rfl, c4a, c4b, c4c⟩ := c4
  rw [c4a, c4b, c4c]
  have hLr5 := (CR r5 hr5).len
  show mT _ _ _ _ 5 [.ref 0, .int (nI r5), .double 0, .double 0] [.ref (2 + 3 * r5)] _ _ _ _
  refine mp_astore_n dX2_sort_5 (ls' := [.ref 0, .int (nI r5), .ref (2 + 3 * r5), .double 0]) rfl rfl (by decide) rfl ?_
  refine mt_aload_n dX2_sort_6 rfl rfl ?_
  refine mt_getfield mKX2 (i := 1) (by decide) mw_113 dX2_sort_7 C0 rfl ?_
  refine mt_aload_n dX2_sort_10 rfl rfl ?_
  refine mt_aload_n dX2_sort_11 rfl rfl ?_
  refine mt_getfield mKX2 (i := 1) (by decide) mw_113 dX2_sort_12 C0 rfl ?_
  refine mt_getfield mKX0 (i := 0) (by decide) mw_97 dX2_sort_15 C14 rfl ?_
  have H6 : rowAt h (2 + 3 * r5) (rroom r5) (mb (decide (r5 < 2))) (S.1 r5) := CR r5 (by omega)
  refine mt_callV (N := mX0_sortUp) (Rc := rX0_sortUp) (As := [.ref (2 + 3 * r5), .ref 15]) (st := []) dX2_sort_18 (kX0_sortUp hl C14 HK15 H6 HK24 (by omega) (by omega) (by omega) (by omega)) sX0_sortUp mw_143 mKX0 rfl C14 rfl (Nat.le_of_ble_eq_true rfl) ⟨⟨Nat.le_of_ble_eq_true rfl, Nat.le_of_ble_eq_true rfl⟩, Nat.le_of_ble_eq_true rfl, Nat.le_of_ble_eq_true rfl⟩ (fun v7 h8 n9 c10 => ?_) (fun _ _ _ hx => hx.elim)
  obtain ⟨c10a, c10b, c10c, ⟨c10z, c10d⟩, c10e⟩ := c10
  rw [c10a, c10b]
  have c10f : ∀ j, ((j < 15 ∨ 15 + 3 ≤ j) ∧ (j < 24 ∨ 24 + 3 ≤ j)) → h8 j = h j := fun j hj => c10e j hj.1 hj.2
  have mlc10 := msort_len (ys := S.1 r5)
  show mT _ _ _ _ 21 [.ref 0, .int (nI r5), .ref (2 + 3 * r5), .double 0] [.int ((msort (S.1 r5)).2)] _ _ _ _
  refine mt_pop dX2_sort_21 rfl ?_
  refine mt_aload_n dX2_sort_22 rfl rfl ?_
  refine mt_aload_n dX2_sort_23 rfl rfl ?_
  refine mt_getfield mKX2 (i := 1) (by decide) mw_113 dX2_sort_24 ((c10f (0) (by omega)).trans C0) rfl ?_
  refine mt_getfield mKX0 (i := 0) (by decide) mw_97 dX2_sort_27 ((c10f (14) (by omega)).trans C14) rfl ?_
  have H11 : rowAt h8 (2 + 3 * r5) (rroom r5) (mb (decide (r5 < 2))) (S.1 r5) := (H6).fr (fun j j1 j2 => c10f j (by omega))
  obtain ⟨f_16, g_16, ea_16, ek_16, es_16, ql_16, qr_16, qk_16, qt_16⟩ := id H11
  refine mt_callV (N := mX1_otherItems) (Rc := rX1_otherItems) (As := [.ref 15]) (st := []) dX2_sort_30 (kX1_otherItems hl H11 c10c) sX1_otherItems mw_216 mKX1 rfl ea_16 rfl (Nat.le_of_ble_eq_true rfl) ⟨⟨Nat.le_of_ble_eq_true rfl, Nat.le_of_ble_eq_true rfl⟩, Nat.le_of_ble_eq_true rfl, Nat.le_of_ble_eq_true rfl⟩ (fun v12 h13 n14 c15 => ?_) (fun _ _ _ hx => hx.elim)
  obtain ⟨c15a, c15b, c15c⟩ := c15
  rw [c15a, c15b, c15c]
  show mT _ _ _ _ 33 [.ref 0, .int (nI r5), .ref (2 + 3 * r5), .double 0] [.int (q_otherItems (S.1 r5) ((msort (S.1 r5)).1))] _ _ _ _
  refine mp_istore_n dX2_sort_33 (ls' := [.ref 0, .int (nI r5), .ref (2 + 3 * r5), .int (q_otherItems (S.1 r5) ((msort (S.1 r5)).1))]) rfl (by decide) rfl ?_
  refine mt_aload_n dX2_sort_34 rfl rfl ?_
  refine mt_aload_n dX2_sort_35 rfl rfl ?_
  refine mt_getfield mKX2 (i := 1) (by decide) mw_113 dX2_sort_36 ((c10f (0) (by omega)).trans C0) rfl ?_
  refine mt_getfield mKX0 (i := 0) (by decide) mw_97 dX2_sort_39 ((c10f (14) (by omega)).trans C14) rfl ?_
  refine mt_callV (N := mX1_become) (Rc := rX1_become) (As := [.ref 15]) (st := []) dX2_sort_42 (kX1_become hl H11 c10c (by omega) (by first | omega | assumption | (simp only [List.length_append, List.length_cons, List.length_nil, span_len, Nat.sub_zero] at *; omega))) sX1_become mw_210 mKX1 rfl ea_16 rfl (Nat.le_of_ble_eq_true rfl) ⟨⟨Nat.le_of_ble_eq_true rfl, Nat.le_of_ble_eq_true rfl⟩, Nat.le_of_ble_eq_true rfl, Nat.le_of_ble_eq_true rfl⟩ (fun v17 h18 n19 c20 => ?_) (fun _ _ _ hx => hx.elim)
  obtain ⟨c20a, c20b, c20c, c20d⟩ := c20
  rw [c20a, c20b]
  show mT _ _ _ _ 45 [.ref 0, .int (nI r5), .ref (2 + 3 * r5), .int (q_otherItems (S.1 r5) ((msort (S.1 r5)).1))] [] _ _ _ _
  refine mt_aload_n dX2_sort_45 rfl rfl ?_
  refine mt_iload_n dX2_sort_46 rfl ?_
  refine mt_callV (N := mX2_done) (Rc := rX2_done) (As := [.int (q_otherItems (S.1 r5) ((msort (S.1 r5)).1))]) (st := []) dX2_sort_47 (kX2_done hl ((c20d (0) (by omega)).trans ((c10f (0) (by omega)).trans C0))) sX2_done mw_430 mKX2 rfl ((c20d (0) (by omega)).trans ((c10f (0) (by omega)).trans C0)) rfl (Nat.le_of_ble_eq_true rfl) ⟨⟨Nat.le_of_ble_eq_true rfl, Nat.le_of_ble_eq_true rfl⟩, Nat.le_of_ble_eq_true rfl, Nat.le_of_ble_eq_true rfl⟩ (fun v21 h22 n23 c24 => ?_) (fun _ _ _ hx => hx.elim)
  obtain ⟨c24a, c24b, c24c, c24d⟩ := c24
  rw [c24a, c24b]
  show mT _ _ _ _ 50 [.ref 0, .int (nI r5), .ref (2 + 3 * r5), .int (q_otherItems (S.1 r5) ((msort (S.1 r5)).1))] [.int (q_otherItems (S.1 r5) ((msort (S.1 r5)).1))] _ _ _ _
  refine mt_ireturn dX2_sort_50 rfl rfl (Nat.le_of_ble_eq_true rfl) (Nat.le_of_ble_eq_true rfl) ?_
  exact cOk.of (x := .int (q_otherItems (S.1 r5) ((msort (S.1 r5)).1))) (S' := (fun k => if k = r5 then (msort (S.1 r5)).1 else S.1 k, S.2.1, S.2.2.1 + nI 1, S.2.2.2.1, S.2.2.2.2)) (by simp only [sp_sort, dAt_s hr5 (by decide)] <;> rfl) rfl rfl ⟨c24c, ⟨cg, (c24d (1) (by omega)).trans ((c20d (1) (by omega)).trans ((c10f (1) (by omega)).trans C1)), C1g⟩, (c24d (14) (by omega)).trans ((c20d (14) (by omega)).trans ((c10f (14) (by omega)).trans C14)), cRows CR (by omega) ((c20c).fr (fun j j1 j2 => c24d j (by omega))) (fun j j1 j2 j3 => (c24d j (by omega)).trans ((c20d j (by omega)).trans (c10f j (by omega)))), ⟨_, ((c10c).fr (fun j j1 j2 => c20d j (by omega))).fr (fun j j1 j2 => c24d j (by omega))⟩, ⟨_, (((HK18).fr (fun j j1 j2 => c10f j (by omega))).fr (fun j j1 j2 => c20d j (by omega))).fr (fun j j1 j2 => c24d j (by omega))⟩, ⟨_, (((HK21).fr (fun j j1 j2 => c10f j (by omega))).fr (fun j j1 j2 => c20d j (by omega))).fr (fun j j1 j2 => c24d j (by omega))⟩, ⟨_, ((c10d).fr (fun j j1 j2 => c20d j (by omega))).fr (fun j j1 j2 => c24d j (by omega))⟩⟩ (fun j hj => (c24d j (by omega)).trans ((c20d j (by omega)).trans (c10f j (by omega))))

/-! ===== the class: fill ===== -/
abbrev rX2_patternKey : Room := { frames := 1, cells := 0, slots := 0, locals := 21 }
set_option maxRecDepth 100000 in
set_option maxHeartbeats 2000000 in
theorem kX2_patternKey {l : Launch} (hl : l.stackTraces = false) {h : mH} {n p k m b : Nat} {a : Int32} (hp : p < 8) (hk : k < m) (hm : m ≤ 320) (hb : 0 < b) (hb2 : b < 100) : mC l mX2_patternKey rX2_patternKey [.int (nI p), .int (nI k), .int (nI m), .int a, .int (nI b)] h n (mRi (patKey p k m a b) h n) (mNX) := by
  have hkb : k * b ≤ 320 * 100 := Nat.mul_le_mul (by omega) (by omega)
  have hkb2 : k / b ≤ k := Nat.div_le_self _ _
  have hkb3 : k % b < b := Nat.mod_lt _ hb
  refine mm_enter hl (by decide +kernel) rfl rfl rfl (Nat.le_of_ble_eq_true rfl) ?_
  show mT _ _ _ _ 0 [.int (nI p), .int (nI k), .int (nI m), .int a, .int (nI b)] [] _ _ 0 0
  refine mt_iload_n dX2_patternKey_0 rfl ?_
  obtain rfl | rfl | rfl | rfl | rfl | rfl | rfl | rfl : p = 0 ∨ p = 1 ∨ p = 2 ∨ p = 3 ∨ p = 4 ∨ p = 5 ∨ p = 6 ∨ p = 7 := by omega
  · refine mt_tableOut dX2_patternKey_1 (by decide +kernel) (tgt := 129) rfl ?_
    refine mt_iload_n dX2_patternKey_129 rfl ?_
    refine mt_ireturn dX2_patternKey_130 rfl rfl (Nat.le_of_ble_eq_true rfl) (Nat.le_of_ble_eq_true rfl) ?_
    exact ⟨by simp only [patKey], rfl, rfl⟩
  · refine mt_tableIn dX2_patternKey_1 (off := 39) (by decide +kernel) (by decide +kernel) (by decide +kernel) (tgt := 40) rfl ?_
    refine mt_iload_n dX2_patternKey_40 rfl ?_
    refine mt_iload_n dX2_patternKey_41 rfl ?_
    refine mt_iload dX2_patternKey_42 rfl ?_
    refine mp_imul dX2_patternKey_44 (v := nI (k * b)) (mI_mul _ _) ?_
    refine mp_iadd dX2_patternKey_45 (v := a + (nI (k * b))) rfl ?_
    refine mt_ireturn dX2_patternKey_46 rfl rfl (Nat.le_of_ble_eq_true rfl) (Nat.le_of_ble_eq_true rfl) ?_
    exact ⟨by simp only [patKey], rfl, rfl⟩
  · refine mt_tableIn dX2_patternKey_1 (off := 46) (by decide +kernel) (by decide +kernel) (by decide +kernel) (tgt := 47) rfl ?_
    refine mt_iload_n dX2_patternKey_47 rfl ?_
    refine mt_iload_n dX2_patternKey_48 rfl ?_
    refine mt_iload dX2_patternKey_49 rfl ?_
    refine mp_imul dX2_patternKey_51 (v := nI (k * b)) (mI_mul _ _) ?_
    refine mp_isub dX2_patternKey_52 (v := a - (nI (k * b))) rfl ?_
    refine mt_ireturn dX2_patternKey_53 rfl rfl (Nat.le_of_ble_eq_true rfl) (Nat.le_of_ble_eq_true rfl) ?_
    exact ⟨by simp only [patKey], rfl, rfl⟩
  · refine mt_tableIn dX2_patternKey_1 (off := 53) (by decide +kernel) (by decide +kernel) (by decide +kernel) (tgt := 54) rfl ?_
    refine mt_iload_n dX2_patternKey_54 rfl ?_
    refine mt_iload_n dX2_patternKey_55 rfl ?_
    refine mt_iload dX2_patternKey_56 rfl ?_
    refine mp_irem dX2_patternKey_58 (mI_ne0 (by omega) (by omega)) (v := nI (k % b)) (pk_rem (by omega) (by omega) (by omega)) ?_
    refine mp_iadd dX2_patternKey_59 (v := a + (nI (k % b))) rfl ?_
    refine mt_ireturn dX2_patternKey_60 rfl rfl (Nat.le_of_ble_eq_true rfl) (Nat.le_of_ble_eq_true rfl) ?_
    exact ⟨by simp only [patKey], rfl, rfl⟩
  · refine mt_tableIn dX2_patternKey_1 (off := 60) (by decide +kernel) (by decide +kernel) (by decide +kernel) (tgt := 61) rfl ?_
    refine mt_iload_n dX2_patternKey_61 rfl ?_
    refine mt_iload dX2_patternKey_62 rfl ?_
    refine mp_idiv dX2_patternKey_64 (mI_ne0 (by omega) (by omega)) (v := nI (k / b)) (pk_div (by omega) (by omega) (by omega)) ?_
    refine mt_iconst dX2_patternKey_65 (v := nI 2) rfl ?_
    refine mp_irem dX2_patternKey_66 (mI_ne0 (by omega) (by omega)) (v := nI ((k / b) % 2)) (pk_rem (by omega) (by omega) (by omega)) ?_
    refine mt_if_ne dX2_patternKey_67 (tgt := 79) rfl (fun q1 => ?_) (fun q1 => ?_)
    · have q1 := (not_congr (mI_eq0 (by omega))).mp q1
      refine mt_iload_n dX2_patternKey_79 rfl ?_
      refine mt_iload dX2_patternKey_80 rfl ?_
      refine mp_iadd dX2_patternKey_82 (v := a + (nI b)) rfl ?_
      refine mt_iconst dX2_patternKey_83 (v := nI 1) rfl ?_
      refine mp_isub dX2_patternKey_84 (v := (a + (nI b)) - (nI 1)) rfl ?_
      refine mt_iload_n dX2_patternKey_85 rfl ?_
      refine mt_iload dX2_patternKey_86 rfl ?_
      refine mp_irem dX2_patternKey_88 (mI_ne0 (by omega) (by omega)) (v := nI (k % b)) (pk_rem (by omega) (by omega) (by omega)) ?_
      refine mp_isub dX2_patternKey_89 (v := ((a + (nI b)) - (nI 1)) - (nI (k % b))) rfl ?_
      refine mt_ireturn dX2_patternKey_90 rfl rfl (Nat.le_of_ble_eq_true rfl) (Nat.le_of_ble_eq_true rfl) ?_
      exact ⟨by simp only [patKey, if_neg q1], rfl, rfl⟩
    · have q1 := (mI_eq0 (by omega)).mp q1
      refine mt_iload_n dX2_patternKey_70 rfl ?_
      refine mt_iload_n dX2_patternKey_71 rfl ?_
      refine mt_iload dX2_patternKey_72 rfl ?_
      refine mp_irem dX2_patternKey_74 (mI_ne0 (by omega) (by omega)) (v := nI (k % b)) (pk_rem (by omega) (by omega) (by omega)) ?_
      refine mp_iadd dX2_patternKey_75 (v := a + (nI (k % b))) rfl ?_
      refine mt_goto dX2_patternKey_76 (tgt := 90) rfl ?_
      refine mt_ireturn dX2_patternKey_90 rfl rfl (Nat.le_of_ble_eq_true rfl) (Nat.le_of_ble_eq_true rfl) ?_
      exact ⟨by simp only [patKey, if_pos q1], rfl, rfl⟩
  · refine mt_tableIn dX2_patternKey_1 (off := 90) (by decide +kernel) (by decide +kernel) (by decide +kernel) (tgt := 91) rfl ?_
    refine mt_iload_n dX2_patternKey_91 rfl ?_
    refine mt_iload dX2_patternKey_92 rfl ?_
    refine mt_iload_n dX2_patternKey_94 rfl ?_
    refine mt_iload_n dX2_patternKey_95 rfl ?_
    refine mt_iconst dX2_patternKey_96 (v := nI 1) rfl ?_
    refine mp_isub dX2_patternKey_97 (v := nI (m - 1)) (pk_sub (by omega)) ?_
    refine mt_iload_n dX2_patternKey_98 rfl ?_
    refine mp_isub dX2_patternKey_99 (v := nI ((m - 1) - k)) (pk_sub (by omega)) ?_
    refine mt_mmin dX2_patternKey_100 mw_429 mw_152 mw_41 (mw_min) (Nat.le_of_ble_eq_true rfl) ⟨Nat.le_of_ble_eq_true rfl, Nat.le_of_ble_eq_true rfl⟩ (Nat.le_of_ble_eq_true rfl) (Nat.le_of_ble_eq_true rfl) (v := nI (min k ((m - 1) - k))) (mI_min (by omega) (by omega)) ?_
    refine mp_imul dX2_patternKey_103 (v := nI (b * (min k ((m - 1) - k)))) (mI_mul _ _) ?_
    refine mp_iadd dX2_patternKey_104 (v := a + (nI (b * (min k ((m - 1) - k))))) rfl ?_
    refine mt_ireturn dX2_patternKey_105 rfl rfl (Nat.le_of_ble_eq_true rfl) (Nat.le_of_ble_eq_true rfl) ?_
    exact ⟨by simp only [patKey], rfl, rfl⟩
  · refine mt_tableIn dX2_patternKey_1 (off := 105) (by decide +kernel) (by decide +kernel) (by decide +kernel) (tgt := 106) rfl ?_
    refine mt_iload_n dX2_patternKey_106 rfl ?_
    refine mt_iconst dX2_patternKey_107 (v := nI 2) rfl ?_
    refine mp_irem dX2_patternKey_108 (mI_ne0 (by omega) (by omega)) (v := nI (k % 2)) (pk_rem (by omega) (by omega) (by omega)) ?_
    refine mt_if_ne dX2_patternKey_109 (tgt := 120) rfl (fun q2 => ?_) (fun q2 => ?_)
    · have q2 := (not_congr (mI_eq0 (by omega))).mp q2
      refine mt_iload_n dX2_patternKey_120 rfl ?_
      refine mt_iload dX2_patternKey_121 rfl ?_
      refine mp_iadd dX2_patternKey_123 (v := a + (nI b)) rfl ?_
      refine mt_iload_n dX2_patternKey_124 rfl ?_
      refine mt_iconst dX2_patternKey_125 (v := nI 2) rfl ?_
      refine mp_idiv dX2_patternKey_126 (mI_ne0 (by omega) (by omega)) (v := nI (k / 2)) (pk_div (by omega) (by omega) (by omega)) ?_
      refine mp_isub dX2_patternKey_127 (v := (a + (nI b)) - (nI (k / 2))) rfl ?_
      refine mt_ireturn dX2_patternKey_128 rfl rfl (Nat.le_of_ble_eq_true rfl) (Nat.le_of_ble_eq_true rfl) ?_
      exact ⟨by simp only [patKey, if_neg q2], rfl, rfl⟩
    · have q2 := (mI_eq0 (by omega)).mp q2
      refine mt_iload_n dX2_patternKey_112 rfl ?_
      refine mt_iload_n dX2_patternKey_113 rfl ?_
      refine mt_iconst dX2_patternKey_114 (v := nI 2) rfl ?_
      refine mp_idiv dX2_patternKey_115 (mI_ne0 (by omega) (by omega)) (v := nI (k / 2)) (pk_div (by omega) (by omega) (by omega)) ?_
      refine mp_iadd dX2_patternKey_116 (v := a + (nI (k / 2))) rfl ?_
      refine mt_goto dX2_patternKey_117 (tgt := 128) rfl ?_
      refine mt_ireturn dX2_patternKey_128 rfl rfl (Nat.le_of_ble_eq_true rfl) (Nat.le_of_ble_eq_true rfl) ?_
      exact ⟨by simp only [patKey, if_pos q2], rfl, rfl⟩
  · refine mt_tableOut dX2_patternKey_1 (by decide +kernel) (tgt := 129) rfl ?_
    refine mt_iload_n dX2_patternKey_129 rfl ?_
    refine mt_ireturn dX2_patternKey_130 rfl rfl (Nat.le_of_ble_eq_true rfl) (Nat.le_of_ble_eq_true rfl) ?_
    exact ⟨by simp only [patKey], rfl, rfl⟩
abbrev rX2_appendPattern : Room := { frames := 2, cells := 0, slots := 0, locals := 45 }
set_option maxRecDepth 100000 in
set_option maxHeartbeats 2000000 in
theorem tX2_appendPattern_3 {l : Launch} {K : mK} {n a room r1 r14 m b : Nat} {bl : Bool} {ac rf kn av : Int32} {p : Nat} {r : List mIt × Int32} {h0 : mH} (hl : l.stackTraces = false) (h0a : 0 < a) (hmr : m ≤ room) (hp : p < 8) (hm : m ≤ 320) (hb : 0 < b) (hb2 : b < 100) (kk0 : ∀ (k : Nat) (h : mH) (ys : List mIt) (g : Int32), (rowAt h a room (mb bl) ys) → (h 0 = .inr (.inr (4, [.ref r1, .ref r14, .int g, .int ac, .int rf, .int kn]))) → (∀ j, ((j < a ∨ a + 3 ≤ j) ∧ j ≠ 0) → h j = h0 j) → ((ys, g) = r) → mT l mX2_appendPattern rX2_appendPattern K 35 [.ref 0, .ref a, .int (nI m), .int (nI p), .int av, .int (nI b), .int (nI k)] [] h n 0 0) : ∀ (N0 : Nat) (k : Nat) (h : mH) (ys : List mIt) (g : Int32), (m - k) < N0 → (h 0 = .inr (.inr (4, [.ref r1, .ref r14, .int g, .int ac, .int rf, .int kn]))) → (rowAt h a room (mb bl) ys) → (∀ j, ((j < a ∨ a + 3 ≤ j) ∧ j ≠ 0) → h j = h0 j) → (mlp (stPat p m av b bl) (m - k) k (ys, g) = r) → (ys.length = k) → (k ≤ m) → mT l mX2_appendPattern rX2_appendPattern K 3 [.ref 0, .ref a, .int (nI m), .int (nI p), .int av, .int (nI b), .int (nI k)] [] h n 0 0 := by
  intro N0
  induction N0 with
  | zero => intro k h ys g hm; exact absurd hm (Nat.not_lt_zero _)
  | succ N0 ih =>
    intro k h ys g hm C0 H hfr hr hys hkm
    refine mt_iload dX2_appendPattern_3 rfl ?_
    refine mt_iload_n dX2_appendPattern_5 rfl ?_
    refine mt_icmp_ge dX2_appendPattern_6 (tgt := 35) rfl (fun q1 => ?_) (fun q1 => ?_)
    · have q1 := Int32.not_lt.mpr q1
      have q1 := (not_congr (nI_ltI (by omega) (by omega))).mp q1
      exact kk0 k h ys g H C0 hfr ((mlp_end (f := stPat p m av b bl) (by omega)).symm.trans hr)
    · have q1 := Int32.not_le.mp q1
      have q1 := (nI_ltI (by omega) (by omega)).mp q1
      refine mt_aload_n dX2_appendPattern_9 rfl rfl ?_
      refine mt_iload_n dX2_appendPattern_10 rfl ?_
      refine mt_iload dX2_appendPattern_11 rfl ?_
      refine mt_iload_n dX2_appendPattern_13 rfl ?_
      refine mt_iload dX2_appendPattern_14 rfl ?_
      refine mt_iload dX2_appendPattern_16 rfl ?_
      refine mt_callS (N := mX2_patternKey) (Rc := rX2_patternKey) (As := [.int (nI p), .int (nI k), .int (nI m), .int av, .int (nI b)]) (st := [.ref a]) dX2_appendPattern_18 (kX2_patternKey hl (by omega) (by omega) (by omega) (by omega) (by omega)) sX2_patternKey mw_426 rfl (Nat.le_of_ble_eq_true rfl) ⟨⟨Nat.le_of_ble_eq_true rfl, Nat.le_of_ble_eq_true rfl⟩, Nat.le_of_ble_eq_true rfl, Nat.le_of_ble_eq_true rfl⟩ (fun v2 h3 n4 c5 => ?_) (fun _ _ _ hx => hx.elim)
      obtain ⟨c5a, c5b, c5c⟩ := c5
      rw [c5a, c5b, c5c]
      show mT _ _ _ _ 21 [.ref 0, .ref a, .int (nI m), .int (nI p), .int av, .int (nI b), .int (nI k)] [.int (patKey p k m av b), .ref a] _ _ _ _
      refine mt_aload_n dX2_appendPattern_21 rfl rfl ?_
      refine mt_aload_n dX2_appendPattern_22 rfl rfl ?_
      obtain ⟨f_6, g_6, ea_6, ek_6, es_6, ql_6, qr_6, qk_6, qt_6⟩ := id H
      refine mt_callV (N := mX2_stampOfNew) (Rc := rX2_stampOfNew) (As := [.ref a]) (st := [.int (patKey p k m av b), .ref a]) dX2_appendPattern_23 (kX2_stampOfNew hl C0 ea_6) sX2_stampOfNew mw_413 mKX2 rfl C0 rfl (Nat.le_of_ble_eq_true rfl) ⟨⟨Nat.le_of_ble_eq_true rfl, Nat.le_of_ble_eq_true rfl⟩, Nat.le_of_ble_eq_true rfl, Nat.le_of_ble_eq_true rfl⟩ (fun v7 h8 n9 c10 => ?_) (fun _ _ _ hx => hx.elim)
      obtain ⟨c10a, c10b, c10c, c10d⟩ := c10
      rw [c10a, c10b]
      show mT _ _ _ _ 26 [.ref 0, .ref a, .int (nI m), .int (nI p), .int av, .int (nI b), .int (nI k)] [.int (nst bl g), .int (patKey p k m av b), .ref a] _ _ _ _
      have H11 : rowAt h8 a room (mb (bl)) ys := (H).fr (fun j j1 j2 => c10d j (by omega))
      refine mt_callV (N := mX1_append) (Rc := rX1_append) (As := [.int (patKey p k m av b), .int (nst bl g)]) (st := []) dX2_appendPattern_26 (kX1_append hl H11 (by first | omega | assumption | (simp only [List.length_append, List.length_cons, List.length_nil, span_len, Nat.sub_zero] at *; omega))) sX1_append mw_421 mKX1 rfl ((c10d (a) (by omega)).trans ea_6) rfl (Nat.le_of_ble_eq_true rfl) ⟨⟨Nat.le_of_ble_eq_true rfl, Nat.le_of_ble_eq_true rfl⟩, Nat.le_of_ble_eq_true rfl, Nat.le_of_ble_eq_true rfl⟩ (fun v12 h13 n14 c15 => ?_) (fun _ _ _ hx => hx.elim)
      obtain ⟨c15a, c15b, c15c, c15d⟩ := c15
      rw [c15a, c15b]
      show mT _ _ _ _ 29 [.ref 0, .ref a, .int (nI m), .int (nI p), .int av, .int (nI b), .int (nI k)] [] _ _ _ _
      refine mp_iinc dX2_appendPattern_29 rfl (v := nI (k + 1)) mI_inc (ls' := [.ref 0, .ref a, .int (nI m), .int (nI p), .int av, .int (nI b), .int (nI (k + 1))]) rfl (by decide) rfl ?_
      refine mt_goto dX2_appendPattern_32 (tgt := 3) rfl ?_
      exact ih (k + 1) h13 (ys ++ [(patKey p k m av b, nst bl g)]) (ngv bl g) (by omega) ((c15d (0) (by omega)).trans c10c) c15c (fun j hj => ((c15d j (by omega)).trans (c10d j (by omega))).trans (hfr j hj)) ((mlp_go (f := stPat p m av b bl) (by omega) rfl).symm.trans hr) (by simp only [List.length_append, List.length_cons, List.length_nil]; omega) (by omega)
set_option maxRecDepth 100000 in
set_option maxHeartbeats 2000000 in
theorem kX2_appendPattern {l : Launch} (hl : l.stackTraces = false) {h : mH} {n a room r1 r14 m b : Nat} {bl : Bool} {ac rf kn av : Int32} {p : Nat} {g : Int32} (C0 : h 0 = .inr (.inr (4, [.ref r1, .ref r14, .int g, .int ac, .int rf, .int kn]))) (H : rowAt h a room (mb bl) []) (h0a : 0 < a) (hmr : m ≤ room) (hp : p < 8) (hm : m ≤ 320) (hb : 0 < b) (hb2 : b < 100) : mC l mX2_appendPattern rX2_appendPattern [.ref 0, .ref a, .int (nI m), .int (nI p), .int av, .int (nI b)] h n (fun v h' n' => v = none ∧ n' = n ∧ rowAt h' a room (mb bl) (mlp (stPat p m av b bl) (m - 0) 0 ([], g)).1 ∧ h' 0 = .inr (.inr (4, [.ref r1, .ref r14, .int ((mlp (stPat p m av b bl) (m - 0) 0 ([], g)).2), .int ac, .int rf, .int kn])) ∧ ∀ j, ((j < a ∨ a + 3 ≤ j) ∧ j ≠ 0) → h' j = h j) (mNX) := by
  refine mm_enter hl (by decide +kernel) rfl rfl rfl (Nat.le_of_ble_eq_true rfl) ?_
  show mT _ _ _ _ 0 [.ref 0, .ref a, .int (nI m), .int (nI p), .int av, .int (nI b), .double 0] [] _ _ 0 0
  refine mt_iconst dX2_appendPattern_0 (v := nI 0) rfl ?_
  refine mp_istore dX2_appendPattern_1 (ls' := [.ref 0, .ref a, .int (nI m), .int (nI p), .int av, .int (nI b), .int (nI 0)]) rfl (by decide) rfl ?_
  refine tX2_appendPattern_3 hl h0a hmr hp hm hb hb2 (fun k_1 h_2 ys_3 g_4 z5 z6 z7 z8 => ?_) (m - 0 + 1) 0 h ([]) g (Nat.lt_succ_self _) C0 H (fun _ _ => rfl) rfl rfl (by omega)
  refine mt_return dX2_appendPattern_35 rfl (Nat.le_of_ble_eq_true rfl) (Nat.le_of_ble_eq_true rfl) ?_
  exact ⟨rfl, rfl, (congrArg Prod.fst z8) ▸ z5, z6.trans (congrArg (fun q : List mIt × Int32 => (Sum.inr (Sum.inr (4, [.ref r1, .ref r14, .int q.2, .int ac, .int rf, .int kn])) : mE)) z8), z7⟩
abbrev rX2_appendDrawn : Room := { frames := 2, cells := 0, slots := 0, locals := 42 }
set_option maxRecDepth 100000 in
set_option maxHeartbeats 2000000 in
theorem tX2_appendDrawn_21 {l : Launch} {K : mK} {n a room r1 r14 m b : Nat} {bl : Bool} {ac rf kn av : Int32} {r : List mIt × Int32 × Int32} {h0 : mH} (hl : l.stackTraces = false) (h0a : 0 < a) (hmr : m ≤ room) (hm : m ≤ 320) (hb2 : b < 100) (kk0 : ∀ (k : Nat) (h : mH) (ys : List mIt) (g : Int32) (x : Int32), (rowAt h a room (mb bl) ys) → (h 0 = .inr (.inr (4, [.ref r1, .ref r14, .int g, .int ac, .int rf, .int kn]))) → (∀ j, ((j < a ∨ a + 3 ≤ j) ∧ j ≠ 0) → h j = h0 j) → ((ys, g, x) = r) → mT l mX2_appendDrawn rX2_appendDrawn K 64 [.ref 0, .ref a, .int (nI m), .int av, .int (nI b), .int x, .int (nI k)] [] h n 0 0) : ∀ (N0 : Nat) (k : Nat) (h : mH) (ys : List mIt) (g : Int32) (x : Int32), (m - k) < N0 → (h 0 = .inr (.inr (4, [.ref r1, .ref r14, .int g, .int ac, .int rf, .int kn]))) → (rowAt h a room (mb bl) ys) → (∀ j, ((j < a ∨ a + 3 ≤ j) ∧ j ≠ 0) → h j = h0 j) → (mlp (stDrw bl) (m - k) k (ys, g, x) = r) → (ys.length = k) → (k ≤ m) → mT l mX2_appendDrawn rX2_appendDrawn K 21 [.ref 0, .ref a, .int (nI m), .int av, .int (nI b), .int x, .int (nI k)] [] h n 0 0 := by
  intro N0
  induction N0 with
  | zero => intro k h ys g x hm; exact absurd hm (Nat.not_lt_zero _)
  | succ N0 ih =>
    intro k h ys g x hm C0 H hfr hr hys hkm
    refine mt_iload dX2_appendDrawn_21 rfl ?_
    refine mt_iload_n dX2_appendDrawn_23 rfl ?_
    refine mt_icmp_ge dX2_appendDrawn_24 (tgt := 64) rfl (fun q1 => ?_) (fun q1 => ?_)
    · have q1 := Int32.not_lt.mpr q1
      have q1 := (not_congr (nI_ltI (by omega) (by omega))).mp q1
      exact kk0 k h ys g x H C0 hfr ((mlp_end (f := stDrw bl) (by omega)).symm.trans hr)
    · have q1 := Int32.not_le.mp q1
      have q1 := (nI_ltI (by omega) (by omega)).mp q1
      refine mt_iload dX2_appendDrawn_27 rfl ?_
      refine mt_sipush dX2_appendDrawn_29 (v := nI 25173) (by decide) ?_
      refine mp_imul dX2_appendDrawn_32 (v := x * (nI 25173)) rfl ?_
      refine mt_sipush dX2_appendDrawn_33 (v := nI 13849) (by decide) ?_
      refine mp_iadd dX2_appendDrawn_36 (v := (x * (nI 25173)) + (nI 13849)) rfl ?_
      refine mt_ldcw (v := nI 65536) dX2_appendDrawn_37 mw_412 ?_
      refine mp_irem dX2_appendDrawn_40 ((mI_ne0 (by first | decide | omega) (by first | decide | omega))) (v := ((x * (nI 25173)) + (nI 13849)) - ((x * (nI 25173)) + (nI 13849)) / (nI 65536) * (nI 65536)) rfl ?_
      refine mp_istore dX2_appendDrawn_41 (ls' := [.ref 0, .ref a, .int (nI m), .int av, .int (nI b), .int (((x * (nI 25173)) + (nI 13849)) - ((x * (nI 25173)) + (nI 13849)) / (nI 65536) * (nI 65536)), .int (nI k)]) rfl (by decide) rfl ?_
      refine mt_aload_n dX2_appendDrawn_43 rfl rfl ?_
      refine mt_iload dX2_appendDrawn_44 rfl ?_
      refine mt_sipush dX2_appendDrawn_46 (v := nI 512) (by decide) ?_
      refine mp_irem dX2_appendDrawn_49 ((mI_ne0 (by first | decide | omega) (by first | decide | omega))) (v := (((x * (nI 25173)) + (nI 13849)) - ((x * (nI 25173)) + (nI 13849)) / (nI 65536) * (nI 65536)) - (((x * (nI 25173)) + (nI 13849)) - ((x * (nI 25173)) + (nI 13849)) / (nI 65536) * (nI 65536)) / (nI 512) * (nI 512)) rfl ?_
      refine mt_aload_n dX2_appendDrawn_50 rfl rfl ?_
      refine mt_aload_n dX2_appendDrawn_51 rfl rfl ?_
      obtain ⟨f_2, g_2, ea_2, ek_2, es_2, ql_2, qr_2, qk_2, qt_2⟩ := id H
      refine mt_callV (N := mX2_stampOfNew) (Rc := rX2_stampOfNew) (As := [.ref a]) (st := [.int ((((x * (nI 25173)) + (nI 13849)) - ((x * (nI 25173)) + (nI 13849)) / (nI 65536) * (nI 65536)) - (((x * (nI 25173)) + (nI 13849)) - ((x * (nI 25173)) + (nI 13849)) / (nI 65536) * (nI 65536)) / (nI 512) * (nI 512)), .ref a]) dX2_appendDrawn_52 (kX2_stampOfNew hl C0 ea_2) sX2_stampOfNew mw_413 mKX2 rfl C0 rfl (Nat.le_of_ble_eq_true rfl) ⟨⟨Nat.le_of_ble_eq_true rfl, Nat.le_of_ble_eq_true rfl⟩, Nat.le_of_ble_eq_true rfl, Nat.le_of_ble_eq_true rfl⟩ (fun v3 h4 n5 c6 => ?_) (fun _ _ _ hx => hx.elim)
      obtain ⟨c6a, c6b, c6c, c6d⟩ := c6
      rw [c6a, c6b]
      show mT _ _ _ _ 55 [.ref 0, .ref a, .int (nI m), .int av, .int (nI b), .int (((x * (nI 25173)) + (nI 13849)) - ((x * (nI 25173)) + (nI 13849)) / (nI 65536) * (nI 65536)), .int (nI k)] [.int (nst bl g), .int ((((x * (nI 25173)) + (nI 13849)) - ((x * (nI 25173)) + (nI 13849)) / (nI 65536) * (nI 65536)) - (((x * (nI 25173)) + (nI 13849)) - ((x * (nI 25173)) + (nI 13849)) / (nI 65536) * (nI 65536)) / (nI 512) * (nI 512)), .ref a] _ _ _ _
      have H7 : rowAt h4 a room (mb (bl)) ys := (H).fr (fun j j1 j2 => c6d j (by omega))
      refine mt_callV (N := mX1_append) (Rc := rX1_append) (As := [.int ((((x * (nI 25173)) + (nI 13849)) - ((x * (nI 25173)) + (nI 13849)) / (nI 65536) * (nI 65536)) - (((x * (nI 25173)) + (nI 13849)) - ((x * (nI 25173)) + (nI 13849)) / (nI 65536) * (nI 65536)) / (nI 512) * (nI 512)), .int (nst bl g)]) (st := []) dX2_appendDrawn_55 (kX1_append hl H7 (by first | omega | assumption | (simp only [List.length_append, List.length_cons, List.length_nil, span_len, Nat.sub_zero] at *; omega))) sX1_append mw_421 mKX1 rfl ((c6d (a) (by omega)).trans ea_2) rfl (Nat.le_of_ble_eq_true rfl) ⟨⟨Nat.le_of_ble_eq_true rfl, Nat.le_of_ble_eq_true rfl⟩, Nat.le_of_ble_eq_true rfl, Nat.le_of_ble_eq_true rfl⟩ (fun v8 h9 n10 c11 => ?_) (fun _ _ _ hx => hx.elim)
      obtain ⟨c11a, c11b, c11c, c11d⟩ := c11
      rw [c11a, c11b]
      show mT _ _ _ _ 58 [.ref 0, .ref a, .int (nI m), .int av, .int (nI b), .int (((x * (nI 25173)) + (nI 13849)) - ((x * (nI 25173)) + (nI 13849)) / (nI 65536) * (nI 65536)), .int (nI k)] [] _ _ _ _
      refine mp_iinc dX2_appendDrawn_58 rfl (v := nI (k + 1)) mI_inc (ls' := [.ref 0, .ref a, .int (nI m), .int av, .int (nI b), .int (((x * (nI 25173)) + (nI 13849)) - ((x * (nI 25173)) + (nI 13849)) / (nI 65536) * (nI 65536)), .int (nI (k + 1))]) rfl (by decide) rfl ?_
      refine mt_goto dX2_appendDrawn_61 (tgt := 21) rfl ?_
      exact ih (k + 1) h9 (ys ++ [((((x * (nI 25173)) + (nI 13849)) - ((x * (nI 25173)) + (nI 13849)) / (nI 65536) * (nI 65536)) - (((x * (nI 25173)) + (nI 13849)) - ((x * (nI 25173)) + (nI 13849)) / (nI 65536) * (nI 65536)) / (nI 512) * (nI 512), nst bl g)]) (ngv bl g) (((x * (nI 25173)) + (nI 13849)) - ((x * (nI 25173)) + (nI 13849)) / (nI 65536) * (nI 65536)) (by omega) ((c11d (0) (by omega)).trans c6c) c11c (fun j hj => ((c11d j (by omega)).trans (c6d j (by omega))).trans (hfr j hj)) ((mlp_go (f := stDrw bl) (by omega) rfl).symm.trans hr) (by simp only [List.length_append, List.length_cons, List.length_nil]; omega) (by omega)
set_option maxRecDepth 100000 in
set_option maxHeartbeats 2000000 in
theorem kX2_appendDrawn {l : Launch} (hl : l.stackTraces = false) {h : mH} {n a room r1 r14 m b : Nat} {bl : Bool} {ac rf kn av : Int32} {g : Int32} (C0 : h 0 = .inr (.inr (4, [.ref r1, .ref r14, .int g, .int ac, .int rf, .int kn]))) (H : rowAt h a room (mb bl) []) (h0a : 0 < a) (hmr : m ≤ room) (hm : m ≤ 320) (hb2 : b < 100) : mC l mX2_appendDrawn rX2_appendDrawn [.ref 0, .ref a, .int (nI m), .int av, .int (nI b)] h n (fun v h' n' => v = none ∧ n' = n ∧ rowAt h' a room (mb bl) (mlp (stDrw bl) (m - 0) 0 ([], g, drx av b)).1 ∧ h' 0 = .inr (.inr (4, [.ref r1, .ref r14, .int ((mlp (stDrw bl) (m - 0) 0 ([], g, drx av b)).2.1), .int ac, .int rf, .int kn])) ∧ ∀ j, ((j < a ∨ a + 3 ≤ j) ∧ j ≠ 0) → h' j = h j) (mNX) := by
  refine mm_enter hl (by decide +kernel) rfl rfl rfl (Nat.le_of_ble_eq_true rfl) ?_
  show mT _ _ _ _ 0 [.ref 0, .ref a, .int (nI m), .int av, .int (nI b), .double 0, .double 0] [] _ _ 0 0
  refine mt_sipush dX2_appendDrawn_0 (v := nI 1000) (by decide) ?_
  refine mt_iload dX2_appendDrawn_3 rfl ?_
  refine mp_imul dX2_appendDrawn_5 (v := nI (1000 * b)) (mI_mul _ _) ?_
  refine mt_iload_n dX2_appendDrawn_6 rfl ?_
  refine mp_iadd dX2_appendDrawn_7 (v := (nI (1000 * b)) + av) rfl ?_
  refine mt_sipush dX2_appendDrawn_8 (v := nI 999) (by decide) ?_
  refine mp_iadd dX2_appendDrawn_11 (v := ((nI (1000 * b)) + av) + (nI 999)) rfl ?_
  refine mt_ldcw (v := nI 65536) dX2_appendDrawn_12 mw_412 ?_
  refine mp_irem dX2_appendDrawn_15 ((mI_ne0 (by first | decide | omega) (by first | decide | omega))) (v := (((nI (1000 * b)) + av) + (nI 999)) - (((nI (1000 * b)) + av) + (nI 999)) / (nI 65536) * (nI 65536)) rfl ?_
  refine mp_istore dX2_appendDrawn_16 (ls' := [.ref 0, .ref a, .int (nI m), .int av, .int (nI b), .int ((((nI (1000 * b)) + av) + (nI 999)) - (((nI (1000 * b)) + av) + (nI 999)) / (nI 65536) * (nI 65536)), .double 0]) rfl (by decide) rfl ?_
  refine mt_iconst dX2_appendDrawn_18 (v := nI 0) rfl ?_
  refine mp_istore dX2_appendDrawn_19 (ls' := [.ref 0, .ref a, .int (nI m), .int av, .int (nI b), .int ((((nI (1000 * b)) + av) + (nI 999)) - (((nI (1000 * b)) + av) + (nI 999)) / (nI 65536) * (nI 65536)), .int (nI 0)]) rfl (by decide) rfl ?_
  refine tX2_appendDrawn_21 hl h0a hmr hm hb2 (fun k_1 h_2 ys_3 g_4 x_5 z6 z7 z8 z9 => ?_) (m - 0 + 1) 0 h ([]) g ((((nI (1000 * b)) + av) + (nI 999)) - (((nI (1000 * b)) + av) + (nI 999)) / (nI 65536) * (nI 65536)) (Nat.lt_succ_self _) C0 H (fun _ _ => rfl) rfl rfl (by omega)
  refine mt_return dX2_appendDrawn_64 rfl (Nat.le_of_ble_eq_true rfl) (Nat.le_of_ble_eq_true rfl) ?_
  exact ⟨rfl, rfl, (congrArg Prod.fst z9) ▸ z6, z7.trans (congrArg (fun q : List mIt × Int32 × Int32 => (Sum.inr (Sum.inr (4, [.ref r1, .ref r14, .int q.2.1, .int ac, .int rf, .int kn])) : mE)) z9), z8⟩
def fillL (p m : Nat) (a : Int32) (b : Nat) (bl : Bool) (g : Int32) : List mIt × Int32 := if p = 7 then ((mlp (stDrw bl) (m - 0) 0 ([], g, drx a b)).1, (mlp (stDrw bl) (m - 0) 0 ([], g, drx a b)).2.1) else mlp (stPat p m a b bl) (m - 0) 0 ([], g)
def sp_fill (S : cS) (row : Int32) (many : Int32) (pattern : Int32) (a : Int32) (b : Int32) : Nat × Value × cS := dAt S 4 row fun r => dArg S (rroom r + 1) many fun m => dArg S 8 pattern fun p => dFit S (aOk a) (dB S b fun bn => (0, .int (nI (S.1 r).length), cAct (cGiv (cSet S r (fillL p m a bn (decide (r < 2)) S.2.1).1) (fillL p m a bn (decide (r < 2)) S.2.1).2)))
abbrev rX2_fill : Room := { frames := 7, cells := 5, slots := 30, locals := 111 }
set_option maxRecDepth 100000 in
set_option maxHeartbeats 2000000 in
theorem kX2_fill {l : Launch} (hl : l.stackTraces = false) {h : mH} {n : Nat} {S : cS} {row : Int32} {many : Int32} {pattern : Int32} {a : Int32} {b : Int32} (C : cAt h S) : mC l mX2_fill rX2_fill [.ref 0, .int row, .int many, .int pattern, .int a, .int b] h n (cOk (sp_fill S row many pattern a b) h n) (cNo (sp_fill S row many pattern a b).1 h n) := by
  obtain ⟨C0, ⟨cg, C1, C1g⟩, C14, CR, ⟨zs15, HK15⟩, ⟨zs18, HK18⟩, ⟨zs21, HK21⟩, ⟨zs24, HK24⟩⟩ := id C
  refine mm_enter hl (by decide +kernel) rfl rfl rfl (Nat.le_of_ble_eq_true rfl) ?_
  show mT _ _ _ _ 0 [.ref 0, .int row, .int many, .int pattern, .int a, .int b, .double 0, .double 0] [] _ _ 0 0
  refine mt_aload_n dX2_fill_0 rfl rfl ?_
  refine mt_iload_n dX2_fill_1 rfl ?_
  refine mt_callV (N := mX2_rowOf) (Rc := rX2_rowOf) (As := [.int row]) (st := []) dX2_fill_2 (kX2_rowOf hl C) sX2_rowOf mw_230 mKX2 rfl C0 rfl (Nat.le_of_ble_eq_true rfl) ⟨⟨Nat.le_of_ble_eq_true rfl, Nat.le_of_ble_eq_true rfl⟩, Nat.le_of_ble_eq_true rfl, Nat.le_of_ble_eq_true rfl⟩ (fun v1 h2 n3 c4 => ?_) (fun E h9 n9 hx => mt_out rfl (by obtain ⟨rfl, hq, rfl, rfl⟩ := hx; exact cNo.i (by simp only [sp_fill, dAt_n hq])) (Nat.le_of_ble_eq_true rfl) (Nat.le_of_ble_eq_true rfl))
  obtain ⟨r5, hr5, rfl, c4a, c4b, c4c⟩ := c4
  rw [c4a, c4b, c4c]
  have hLr5 := (CR r5 hr5).len
  show mT _ _ _ _ 5 [.ref 0, .int (nI r5), .int many, .int pattern, .int a, .int b, .double 0, .double 0] [.ref (2 + 3 * r5)] _ _ _ _
  refine mp_astore dX2_fill_5 (ls' := [.ref 0, .int (nI r5), .int many, .int pattern, .int a, .int b, .ref (2 + 3 * r5), .double 0]) rfl rfl (by decide) rfl ?_
  refine mt_iload_n dX2_fill_7 rfl ?_
  refine mt_if_lt dX2_fill_8 (tgt := 24) rfl (fun q6 => ?_) (fun q6 => ?_)
  · refine mt_iconst dX2_fill_24 (v := nI 0) rfl ?_
    refine mt_callS (N := mX2_demand) (Rc := rX2_demand) (As := [.int (nI 0)]) (st := []) dX2_fill_25 (kX2_demand_f hl) sX2_demand mw_309 rfl (Nat.le_of_ble_eq_true rfl) ⟨⟨Nat.le_of_ble_eq_true rfl, Nat.le_of_ble_eq_true rfl⟩, Nat.le_of_ble_eq_true rfl, Nat.le_of_ble_eq_true rfl⟩ (fun _ _ _ hv => hv.elim) (fun E h9 n9 hx => ?_)
    obtain ⟨rfl, rfl, rfl⟩ := hx
    refine mt_out rfl ?_ (Nat.le_of_ble_eq_true rfl) (Nat.le_of_ble_eq_true rfl)
    exact cNo.a (by simp only [sp_fill, dArg_n (k := rroom r5 + 1) (x := many) (by first | exact inN_neg (by assumption) | exact inN_gt (by assumption) (by first | decide | omega)), dAt_s hr5 (by decide)])
  · refine mt_iload_n dX2_fill_11 rfl ?_
    refine mt_aload dX2_fill_12 rfl rfl ?_
    have H11 : rowAt h (2 + 3 * r5) (rroom r5) (mb (decide (r5 < 2))) (S.1 r5) := CR r5 (by omega)
    obtain ⟨f_16, g_16, ea_16, ek_16, es_16, ql_16, qr_16, qk_16, qt_16⟩ := id H11
    refine mt_callV (N := mX1_room) (Rc := rX1_room) (As := []) (st := [.int many]) dX2_fill_14 (kX1_room hl H11) sX1_room mw_403 mKX1 rfl ea_16 rfl (Nat.le_of_ble_eq_true rfl) ⟨⟨Nat.le_of_ble_eq_true rfl, Nat.le_of_ble_eq_true rfl⟩, Nat.le_of_ble_eq_true rfl, Nat.le_of_ble_eq_true rfl⟩ (fun v12 h13 n14 c15 => ?_) (fun _ _ _ hx => hx.elim)
    obtain ⟨c15a, c15b, c15c⟩ := c15
    rw [c15a, c15b, c15c]
    show mT _ _ _ _ 17 [.ref 0, .int (nI r5), .int many, .int pattern, .int a, .int b, .ref (2 + 3 * r5), .double 0] [.int (nI (rroom r5)), .int many] _ _ _ _
    refine mt_icmp_gt dX2_fill_17 (tgt := 24) rfl (fun q17 => ?_) (fun q17 => ?_)
    · refine mt_iconst dX2_fill_24 (v := nI 0) rfl ?_
      refine mt_callS (N := mX2_demand) (Rc := rX2_demand) (As := [.int (nI 0)]) (st := []) dX2_fill_25 (kX2_demand_f hl) sX2_demand mw_309 rfl (Nat.le_of_ble_eq_true rfl) ⟨⟨Nat.le_of_ble_eq_true rfl, Nat.le_of_ble_eq_true rfl⟩, Nat.le_of_ble_eq_true rfl, Nat.le_of_ble_eq_true rfl⟩ (fun _ _ _ hv => hv.elim) (fun E h9 n9 hx => ?_)
      obtain ⟨rfl, rfl, rfl⟩ := hx
      refine mt_out rfl ?_ (Nat.le_of_ble_eq_true rfl) (Nat.le_of_ble_eq_true rfl)
      exact cNo.a (by simp only [sp_fill, dArg_n (k := rroom r5 + 1) (x := many) (by first | exact inN_neg (by assumption) | exact inN_gt (by assumption) (by first | decide | omega)), dAt_s hr5 (by decide)])
    · refine mt_iconst dX2_fill_20 (v := nI 1) rfl ?_
      refine mt_goto dX2_fill_21 (tgt := 25) rfl ?_
      obtain ⟨p22, hp22, rfl⟩ := inN_le (k := rroom r5) (by assumption) (by assumption) (by first | decide | omega)
      refine mt_callS (N := mX2_demand) (Rc := rX2_demand) (As := [.int (nI 1)]) (st := []) dX2_fill_25 (kX2_demand_t hl) sX2_demand mw_309 rfl (Nat.le_of_ble_eq_true rfl) ⟨⟨Nat.le_of_ble_eq_true rfl, Nat.le_of_ble_eq_true rfl⟩, Nat.le_of_ble_eq_true rfl, Nat.le_of_ble_eq_true rfl⟩ (fun v23 h24 n25 c26 => ?_) (fun _ _ _ hx => hx.elim)
      obtain ⟨c26a, c26b, c26c⟩ := c26
      rw [c26a, c26b, c26c]
      show mT _ _ _ _ 28 [.ref 0, .int (nI r5), .int (nI p22), .int pattern, .int a, .int b, .ref (2 + 3 * r5), .double 0] [] _ _ _ _
      refine mt_iload_n dX2_fill_28 rfl ?_
      refine mt_if_lt dX2_fill_29 (tgt := 42) rfl (fun q27 => ?_) (fun q27 => ?_)
      · refine mt_iconst dX2_fill_42 (v := nI 0) rfl ?_
        refine mt_callS (N := mX2_demand) (Rc := rX2_demand) (As := [.int (nI 0)]) (st := []) dX2_fill_43 (kX2_demand_f hl) sX2_demand mw_309 rfl (Nat.le_of_ble_eq_true rfl) ⟨⟨Nat.le_of_ble_eq_true rfl, Nat.le_of_ble_eq_true rfl⟩, Nat.le_of_ble_eq_true rfl, Nat.le_of_ble_eq_true rfl⟩ (fun _ _ _ hv => hv.elim) (fun E h9 n9 hx => ?_)
        obtain ⟨rfl, rfl, rfl⟩ := hx
        refine mt_out rfl ?_ (Nat.le_of_ble_eq_true rfl) (Nat.le_of_ble_eq_true rfl)
        exact cNo.a (by simp only [sp_fill, dArg_n (k := 8) (x := pattern) (by first | exact inN_neg (by assumption) | exact inN_gt (by assumption) (by first | decide | omega)), dAt_s hr5 (by decide), dArg_s hp22 (by first | decide | omega)])
      · refine mt_iload_n dX2_fill_32 rfl ?_
        refine mt_bipush dX2_fill_33 (v := nI 7) (by decide) ?_
        refine mt_icmp_gt dX2_fill_35 (tgt := 42) rfl (fun q32 => ?_) (fun q32 => ?_)
        · refine mt_iconst dX2_fill_42 (v := nI 0) rfl ?_
          refine mt_callS (N := mX2_demand) (Rc := rX2_demand) (As := [.int (nI 0)]) (st := []) dX2_fill_43 (kX2_demand_f hl) sX2_demand mw_309 rfl (Nat.le_of_ble_eq_true rfl) ⟨⟨Nat.le_of_ble_eq_true rfl, Nat.le_of_ble_eq_true rfl⟩, Nat.le_of_ble_eq_true rfl, Nat.le_of_ble_eq_true rfl⟩ (fun _ _ _ hv => hv.elim) (fun E h9 n9 hx => ?_)
          obtain ⟨rfl, rfl, rfl⟩ := hx
          refine mt_out rfl ?_ (Nat.le_of_ble_eq_true rfl) (Nat.le_of_ble_eq_true rfl)
          exact cNo.a (by simp only [sp_fill, dArg_n (k := 8) (x := pattern) (by first | exact inN_neg (by assumption) | exact inN_gt (by assumption) (by first | decide | omega)), dAt_s hr5 (by decide), dArg_s hp22 (by first | decide | omega)])
        · refine mt_iconst dX2_fill_38 (v := nI 1) rfl ?_
          refine mt_goto dX2_fill_39 (tgt := 43) rfl ?_
          obtain ⟨p37, hp37, rfl⟩ := inN_le (k := 7) (by assumption) (by assumption) (by first | decide | omega)
          refine mt_callS (N := mX2_demand) (Rc := rX2_demand) (As := [.int (nI 1)]) (st := []) dX2_fill_43 (kX2_demand_t hl) sX2_demand mw_309 rfl (Nat.le_of_ble_eq_true rfl) ⟨⟨Nat.le_of_ble_eq_true rfl, Nat.le_of_ble_eq_true rfl⟩, Nat.le_of_ble_eq_true rfl, Nat.le_of_ble_eq_true rfl⟩ (fun v38 h39 n40 c41 => ?_) (fun _ _ _ hx => hx.elim)
          obtain ⟨c41a, c41b, c41c⟩ := c41
          rw [c41a, c41b, c41c]
          show mT _ _ _ _ 46 [.ref 0, .int (nI r5), .int (nI p22), .int (nI p37), .int a, .int b, .ref (2 + 3 * r5), .double 0] [] _ _ _ _
          refine mt_iload dX2_fill_46 rfl ?_
          refine mt_sipush dX2_fill_48 (v := -999) (by decide) ?_
          refine mt_icmp_lt dX2_fill_51 (tgt := 66) rfl (fun q42 => ?_) (fun q42 => ?_)
          · refine mt_iconst dX2_fill_66 (v := nI 0) rfl ?_
            refine mt_callS (N := mX2_demand) (Rc := rX2_demand) (As := [.int (nI 0)]) (st := []) dX2_fill_67 (kX2_demand_f hl) sX2_demand mw_309 rfl (Nat.le_of_ble_eq_true rfl) ⟨⟨Nat.le_of_ble_eq_true rfl, Nat.le_of_ble_eq_true rfl⟩, Nat.le_of_ble_eq_true rfl, Nat.le_of_ble_eq_true rfl⟩ (fun _ _ _ hv => hv.elim) (fun E h9 n9 hx => ?_)
            obtain ⟨rfl, rfl, rfl⟩ := hx
            refine mt_out rfl ?_ (Nat.le_of_ble_eq_true rfl) (Nat.le_of_ble_eq_true rfl)
            exact cNo.a (by simp only [sp_fill, dFit_n (b := aOk a) (by simp [aOk, q32, q42]), dAt_s hr5 (by decide), dArg_s hp22 (by first | decide | omega), dArg_s (k := 8) hp37 (by first | decide | omega)])
          · refine mt_iload dX2_fill_54 rfl ?_
            refine mt_sipush dX2_fill_56 (v := nI 999) (by decide) ?_
            refine mt_icmp_gt dX2_fill_59 (tgt := 66) rfl (fun q47 => ?_) (fun q47 => ?_)
            · refine mt_iconst dX2_fill_66 (v := nI 0) rfl ?_
              refine mt_callS (N := mX2_demand) (Rc := rX2_demand) (As := [.int (nI 0)]) (st := []) dX2_fill_67 (kX2_demand_f hl) sX2_demand mw_309 rfl (Nat.le_of_ble_eq_true rfl) ⟨⟨Nat.le_of_ble_eq_true rfl, Nat.le_of_ble_eq_true rfl⟩, Nat.le_of_ble_eq_true rfl, Nat.le_of_ble_eq_true rfl⟩ (fun _ _ _ hv => hv.elim) (fun E h9 n9 hx => ?_)
              obtain ⟨rfl, rfl, rfl⟩ := hx
              refine mt_out rfl ?_ (Nat.le_of_ble_eq_true rfl) (Nat.le_of_ble_eq_true rfl)
              exact cNo.a (by simp only [sp_fill, dFit_n (b := aOk a) (by simp [aOk, q42, q47]), dAt_s hr5 (by decide), dArg_s hp22 (by first | decide | omega), dArg_s (k := 8) hp37 (by first | decide | omega)])
            · refine mt_iconst dX2_fill_62 (v := nI 1) rfl ?_
              refine mt_goto dX2_fill_63 (tgt := 67) rfl ?_
              have haok : aOk a = true := by simp [aOk, q42, q47]
              refine mt_callS (N := mX2_demand) (Rc := rX2_demand) (As := [.int (nI 1)]) (st := []) dX2_fill_67 (kX2_demand_t hl) sX2_demand mw_309 rfl (Nat.le_of_ble_eq_true rfl) ⟨⟨Nat.le_of_ble_eq_true rfl, Nat.le_of_ble_eq_true rfl⟩, Nat.le_of_ble_eq_true rfl, Nat.le_of_ble_eq_true rfl⟩ (fun v52 h53 n54 c55 => ?_) (fun _ _ _ hx => hx.elim)
              obtain ⟨c55a, c55b, c55c⟩ := c55
              rw [c55a, c55b, c55c]
              show mT _ _ _ _ 70 [.ref 0, .int (nI r5), .int (nI p22), .int (nI p37), .int a, .int b, .ref (2 + 3 * r5), .double 0] [] _ _ _ _
              refine mt_iload dX2_fill_70 rfl ?_
              refine mt_iconst dX2_fill_72 (v := nI 1) rfl ?_
              refine mt_icmp_lt dX2_fill_73 (tgt := 87) rfl (fun q56 => ?_) (fun q56 => ?_)
              · simp only [mI_one, nI_0] at q56
                refine mt_iconst dX2_fill_87 (v := nI 0) rfl ?_
                refine mt_callS (N := mX2_demand) (Rc := rX2_demand) (As := [.int (nI 0)]) (st := []) dX2_fill_88 (kX2_demand_f hl) sX2_demand mw_309 rfl (Nat.le_of_ble_eq_true rfl) ⟨⟨Nat.le_of_ble_eq_true rfl, Nat.le_of_ble_eq_true rfl⟩, Nat.le_of_ble_eq_true rfl, Nat.le_of_ble_eq_true rfl⟩ (fun _ _ _ hv => hv.elim) (fun E h9 n9 hx => ?_)
                obtain ⟨rfl, rfl, rfl⟩ := hx
                refine mt_out rfl ?_ (Nat.le_of_ble_eq_true rfl) (Nat.le_of_ble_eq_true rfl)
                exact cNo.a (by simp only [sp_fill, dB_n (x := b) (by first | exact Or.inl (by assumption) | exact Or.inr (by assumption)), dAt_s hr5 (by decide), dArg_s hp22 (by first | decide | omega), dArg_s (k := 8) hp37 (by first | decide | omega), dFit_s haok])
              · simp only [mI_one, nI_0] at q56
                refine mt_iload dX2_fill_76 rfl ?_
                refine mt_bipush dX2_fill_78 (v := nI 99) (by decide) ?_
                refine mt_icmp_gt dX2_fill_80 (tgt := 87) rfl (fun q61 => ?_) (fun q61 => ?_)
                · refine mt_iconst dX2_fill_87 (v := nI 0) rfl ?_
                  refine mt_callS (N := mX2_demand) (Rc := rX2_demand) (As := [.int (nI 0)]) (st := []) dX2_fill_88 (kX2_demand_f hl) sX2_demand mw_309 rfl (Nat.le_of_ble_eq_true rfl) ⟨⟨Nat.le_of_ble_eq_true rfl, Nat.le_of_ble_eq_true rfl⟩, Nat.le_of_ble_eq_true rfl, Nat.le_of_ble_eq_true rfl⟩ (fun _ _ _ hv => hv.elim) (fun E h9 n9 hx => ?_)
                  obtain ⟨rfl, rfl, rfl⟩ := hx
                  refine mt_out rfl ?_ (Nat.le_of_ble_eq_true rfl) (Nat.le_of_ble_eq_true rfl)
                  exact cNo.a (by simp only [sp_fill, dB_n (x := b) (by first | exact Or.inl (by assumption) | exact Or.inr (by assumption)), dAt_s hr5 (by decide), dArg_s hp22 (by first | decide | omega), dArg_s (k := 8) hp37 (by first | decide | omega), dFit_s haok])
                · refine mt_iconst dX2_fill_83 (v := nI 1) rfl ?_
                  refine mt_goto dX2_fill_84 (tgt := 88) rfl ?_
                  obtain ⟨bn, hbn, hb0, rfl⟩ := dB_in q56 q61
                  refine mt_callS (N := mX2_demand) (Rc := rX2_demand) (As := [.int (nI 1)]) (st := []) dX2_fill_88 (kX2_demand_t hl) sX2_demand mw_309 rfl (Nat.le_of_ble_eq_true rfl) ⟨⟨Nat.le_of_ble_eq_true rfl, Nat.le_of_ble_eq_true rfl⟩, Nat.le_of_ble_eq_true rfl, Nat.le_of_ble_eq_true rfl⟩ (fun v66 h67 n68 c69 => ?_) (fun _ _ _ hx => hx.elim)
                  obtain ⟨c69a, c69b, c69c⟩ := c69
                  rw [c69a, c69b, c69c]
                  show mT _ _ _ _ 91 [.ref 0, .int (nI r5), .int (nI p22), .int (nI p37), .int a, .int (nI bn), .ref (2 + 3 * r5), .double 0] [] _ _ _ _
                  refine mt_aload dX2_fill_91 rfl rfl ?_
                  refine mt_getfield mKX1 (i := 3) (by decide) mw_76 dX2_fill_93 ea_16 rfl ?_
                  refine mp_istore dX2_fill_96 (ls' := [.ref 0, .int (nI r5), .int (nI p22), .int (nI p37), .int a, .int (nI bn), .ref (2 + 3 * r5), .int (nI ((S.1 r5).length))]) rfl (by decide) rfl ?_
                  refine mt_aload dX2_fill_98 rfl rfl ?_
                  refine mt_callV (N := mX1_empty) (Rc := rX1_empty) (As := []) (st := []) dX2_fill_100 (kX1_empty hl H11) sX1_empty mw_407 mKX1 rfl ea_16 rfl (Nat.le_of_ble_eq_true rfl) ⟨⟨Nat.le_of_ble_eq_true rfl, Nat.le_of_ble_eq_true rfl⟩, Nat.le_of_ble_eq_true rfl, Nat.le_of_ble_eq_true rfl⟩ (fun v70 h71 n72 c73 => ?_) (fun _ _ _ hx => hx.elim)
                  obtain ⟨c73a, c73b, c73c, c73d⟩ := c73
                  rw [c73a, c73b]
                  show mT _ _ _ _ 103 [.ref 0, .int (nI r5), .int (nI p22), .int (nI p37), .int a, .int (nI bn), .ref (2 + 3 * r5), .int (nI ((S.1 r5).length))] [] _ _ _ _
                  refine mt_iload_n dX2_fill_103 rfl ?_
                  refine mt_bipush dX2_fill_104 (v := nI 7) (by decide) ?_
                  refine mt_icmp_ne dX2_fill_106 (tgt := 123) rfl (fun q74 => ?_) (fun q74 => ?_)
                  · have q74 := (not_congr (nI_eq (by omega) (by omega))).mp q74
                    refine mt_aload_n dX2_fill_123 rfl rfl ?_
                    refine mt_aload dX2_fill_124 rfl rfl ?_
                    refine mt_iload_n dX2_fill_126 rfl ?_
                    refine mt_iload_n dX2_fill_127 rfl ?_
                    refine mt_iload dX2_fill_128 rfl ?_
                    refine mt_iload dX2_fill_130 rfl ?_
                    refine mt_callV (N := mX2_appendPattern) (Rc := rX2_appendPattern) (As := [.ref (2 + 3 * r5), .int (nI p22), .int (nI p37), .int a, .int (nI bn)]) (st := []) dX2_fill_132 (kX2_appendPattern hl ((c73d (0) (by omega)).trans C0) c73c (by omega) (by omega) (by omega) (by omega) (by omega) (by omega)) sX2_appendPattern mw_422 mKX2 rfl ((c73d (0) (by omega)).trans C0) rfl (Nat.le_of_ble_eq_true rfl) ⟨⟨Nat.le_of_ble_eq_true rfl, Nat.le_of_ble_eq_true rfl⟩, Nat.le_of_ble_eq_true rfl, Nat.le_of_ble_eq_true rfl⟩ (fun v75 h76 n77 c78 => ?_) (fun _ _ _ hx => hx.elim)
                    obtain ⟨c78a, c78b, c78c, c78d, c78e⟩ := c78
                    rw [c78a, c78b]
                    show mT _ _ _ _ 135 [.ref 0, .int (nI r5), .int (nI p22), .int (nI p37), .int a, .int (nI bn), .ref (2 + 3 * r5), .int (nI ((S.1 r5).length))] [] _ _ _ _
                    refine mt_aload_n dX2_fill_135 rfl rfl ?_
                    refine mt_iload dX2_fill_136 rfl ?_
                    refine mt_callV (N := mX2_done) (Rc := rX2_done) (As := [.int (nI ((S.1 r5).length))]) (st := []) dX2_fill_138 (kX2_done hl c78d) sX2_done mw_430 mKX2 rfl c78d rfl (Nat.le_of_ble_eq_true rfl) ⟨⟨Nat.le_of_ble_eq_true rfl, Nat.le_of_ble_eq_true rfl⟩, Nat.le_of_ble_eq_true rfl, Nat.le_of_ble_eq_true rfl⟩ (fun v79 h80 n81 c82 => ?_) (fun _ _ _ hx => hx.elim)
                    obtain ⟨c82a, c82b, c82c, c82d⟩ := c82
                    rw [c82a, c82b]
                    show mT _ _ _ _ 141 [.ref 0, .int (nI r5), .int (nI p22), .int (nI p37), .int a, .int (nI bn), .ref (2 + 3 * r5), .int (nI ((S.1 r5).length))] [.int (nI ((S.1 r5).length))] _ _ _ _
                    refine mt_ireturn dX2_fill_141 rfl rfl (Nat.le_of_ble_eq_true rfl) (Nat.le_of_ble_eq_true rfl) ?_
                    exact cOk.of (x := .int (nI ((S.1 r5).length))) (S' := (fun k => if k = r5 then (mlp (stPat p37 p22 a bn (decide (r5 < 2))) (p22 - 0) 0 ([], S.2.1)).1 else S.1 k, (mlp (stPat p37 p22 a bn (decide (r5 < 2))) (p22 - 0) 0 ([], S.2.1)).2, S.2.2.1 + nI 1, S.2.2.2.1, S.2.2.2.2)) (by simp only [sp_fill, dAt_s hr5 (by decide), dArg_s hp22 (by first | decide | omega), dArg_s (k := 8) hp37 (by first | decide | omega), dFit_s haok, dB_s hbn hb0]; simp only [cAct, cGiv, cSet, fillL, if_neg q74]) rfl rfl ⟨c82c, ⟨cg, (c82d (1) (by omega)).trans ((c78e (1) (by omega)).trans ((c73d (1) (by omega)).trans C1)), C1g⟩, (c82d (14) (by omega)).trans ((c78e (14) (by omega)).trans ((c73d (14) (by omega)).trans C14)), cRows CR (by omega) ((c78c).fr (fun j j1 j2 => c82d j (by omega))) (fun j j1 j2 j3 => (c82d j (by omega)).trans ((c78e j (by omega)).trans (c73d j (by omega)))), ⟨_, (((HK15).fr (fun j j1 j2 => c73d j (by omega))).fr (fun j j1 j2 => c78e j (by omega))).fr (fun j j1 j2 => c82d j (by omega))⟩, ⟨_, (((HK18).fr (fun j j1 j2 => c73d j (by omega))).fr (fun j j1 j2 => c78e j (by omega))).fr (fun j j1 j2 => c82d j (by omega))⟩, ⟨_, (((HK21).fr (fun j j1 j2 => c73d j (by omega))).fr (fun j j1 j2 => c78e j (by omega))).fr (fun j j1 j2 => c82d j (by omega))⟩, ⟨_, (((HK24).fr (fun j j1 j2 => c73d j (by omega))).fr (fun j j1 j2 => c78e j (by omega))).fr (fun j j1 j2 => c82d j (by omega))⟩⟩ (fun j hj => (c82d j (by omega)).trans ((c78e j (by omega)).trans (c73d j (by omega))))
                  · have q74 := (nI_eq (by omega) (by omega)).mp q74
                    refine mt_aload_n dX2_fill_109 rfl rfl ?_
                    refine mt_aload dX2_fill_110 rfl rfl ?_
                    refine mt_iload_n dX2_fill_112 rfl ?_
                    refine mt_iload dX2_fill_113 rfl ?_
                    refine mt_iload dX2_fill_115 rfl ?_
                    refine mt_callV (N := mX2_appendDrawn) (Rc := rX2_appendDrawn) (As := [.ref (2 + 3 * r5), .int (nI p22), .int a, .int (nI bn)]) (st := []) dX2_fill_117 (kX2_appendDrawn hl ((c73d (0) (by omega)).trans C0) c73c (by omega) (by omega) (by omega) (by omega)) sX2_appendDrawn mw_408 mKX2 rfl ((c73d (0) (by omega)).trans C0) rfl (Nat.le_of_ble_eq_true rfl) ⟨⟨Nat.le_of_ble_eq_true rfl, Nat.le_of_ble_eq_true rfl⟩, Nat.le_of_ble_eq_true rfl, Nat.le_of_ble_eq_true rfl⟩ (fun v83 h84 n85 c86 => ?_) (fun _ _ _ hx => hx.elim)
                    obtain ⟨c86a, c86b, c86c, c86d, c86e⟩ := c86
                    rw [c86a, c86b]
                    show mT _ _ _ _ 120 [.ref 0, .int (nI r5), .int (nI p22), .int (nI p37), .int a, .int (nI bn), .ref (2 + 3 * r5), .int (nI ((S.1 r5).length))] [] _ _ _ _
                    refine mt_goto dX2_fill_120 (tgt := 135) rfl ?_
                    refine mt_aload_n dX2_fill_135 rfl rfl ?_
                    refine mt_iload dX2_fill_136 rfl ?_
                    refine mt_callV (N := mX2_done) (Rc := rX2_done) (As := [.int (nI ((S.1 r5).length))]) (st := []) dX2_fill_138 (kX2_done hl c86d) sX2_done mw_430 mKX2 rfl c86d rfl (Nat.le_of_ble_eq_true rfl) ⟨⟨Nat.le_of_ble_eq_true rfl, Nat.le_of_ble_eq_true rfl⟩, Nat.le_of_ble_eq_true rfl, Nat.le_of_ble_eq_true rfl⟩ (fun v87 h88 n89 c90 => ?_) (fun _ _ _ hx => hx.elim)
                    obtain ⟨c90a, c90b, c90c, c90d⟩ := c90
                    rw [c90a, c90b]
                    show mT _ _ _ _ 141 [.ref 0, .int (nI r5), .int (nI p22), .int (nI p37), .int a, .int (nI bn), .ref (2 + 3 * r5), .int (nI ((S.1 r5).length))] [.int (nI ((S.1 r5).length))] _ _ _ _
                    refine mt_ireturn dX2_fill_141 rfl rfl (Nat.le_of_ble_eq_true rfl) (Nat.le_of_ble_eq_true rfl) ?_
                    exact cOk.of (x := .int (nI ((S.1 r5).length))) (S' := (fun k => if k = r5 then (mlp (stDrw (decide (r5 < 2))) (p22 - 0) 0 ([], S.2.1, drx a bn)).1 else S.1 k, (mlp (stDrw (decide (r5 < 2))) (p22 - 0) 0 ([], S.2.1, drx a bn)).2.1, S.2.2.1 + nI 1, S.2.2.2.1, S.2.2.2.2)) (by simp only [sp_fill, dAt_s hr5 (by decide), dArg_s hp22 (by first | decide | omega), dArg_s (k := 8) hp37 (by first | decide | omega), dFit_s haok, dB_s hbn hb0]; simp only [cAct, cGiv, cSet, fillL, if_pos q74]) rfl rfl ⟨c90c, ⟨cg, (c90d (1) (by omega)).trans ((c86e (1) (by omega)).trans ((c73d (1) (by omega)).trans C1)), C1g⟩, (c90d (14) (by omega)).trans ((c86e (14) (by omega)).trans ((c73d (14) (by omega)).trans C14)), cRows CR (by omega) ((c86c).fr (fun j j1 j2 => c90d j (by omega))) (fun j j1 j2 j3 => (c90d j (by omega)).trans ((c86e j (by omega)).trans (c73d j (by omega)))), ⟨_, (((HK15).fr (fun j j1 j2 => c73d j (by omega))).fr (fun j j1 j2 => c86e j (by omega))).fr (fun j j1 j2 => c90d j (by omega))⟩, ⟨_, (((HK18).fr (fun j j1 j2 => c73d j (by omega))).fr (fun j j1 j2 => c86e j (by omega))).fr (fun j j1 j2 => c90d j (by omega))⟩, ⟨_, (((HK21).fr (fun j j1 j2 => c73d j (by omega))).fr (fun j j1 j2 => c86e j (by omega))).fr (fun j j1 j2 => c90d j (by omega))⟩, ⟨_, (((HK24).fr (fun j j1 j2 => c73d j (by omega))).fr (fun j j1 j2 => c86e j (by omega))).fr (fun j j1 j2 => c90d j (by omega))⟩⟩ (fun j hj => (c90d j (by omega)).trans ((c86e j (by omega)).trans (c73d j (by omega))))
