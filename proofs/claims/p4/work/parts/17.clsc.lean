/-! ===== the class: fill ===== -/
abbrev rX2_patternKey : Room := { frames := 1, cells := 0, slots := 0, locals := 21 }
set_option maxRecDepth 100000 in
set_option maxHeartbeats 2000000 in
theorem kX2_patternKey {l : Launch} (hl : l.stackTraces = false) {h : mH} {n p k m b : Nat} {a : Int32} (hp : p < 8) (hk : k < m) (hm : m ≤ 320) (hb : 0 < b) (hb2 : b < 100) : mC l mX2_patternKey rX2_patternKey [.int (nI p), .int (nI k), .int (nI m), .int a, .int (nI b)] h n (mRi (patKey p k m a b) h n) (mNX) := by
  have hkb : k * b ≤ 320 * 100 := Nat.mul_le_mul (by omega) (by omega)
  have hkb2 : k / b ≤ k := Nat.div_le_self _ _
  have hkb3 : k % b < b := Nat.mod_lt _ hb
  refine mm_enter hl (by decide +kernel) rfl rfl rfl (Nat.le_of_ble_eq_true rfl) ?_
  show mT _ _ _ _ 0 [.int (nI p), .int (nI k), .int (nI m), .int a, .int (nI b)] [] _ _ 0 0
  refine mt_iload_n dX2_patternKey_0 rfl ?_
  obtain rfl | rfl | rfl | rfl | rfl | rfl | rfl | rfl : p = 0 ∨ p = 1 ∨ p = 2 ∨ p = 3 ∨ p = 4 ∨ p = 5 ∨ p = 6 ∨ p = 7 := by omega
  · refine mt_tableOut dX2_patternKey_1 (by decide +kernel) (tgt := 129) rfl ?_
    refine mt_iload_n dX2_patternKey_129 rfl ?_
    refine mt_ireturn dX2_patternKey_130 rfl rfl (Nat.le_of_ble_eq_true rfl) (Nat.le_of_ble_eq_true rfl) ?_
    exact ⟨by simp only [patKey], rfl, rfl⟩
  · refine mt_tableIn dX2_patternKey_1 (off := 39) (by decide +kernel) (by decide +kernel) (by decide +kernel) (tgt := 40) rfl ?_
    refine mt_iload_n dX2_patternKey_40 rfl ?_
    refine mt_iload_n dX2_patternKey_41 rfl ?_
    refine mt_iload dX2_patternKey_42 rfl ?_
    refine mp_imul dX2_patternKey_44 (v := nI (k * b)) (mI_mul _ _) ?_
    refine mp_iadd dX2_patternKey_45 (v := a + (nI (k * b))) rfl ?_
    refine mt_ireturn dX2_patternKey_46 rfl rfl (Nat.le_of_ble_eq_true rfl) (Nat.le_of_ble_eq_true rfl) ?_
    exact ⟨by simp only [patKey], rfl, rfl⟩
  · refine mt_tableIn dX2_patternKey_1 (off := 46) (by decide +kernel) (by decide +kernel) (by decide +kernel) (tgt := 47) rfl ?_
    refine mt_iload_n dX2_patternKey_47 rfl ?_
    refine mt_iload_n dX2_patternKey_48 rfl ?_
    refine mt_iload dX2_patternKey_49 rfl ?_
    refine mp_imul dX2_patternKey_51 (v := nI (k * b)) (mI_mul _ _) ?_
    refine mp_isub dX2_patternKey_52 (v := a - (nI (k * b))) rfl ?_
    refine mt_ireturn dX2_patternKey_53 rfl rfl (Nat.le_of_ble_eq_true rfl) (Nat.le_of_ble_eq_true rfl) ?_
    exact ⟨by simp only [patKey], rfl, rfl⟩
  · refine mt_tableIn dX2_patternKey_1 (off := 53) (by decide +kernel) (by decide +kernel) (by decide +kernel) (tgt := 54) rfl ?_
    refine mt_iload_n dX2_patternKey_54 rfl ?_
    refine mt_iload_n dX2_patternKey_55 rfl ?_
    refine mt_iload dX2_patternKey_56 rfl ?_
    refine mp_irem dX2_patternKey_58 (mI_ne0 (by omega) (by omega)) (v := nI (k % b)) (pk_rem (by omega) (by omega) (by omega)) ?_
    refine mp_iadd dX2_patternKey_59 (v := a + (nI (k % b))) rfl ?_
    refine mt_ireturn dX2_patternKey_60 rfl rfl (Nat.le_of_ble_eq_true rfl) (Nat.le_of_ble_eq_true rfl) ?_
    exact ⟨by simp only [patKey], rfl, rfl⟩
  · refine mt_tableIn dX2_patternKey_1 (off := 60) (by decide +kernel) (by decide +kernel) (by decide +kernel) (tgt := 61) rfl ?_
    refine mt_iload_n dX2_patternKey_61 rfl ?_
    refine mt_iload dX2_patternKey_62 rfl ?_
    refine mp_idiv dX2_patternKey_64 (mI_ne0 (by omega) (by omega)) (v := nI (k / b)) (pk_div (by omega) (by omega) (by omega)) ?_
    refine mt_iconst dX2_patternKey_65 (v := nI 2) rfl ?_
    refine mp_irem dX2_patternKey_66 (mI_ne0 (by omega) (by omega)) (v := nI ((k / b) % 2)) (pk_rem (by omega) (by omega) (by omega)) ?_
    refine mt_if_ne dX2_patternKey_67 (tgt := 79) rfl (fun q1 => ?_) (fun q1 => ?_)
    · have q1 := (not_congr (mI_eq0 (by omega))).mp q1
      refine mt_iload_n dX2_patternKey_79 rfl ?_
      refine mt_iload dX2_patternKey_80 rfl ?_
      refine mp_iadd dX2_patternKey_82 (v := a + (nI b)) rfl ?_
      refine mt_iconst dX2_patternKey_83 (v := nI 1) rfl ?_
      refine mp_isub dX2_patternKey_84 (v := (a + (nI b)) - (nI 1)) rfl ?_
      refine mt_iload_n dX2_patternKey_85 rfl ?_
      refine mt_iload dX2_patternKey_86 rfl ?_
      refine mp_irem dX2_patternKey_88 (mI_ne0 (by omega) (by omega)) (v := nI (k % b)) (pk_rem (by omega) (by omega) (by omega)) ?_
      refine mp_isub dX2_patternKey_89 (v := ((a + (nI b)) - (nI 1)) - (nI (k % b))) rfl ?_
      refine mt_ireturn dX2_patternKey_90 rfl rfl (Nat.le_of_ble_eq_true rfl) (Nat.le_of_ble_eq_true rfl) ?_
      exact ⟨by simp only [patKey, if_neg q1], rfl, rfl⟩
    · have q1 := (mI_eq0 (by omega)).mp q1
      refine mt_iload_n dX2_patternKey_70 rfl ?_
      refine mt_iload_n dX2_patternKey_71 rfl ?_
      refine mt_iload dX2_patternKey_72 rfl ?_
      refine mp_irem dX2_patternKey_74 (mI_ne0 (by omega) (by omega)) (v := nI (k % b)) (pk_rem (by omega) (by omega) (by omega)) ?_
      refine mp_iadd dX2_patternKey_75 (v := a + (nI (k % b))) rfl ?_
      refine mt_goto dX2_patternKey_76 (tgt := 90) rfl ?_
      refine mt_ireturn dX2_patternKey_90 rfl rfl (Nat.le_of_ble_eq_true rfl) (Nat.le_of_ble_eq_true rfl) ?_
      exact ⟨by simp only [patKey, if_pos q1], rfl, rfl⟩
  · refine mt_tableIn dX2_patternKey_1 (off := 90) (by decide +kernel) (by decide +kernel) (by decide +kernel) (tgt := 91) rfl ?_
    refine mt_iload_n dX2_patternKey_91 rfl ?_
    refine mt_iload dX2_patternKey_92 rfl ?_
    refine mt_iload_n dX2_patternKey_94 rfl ?_
    refine mt_iload_n dX2_patternKey_95 rfl ?_
    refine mt_iconst dX2_patternKey_96 (v := nI 1) rfl ?_
    refine mp_isub dX2_patternKey_97 (v := nI (m - 1)) (pk_sub (by omega)) ?_
    refine mt_iload_n dX2_patternKey_98 rfl ?_
    refine mp_isub dX2_patternKey_99 (v := nI ((m - 1) - k)) (pk_sub (by omega)) ?_
    refine mt_mmin dX2_patternKey_100 mw_429 mw_152 mw_41 (mw_min) (Nat.le_of_ble_eq_true rfl) ⟨Nat.le_of_ble_eq_true rfl, Nat.le_of_ble_eq_true rfl⟩ (Nat.le_of_ble_eq_true rfl) (Nat.le_of_ble_eq_true rfl) (v := nI (min k ((m - 1) - k))) (mI_min (by omega) (by omega)) ?_
    refine mp_imul dX2_patternKey_103 (v := nI (b * (min k ((m - 1) - k)))) (mI_mul _ _) ?_
    refine mp_iadd dX2_patternKey_104 (v := a + (nI (b * (min k ((m - 1) - k))))) rfl ?_
    refine mt_ireturn dX2_patternKey_105 rfl rfl (Nat.le_of_ble_eq_true rfl) (Nat.le_of_ble_eq_true rfl) ?_
    exact ⟨by simp only [patKey], rfl, rfl⟩
  · refine mt_tableIn dX2_patternKey_1 (off := 105) (by decide +kernel) (by decide +kernel) (by decide +kernel) (tgt := 106) rfl ?_
    refine mt_iload_n dX2_patternKey_106 rfl ?_
    refine mt_iconst dX2_patternKey_107 (v := nI 2) rfl ?_
    refine mp_irem dX2_patternKey_108 (mI_ne0 (by omega) (by omega)) (v := nI (k % 2)) (pk_rem (by omega) (by omega) (by omega)) ?_
    refine mt_if_ne dX2_patternKey_109 (tgt := 120) rfl (fun q2 => ?_) (fun q2 => ?_)
    · have q2 := (not_congr (mI_eq0 (by omega))).mp q2
      refine mt_iload_n dX2_patternKey_120 rfl ?_
      refine mt_iload dX2_patternKey_121 rfl ?_
      refine mp_iadd dX2_patternKey_123 (v := a + (nI b)) rfl ?_
      refine mt_iload_n dX2_patternKey_124 rfl ?_
      refine mt_iconst dX2_patternKey_125 (v := nI 2) rfl ?_
      refine mp_idiv dX2_patternKey_126 (mI_ne0 (by omega) (by omega)) (v := nI (k / 2)) (pk_div (by omega) (by omega) (by omega)) ?_
      refine mp_isub dX2_patternKey_127 (v := (a + (nI b)) - (nI (k / 2))) rfl ?_
      refine mt_ireturn dX2_patternKey_128 rfl rfl (Nat.le_of_ble_eq_true rfl) (Nat.le_of_ble_eq_true rfl) ?_
      exact ⟨by simp only [patKey, if_neg q2], rfl, rfl⟩
    · have q2 := (mI_eq0 (by omega)).mp q2
      refine mt_iload_n dX2_patternKey_112 rfl ?_
      refine mt_iload_n dX2_patternKey_113 rfl ?_
      refine mt_iconst dX2_patternKey_114 (v := nI 2) rfl ?_
      refine mp_idiv dX2_patternKey_115 (mI_ne0 (by omega) (by omega)) (v := nI (k / 2)) (pk_div (by omega) (by omega) (by omega)) ?_
      refine mp_iadd dX2_patternKey_116 (v := a + (nI (k / 2))) rfl ?_
      refine mt_goto dX2_patternKey_117 (tgt := 128) rfl ?_
      refine mt_ireturn dX2_patternKey_128 rfl rfl (Nat.le_of_ble_eq_true rfl) (Nat.le_of_ble_eq_true rfl) ?_
      exact ⟨by simp only [patKey, if_pos q2], rfl, rfl⟩
  · refine mt_tableOut dX2_patternKey_1 (by decide +kernel) (tgt := 129) rfl ?_
    refine mt_iload_n dX2_patternKey_129 rfl ?_
    refine mt_ireturn dX2_patternKey_130 rfl rfl (Nat.le_of_ble_eq_true rfl) (Nat.le_of_ble_eq_true rfl) ?_
    exact ⟨by simp only [patKey], rfl, rfl⟩
abbrev rX2_appendPattern : Room := { frames := 2, cells := 0, slots := 0, locals := 45 }
set_option maxRecDepth 100000 in
set_option maxHeartbeats 2000000 in
theorem tX2_appendPattern_3 {l : Launch} {K : mK} {n a room r1 r14 m b : Nat} {bl : Bool} {ac rf kn av : Int32} {p : Nat} {r : List mIt × Int32} {h0 : mH} (hl : l.stackTraces = false) (h0a : 0 < a) (hmr : m ≤ room) (hp : p < 8) (hm : m ≤ 320) (hb : 0 < b) (hb2 : b < 100) (kk0 : ∀ (k : Nat) (h : mH) (ys : List mIt) (g : Int32), (rowAt h a room (mb bl) ys) → (h 0 = .inr (.inr (4, [.ref r1, .ref r14, .int g, .int ac, .int rf, .int kn]))) → (∀ j, ((j < a ∨ a + 3 ≤ j) ∧ j ≠ 0) → h j = h0 j) → ((ys, g) = r) → mT l mX2_appendPattern rX2_appendPattern K 35 [.ref 0, .ref a, .int (nI m), .int (nI p), .int av, .int (nI b), .int (nI k)] [] h n 0 0) : ∀ (N0 : Nat) (k : Nat) (h : mH) (ys : List mIt) (g : Int32), (m - k) < N0 → (h 0 = .inr (.inr (4, [.ref r1, .ref r14, .int g, .int ac, .int rf, .int kn]))) → (rowAt h a room (mb bl) ys) → (∀ j, ((j < a ∨ a + 3 ≤ j) ∧ j ≠ 0) → h j = h0 j) → (mlp (stPat p m av b bl) (m - k) k (ys, g) = r) → (ys.length = k) → (k ≤ m) → mT l mX2_appendPattern rX2_appendPattern K 3 [.ref 0, .ref a, .int (nI m), .int (nI p), .int av, .int (nI b), .int (nI k)] [] h n 0 0 := by
  intro N0
  induction N0 with
  | zero => intro k h ys g hm; exact absurd hm (Nat.not_lt_zero _)
  | succ N0 ih =>
    intro k h ys g hm C0 H hfr hr hys hkm
    refine mt_iload dX2_appendPattern_3 rfl ?_
    refine mt_iload_n dX2_appendPattern_5 rfl ?_
    refine mt_icmp_ge dX2_appendPattern_6 (tgt := 35) rfl (fun q1 => ?_) (fun q1 => ?_)
    · have q1 := Int32.not_lt.mpr q1
      have q1 := (not_congr (nI_ltI (by omega) (by omega))).mp q1
      exact kk0 k h ys g H C0 hfr ((mlp_end (f := stPat p m av b bl) (by omega)).symm.trans hr)
    · have q1 := Int32.not_le.mp q1
      have q1 := (nI_ltI (by omega) (by omega)).mp q1
      refine mt_aload_n dX2_appendPattern_9 rfl rfl ?_
      refine mt_iload_n dX2_appendPattern_10 rfl ?_
      refine mt_iload dX2_appendPattern_11 rfl ?_
      refine mt_iload_n dX2_appendPattern_13 rfl ?_
      refine mt_iload dX2_appendPattern_14 rfl ?_
      refine mt_iload dX2_appendPattern_16 rfl ?_
      refine mt_callS (N := mX2_patternKey) (Rc := rX2_patternKey) (As := [.int (nI p), .int (nI k), .int (nI m), .int av, .int (nI b)]) (st := [.ref a]) dX2_appendPattern_18 (kX2_patternKey hl (by omega) (by omega) (by omega) (by omega) (by omega)) sX2_patternKey mw_426 rfl (Nat.le_of_ble_eq_true rfl) ⟨⟨Nat.le_of_ble_eq_true rfl, Nat.le_of_ble_eq_true rfl⟩, Nat.le_of_ble_eq_true rfl, Nat.le_of_ble_eq_true rfl⟩ (fun v2 h3 n4 c5 => ?_) (fun _ _ _ hx => hx.elim)
      obtain ⟨c5a, c5b, c5c⟩ := c5
      rw [c5a, c5b, c5c]
      show mT _ _ _ _ 21 [.ref 0, .ref a, .int (nI m), .int (nI p), .int av, .int (nI b), .int (nI k)] [.int (patKey p k m av b), .ref a] _ _ _ _
      refine mt_aload_n dX2_appendPattern_21 rfl rfl ?_
      refine mt_aload_n dX2_appendPattern_22 rfl rfl ?_
      obtain ⟨f_6, g_6, ea_6, ek_6, es_6, ql_6, qr_6, qk_6, qt_6⟩ := id H
      refine mt_callV (N := mX2_stampOfNew) (Rc := rX2_stampOfNew) (As := [.ref a]) (st := [.int (patKey p k m av b), .ref a]) dX2_appendPattern_23 (kX2_stampOfNew hl C0 ea_6) sX2_stampOfNew mw_413 mKX2 rfl C0 rfl (Nat.le_of_ble_eq_true rfl) ⟨⟨Nat.le_of_ble_eq_true rfl, Nat.le_of_ble_eq_true rfl⟩, Nat.le_of_ble_eq_true rfl, Nat.le_of_ble_eq_true rfl⟩ (fun v7 h8 n9 c10 => ?_) (fun _ _ _ hx => hx.elim)
      obtain ⟨c10a, c10b, c10c, c10d⟩ := c10
      rw [c10a, c10b]
      show mT _ _ _ _ 26 [.ref 0, .ref a, .int (nI m), .int (nI p), .int av, .int (nI b), .int (nI k)] [.int (nst bl g), .int (patKey p k m av b), .ref a] _ _ _ _
      have H11 : rowAt h8 a room (mb (bl)) ys := (H).fr (fun j j1 j2 => c10d j (by omega))
      refine mt_callV (N := mX1_append) (Rc := rX1_append) (As := [.int (patKey p k m av b), .int (nst bl g)]) (st := []) dX2_appendPattern_26 (kX1_append hl H11 (by first | omega | assumption | (simp only [List.length_append, List.length_cons, List.length_nil, span_len, Nat.sub_zero] at *; omega))) sX1_append mw_421 mKX1 rfl ((c10d (a) (by omega)).trans ea_6) rfl (Nat.le_of_ble_eq_true rfl) ⟨⟨Nat.le_of_ble_eq_true rfl, Nat.le_of_ble_eq_true rfl⟩, Nat.le_of_ble_eq_true rfl, Nat.le_of_ble_eq_true rfl⟩ (fun v12 h13 n14 c15 => ?_) (fun _ _ _ hx => hx.elim)
      obtain ⟨c15a, c15b, c15c, c15d⟩ := c15
      rw [c15a, c15b]
      show mT _ _ _ _ 29 [.ref 0, .ref a, .int (nI m), .int (nI p), .int av, .int (nI b), .int (nI k)] [] _ _ _ _
      refine mp_iinc dX2_appendPattern_29 rfl (v := nI (k + 1)) mI_inc (ls' := [.ref 0, .ref a, .int (nI m), .int (nI p), .int av, .int (nI b), .int (nI (k + 1))]) rfl (by decide) rfl ?_
      refine mt_goto dX2_appendPattern_32 (tgt := 3) rfl ?_
      exact ih (k + 1) h13 (ys ++ [(patKey p k m av b, nst bl g)]) (ngv bl g) (by omega) ((c15d (0) (by omega)).trans c10c) c15c (fun j hj => ((c15d j (by omega)).trans (c10d j (by omega))).trans (hfr j hj)) ((mlp_go (f := stPat p m av b bl) (by omega) rfl).symm.trans hr) (by simp only [List.length_append, List.length_cons, List.length_nil]; omega) (by omega)
set_option maxRecDepth 100000 in
set_option maxHeartbeats 2000000 in
theorem kX2_appendPattern {l : Launch} (hl : l.stackTraces = false) {h : mH} {n a room r1 r14 m b : Nat} {bl : Bool} {ac rf kn av : Int32} {p : Nat} {g : Int32} (C0 : h 0 = .inr (.inr (4, [.ref r1, .ref r14, .int g, .int ac, .int rf, .int kn]))) (H : rowAt h a room (mb bl) []) (h0a : 0 < a) (hmr : m ≤ room) (hp : p < 8) (hm : m ≤ 320) (hb : 0 < b) (hb2 : b < 100) : mC l mX2_appendPattern rX2_appendPattern [.ref 0, .ref a, .int (nI m), .int (nI p), .int av, .int (nI b)] h n (fun v h' n' => v = none ∧ n' = n ∧ rowAt h' a room (mb bl) (mlp (stPat p m av b bl) (m - 0) 0 ([], g)).1 ∧ h' 0 = .inr (.inr (4, [.ref r1, .ref r14, .int ((mlp (stPat p m av b bl) (m - 0) 0 ([], g)).2), .int ac, .int rf, .int kn])) ∧ ∀ j, ((j < a ∨ a + 3 ≤ j) ∧ j ≠ 0) → h' j = h j) (mNX) := by
  refine mm_enter hl (by decide +kernel) rfl rfl rfl (Nat.le_of_ble_eq_true rfl) ?_
  show mT _ _ _ _ 0 [.ref 0, .ref a, .int (nI m), .int (nI p), .int av, .int (nI b), .double 0] [] _ _ 0 0
  refine mt_iconst dX2_appendPattern_0 (v := nI 0) rfl ?_
  refine mp_istore dX2_appendPattern_1 (ls' := [.ref 0, .ref a, .int (nI m), .int (nI p), .int av, .int (nI b), .int (nI 0)]) rfl (by decide) rfl ?_
  refine tX2_appendPattern_3 hl h0a hmr hp hm hb hb2 (fun k_1 h_2 ys_3 g_4 z5 z6 z7 z8 => ?_) (m - 0 + 1) 0 h ([]) g (Nat.lt_succ_self _) C0 H (fun _ _ => rfl) rfl rfl (by omega)
  refine mt_return dX2_appendPattern_35 rfl (Nat.le_of_ble_eq_true rfl) (Nat.le_of_ble_eq_true rfl) ?_
  exact ⟨rfl, rfl, (congrArg Prod.fst z8) ▸ z5, z6.trans (congrArg (fun q : List mIt × Int32 => (Sum.inr (Sum.inr (4, [.ref r1, .ref r14, .int q.2, .int ac, .int rf, .int kn])) : mE)) z8), z7⟩
abbrev rX2_appendDrawn : Room := { frames := 2, cells := 0, slots := 0, locals := 42 }
set_option maxRecDepth 100000 in
set_option maxHeartbeats 2000000 in
theorem tX2_appendDrawn_21 {l : Launch} {K : mK} {n a room r1 r14 m b : Nat} {bl : Bool} {ac rf kn av : Int32} {r : List mIt × Int32 × Int32} {h0 : mH} (hl : l.stackTraces = false) (h0a : 0 < a) (hmr : m ≤ room) (hm : m ≤ 320) (hb2 : b < 100) (kk0 : ∀ (k : Nat) (h : mH) (ys : List mIt) (g : Int32) (x : Int32), (rowAt h a room (mb bl) ys) → (h 0 = .inr (.inr (4, [.ref r1, .ref r14, .int g, .int ac, .int rf, .int kn]))) → (∀ j, ((j < a ∨ a + 3 ≤ j) ∧ j ≠ 0) → h j = h0 j) → ((ys, g, x) = r) → mT l mX2_appendDrawn rX2_appendDrawn K 64 [.ref 0, .ref a, .int (nI m), .int av, .int (nI b), .int x, .int (nI k)] [] h n 0 0) : ∀ (N0 : Nat) (k : Nat) (h : mH) (ys : List mIt) (g : Int32) (x : Int32), (m - k) < N0 → (h 0 = .inr (.inr (4, [.ref r1, .ref r14, .int g, .int ac, .int rf, .int kn]))) → (rowAt h a room (mb bl) ys) → (∀ j, ((j < a ∨ a + 3 ≤ j) ∧ j ≠ 0) → h j = h0 j) → (mlp (stDrw bl) (m - k) k (ys, g, x) = r) → (ys.length = k) → (k ≤ m) → mT l mX2_appendDrawn rX2_appendDrawn K 21 [.ref 0, .ref a, .int (nI m), .int av, .int (nI b), .int x, .int (nI k)] [] h n 0 0 := by
  intro N0
  induction N0 with
  | zero => intro k h ys g x hm; exact absurd hm (Nat.not_lt_zero _)
  | succ N0 ih =>
    intro k h ys g x hm C0 H hfr hr hys hkm
    refine mt_iload dX2_appendDrawn_21 rfl ?_
    refine mt_iload_n dX2_appendDrawn_23 rfl ?_
    refine mt_icmp_ge dX2_appendDrawn_24 (tgt := 64) rfl (fun q1 => ?_) (fun q1 => ?_)
    · have q1 := Int32.not_lt.mpr q1
      have q1 := (not_congr (nI_ltI (by omega) (by omega))).mp q1
      exact kk0 k h ys g x H C0 hfr ((mlp_end (f := stDrw bl) (by omega)).symm.trans hr)
    · have q1 := Int32.not_le.mp q1
      have q1 := (nI_ltI (by omega) (by omega)).mp q1
      refine mt_iload dX2_appendDrawn_27 rfl ?_
      refine mt_sipush dX2_appendDrawn_29 (v := nI 25173) (by decide) ?_
      refine mp_imul dX2_appendDrawn_32 (v := x * (nI 25173)) rfl ?_
      refine mt_sipush dX2_appendDrawn_33 (v := nI 13849) (by decide) ?_
      refine mp_iadd dX2_appendDrawn_36 (v := (x * (nI 25173)) + (nI 13849)) rfl ?_
      refine mt_ldcw (v := nI 65536) dX2_appendDrawn_37 mw_412 ?_
      refine mp_irem dX2_appendDrawn_40 ((mI_ne0 (by first | decide | omega) (by first | decide | omega))) (v := ((x * (nI 25173)) + (nI 13849)) - ((x * (nI 25173)) + (nI 13849)) / (nI 65536) * (nI 65536)) rfl ?_
      refine mp_istore dX2_appendDrawn_41 (ls' := [.ref 0, .ref a, .int (nI m), .int av, .int (nI b), .int (((x * (nI 25173)) + (nI 13849)) - ((x * (nI 25173)) + (nI 13849)) / (nI 65536) * (nI 65536)), .int (nI k)]) rfl (by decide) rfl ?_
      refine mt_aload_n dX2_appendDrawn_43 rfl rfl ?_
      refine mt_iload dX2_appendDrawn_44 rfl ?_
      refine mt_sipush dX2_appendDrawn_46 (v := nI 512) (by decide) ?_
      refine mp_irem dX2_appendDrawn_49 ((mI_ne0 (by first | decide | omega) (by first | decide | omega))) (v := (((x * (nI 25173)) + (nI 13849)) - ((x * (nI 25173)) + (nI 13849)) / (nI 65536) * (nI 65536)) - (((x * (nI 25173)) + (nI 13849)) - ((x * (nI 25173)) + (nI 13849)) / (nI 65536) * (nI 65536)) / (nI 512) * (nI 512)) rfl ?_
      refine mt_aload_n dX2_appendDrawn_50 rfl rfl ?_
      refine mt_aload_n dX2_appendDrawn_51 rfl rfl ?_
      obtain ⟨f_2, g_2, ea_2, ek_2, es_2, ql_2, qr_2, qk_2, qt_2⟩ := id H
      refine mt_callV (N := mX2_stampOfNew) (Rc := rX2_stampOfNew) (As := [.ref a]) (st := [.int ((((x * (nI 25173)) + (nI 13849)) - ((x * (nI 25173)) + (nI 13849)) / (nI 65536) * (nI 65536)) - (((x * (nI 25173)) + (nI 13849)) - ((x * (nI 25173)) + (nI 13849)) / (nI 65536) * (nI 65536)) / (nI 512) * (nI 512)), .ref a]) dX2_appendDrawn_52 (kX2_stampOfNew hl C0 ea_2) sX2_stampOfNew mw_413 mKX2 rfl C0 rfl (Nat.le_of_ble_eq_true rfl) ⟨⟨Nat.le_of_ble_eq_true rfl, Nat.le_of_ble_eq_true rfl⟩, Nat.le_of_ble_eq_true rfl, Nat.le_of_ble_eq_true rfl⟩ (fun v3 h4 n5 c6 => ?_) (fun _ _ _ hx => hx.elim)
      obtain ⟨c6a, c6b, c6c, c6d⟩ := c6
      rw [c6a, c6b]
      show mT _ _ _ _ 55 [.ref 0, .ref a, .int (nI m), .int av, .int (nI b), .int (((x * (nI 25173)) + (nI 13849)) - ((x * (nI 25173)) + (nI 13849)) / (nI 65536) * (nI 65536)), .int (nI k)] [.int (nst bl g), .int ((((x * (nI 25173)) + (nI 13849)) - ((x * (nI 25173)) + (nI 13849)) / (nI 65536) * (nI 65536)) - (((x * (nI 25173)) + (nI 13849)) - ((x * (nI 25173)) + (nI 13849)) / (nI 65536) * (nI 65536)) / (nI 512) * (nI 512)), .ref a] _ _ _ _
      have H7 : rowAt h4 a room (mb (bl)) ys := (H).fr (fun j j1 j2 => c6d j (by omega))
      refine mt_callV (N := mX1_append) (Rc := rX1_append) (As := [.int ((((x * (nI 25173)) + (nI 13849)) - ((x * (nI 25173)) + (nI 13849)) / (nI 65536) * (nI 65536)) - (((x * (nI 25173)) + (nI 13849)) - ((x * (nI 25173)) + (nI 13849)) / (nI 65536) * (nI 65536)) / (nI 512) * (nI 512)), .int (nst bl g)]) (st := []) dX2_appendDrawn_55 (kX1_append hl H7 (by first | omega | assumption | (simp only [List.length_append, List.length_cons, List.length_nil, span_len, Nat.sub_zero] at *; omega))) sX1_append mw_421 mKX1 rfl ((c6d (a) (by omega)).trans ea_2) rfl (Nat.le_of_ble_eq_true rfl) ⟨⟨Nat.le_of_ble_eq_true rfl, Nat.le_of_ble_eq_true rfl⟩, Nat.le_of_ble_eq_true rfl, Nat.le_of_ble_eq_true rfl⟩ (fun v8 h9 n10 c11 => ?_) (fun _ _ _ hx => hx.elim)
      obtain ⟨c11a, c11b, c11c, c11d⟩ := c11
      rw [c11a, c11b]
      show mT _ _ _ _ 58 [.ref 0, .ref a, .int (nI m), .int av, .int (nI b), .int (((x * (nI 25173)) + (nI 13849)) - ((x * (nI 25173)) + (nI 13849)) / (nI 65536) * (nI 65536)), .int (nI k)] [] _ _ _ _
      refine mp_iinc dX2_appendDrawn_58 rfl (v := nI (k + 1)) mI_inc (ls' := [.ref 0, .ref a, .int (nI m), .int av, .int (nI b), .int (((x * (nI 25173)) + (nI 13849)) - ((x * (nI 25173)) + (nI 13849)) / (nI 65536) * (nI 65536)), .int (nI (k + 1))]) rfl (by decide) rfl ?_
      refine mt_goto dX2_appendDrawn_61 (tgt := 21) rfl ?_
      exact ih (k + 1) h9 (ys ++ [((((x * (nI 25173)) + (nI 13849)) - ((x * (nI 25173)) + (nI 13849)) / (nI 65536) * (nI 65536)) - (((x * (nI 25173)) + (nI 13849)) - ((x * (nI 25173)) + (nI 13849)) / (nI 65536) * (nI 65536)) / (nI 512) * (nI 512), nst bl g)]) (ngv bl g) (((x * (nI 25173)) + (nI 13849)) - ((x * (nI 25173)) + (nI 13849)) / (nI 65536) * (nI 65536)) (by omega) ((c11d (0) (by omega)).trans c6c) c11c (fun j hj => ((c11d j (by omega)).trans (c6d j (by omega))).trans (hfr j hj)) ((mlp_go (f := stDrw bl) (by omega) rfl).symm.trans hr) (by simp only [List.length_append, List.length_cons, List.length_nil]; omega) (by omega)
set_option maxRecDepth 100000 in
set_option maxHeartbeats 2000000 in
theorem kX2_appendDrawn {l : Launch} (hl : l.stackTraces = false) {h : mH} {n a room r1 r14 m b : Nat} {bl : Bool} {ac rf kn av : Int32} {g : Int32} (C0 : h 0 = .inr (.inr (4, [.ref r1, .ref r14, .int g, .int ac, .int rf, .int kn]))) (H : rowAt h a room (mb bl) []) (h0a : 0 < a) (hmr : m ≤ room) (hm : m ≤ 320) (hb2 : b < 100) : mC l mX2_appendDrawn rX2_appendDrawn [.ref 0, .ref a, .int (nI m), .int av, .int (nI b)] h n (fun v h' n' => v = none ∧ n' = n ∧ rowAt h' a room (mb bl) (mlp (stDrw bl) (m - 0) 0 ([], g, drx av b)).1 ∧ h' 0 = .inr (.inr (4, [.ref r1, .ref r14, .int ((mlp (stDrw bl) (m - 0) 0 ([], g, drx av b)).2.1), .int ac, .int rf, .int kn])) ∧ ∀ j, ((j < a ∨ a + 3 ≤ j) ∧ j ≠ 0) → h' j = h j) (mNX) := by
  refine mm_enter hl (by decide +kernel) rfl rfl rfl (Nat.le_of_ble_eq_true rfl) ?_
  show mT _ _ _ _ 0 [.ref 0, .ref a, .int (nI m), .int av, .int (nI b), .double 0, .double 0] [] _ _ 0 0
  refine mt_sipush dX2_appendDrawn_0 (v := nI 1000) (by decide) ?_
  refine mt_iload dX2_appendDrawn_3 rfl ?_
  refine mp_imul dX2_appendDrawn_5 (v := nI (1000 * b)) (mI_mul _ _) ?_
  refine mt_iload_n dX2_appendDrawn_6 rfl ?_
  refine mp_iadd dX2_appendDrawn_7 (v := (nI (1000 * b)) + av) rfl ?_
  refine mt_sipush dX2_appendDrawn_8 (v := nI 999) (by decide) ?_
  refine mp_iadd dX2_appendDrawn_11 (v := ((nI (1000 * b)) + av) + (nI 999)) rfl ?_
  refine mt_ldcw (v := nI 65536) dX2_appendDrawn_12 mw_412 ?_
  refine mp_irem dX2_appendDrawn_15 ((mI_ne0 (by first | decide | omega) (by first | decide | omega))) (v := (((nI (1000 * b)) + av) + (nI 999)) - (((nI (1000 * b)) + av) + (nI 999)) / (nI 65536) * (nI 65536)) rfl ?_
  refine mp_istore dX2_appendDrawn_16 (ls' := [.ref 0, .ref a, .int (nI m), .int av, .int (nI b), .int ((((nI (1000 * b)) + av) + (nI 999)) - (((nI (1000 * b)) + av) + (nI 999)) / (nI 65536) * (nI 65536)), .double 0]) rfl (by decide) rfl ?_
  refine mt_iconst dX2_appendDrawn_18 (v := nI 0) rfl ?_
  refine mp_istore dX2_appendDrawn_19 (ls' := [.ref 0, .ref a, .int (nI m), .int av, .int (nI b), .int ((((nI (1000 * b)) + av) + (nI 999)) - (((nI (1000 * b)) + av) + (nI 999)) / (nI 65536) * (nI 65536)), .int (nI 0)]) rfl (by decide) rfl ?_
  refine tX2_appendDrawn_21 hl h0a hmr hm hb2 (fun k_1 h_2 ys_3 g_4 x_5 z6 z7 z8 z9 => ?_) (m - 0 + 1) 0 h ([]) g ((((nI (1000 * b)) + av) + (nI 999)) - (((nI (1000 * b)) + av) + (nI 999)) / (nI 65536) * (nI 65536)) (Nat.lt_succ_self _) C0 H (fun _ _ => rfl) rfl rfl (by omega)
  refine mt_return dX2_appendDrawn_64 rfl (Nat.le_of_ble_eq_true rfl) (Nat.le_of_ble_eq_true rfl) ?_
  exact ⟨rfl, rfl, (congrArg Prod.fst z9) ▸ z6, z7.trans (congrArg (fun q : List mIt × Int32 × Int32 => (Sum.inr (Sum.inr (4, [.ref r1, .ref r14, .int q.2.1, .int ac, .int rf, .int kn])) : mE)) z9), z8⟩
def fillL (p m : Nat) (a : Int32) (b : Nat) (bl : Bool) (g : Int32) : List mIt × Int32 := if p = 7 then ((mlp (stDrw bl) (m - 0) 0 ([], g, drx a b)).1, (mlp (stDrw bl) (m - 0) 0 ([], g, drx a b)).2.1) else mlp (stPat p m a b bl) (m - 0) 0 ([], g)
def sp_fill (S : cS) (row : Int32) (many : Int32) (pattern : Int32) (a : Int32) (b : Int32) : Nat × Value × cS := dAt S 4 row fun r => dArg S (rroom r + 1) many fun m => dArg S 8 pattern fun p => dFit S (aOk a) (dB S b fun bn => (0, .int (nI (S.1 r).length), cAct (cGiv (cSet S r (fillL p m a bn (decide (r < 2)) S.2.1).1) (fillL p m a bn (decide (r < 2)) S.2.1).2)))
abbrev rX2_fill : Room := { frames := 7, cells := 5, slots := 30, locals := 111 }
set_option maxRecDepth 100000 in
set_option maxHeartbeats 2000000 in
theorem kX2_fill {l : Launch} (hl : l.stackTraces = false) {h : mH} {n : Nat} {S : cS} {row : Int32} {many : Int32} {pattern : Int32} {a : Int32} {b : Int32} (C : cAt h S) : mC l mX2_fill rX2_fill [.ref 0, .int row, .int many, .int pattern, .int a, .int b] h n (cOk (sp_fill S row many pattern a b) h n) (cNo (sp_fill S row many pattern a b).1 h n) := by
  obtain ⟨C0, ⟨cg, C1, C1g⟩, C14, CR, ⟨zs15, HK15⟩, ⟨zs18, HK18⟩, ⟨zs21, HK21⟩, ⟨zs24, HK24⟩⟩ := id C
  refine mm_enter hl (by decide +kernel) rfl rfl rfl (Nat.le_of_ble_eq_true rfl) ?_
  show mT _ _ _ _ 0 [.ref 0, .int row, .int many, .int pattern, .int a, .int b, .double 0, .double 0] [] _ _ 0 0
  refine mt_aload_n dX2_fill_0 rfl rfl ?_
  refine mt_iload_n dX2_fill_1 rfl ?_
  refine mt_callV (N := mX2_rowOf) (Rc := rX2_rowOf) (As := [.int row]) (st := []) dX2_fill_2 (kX2_rowOf hl C) sX2_rowOf mw_230 mKX2 rfl C0 rfl (Nat.le_of_ble_eq_true rfl) ⟨⟨Nat.le_of_ble_eq_true rfl, Nat.le_of_ble_eq_true rfl⟩, Nat.le_of_ble_eq_true rfl, Nat.le_of_ble_eq_true rfl⟩ (fun v1 h2 n3 c4 => ?_) (fun E h9 n9 hx => mt_out rfl (by obtain ⟨rfl, hq, rfl, rfl⟩ := hx; exact cNo.i (by simp only [sp_fill, dAt_n hq])) (Nat.le_of_ble_eq_true rfl) (Nat.le_of_ble_eq_true rfl))
  obtain ⟨r5, hr5, rfl, c4a, c4b, c4c⟩ := c4
  rw [c4a, c4b, c4c]
  have hLr5 := (CR r5 hr5).len
  show mT _ _ _ _ 5 [.ref 0, .int (nI r5), .int many, .int pattern, .int a, .int b, .double 0, .double 0] [.ref (2 + 3 * r5)] _ _ _ _
  refine mp_astore dX2_fill_5 (ls' := [.ref 0, .int (nI r5), .int many, .int pattern, .int a, .int b, .ref (2 + 3 * r5), .double 0]) rfl rfl (by decide) rfl ?_
  refine mt_iload_n dX2_fill_7 rfl ?_
  refine mt_if_lt dX2_fill_8 (tgt := 24) rfl (fun q6 => ?_) (fun q6 => ?_)
  · refine mt_iconst dX2_fill_24 (v := nI 0) rfl ?_
    refine mt_callS (N := mX2_demand) (Rc := rX2_demand) (As := [.int (nI 0)]) (st := []) dX2_fill_25 (kX2_demand_f hl) sX2_demand mw_309 rfl (Nat.le_of_ble_eq_true rfl) ⟨⟨Nat.le_of_ble_eq_true rfl, Nat.le_of_ble_eq_true rfl⟩, Nat.le_of_ble_eq_true rfl, Nat.le_of_ble_eq_true rfl⟩ (fun _ _ _ hv => hv.elim) (fun E h9 n9 hx => ?_)
    obtain ⟨rfl, rfl, rfl⟩ := hx
    refine mt_out rfl ?_ (Nat.le_of_ble_eq_true rfl) (Nat.le_of_ble_eq_true rfl)
    exact cNo.a (by simp only [sp_fill, dArg_n (k := rroom r5 + 1) (x := many) (by first | exact inN_neg (by assumption) | exact inN_gt (by assumption) (by first | decide | omega)), dAt_s hr5 (by decide)])
  · refine mt_iload_n dX2_fill_11 rfl ?_
    refine mt_aload dX2_fill_12 rfl rfl ?_
    have H11 : rowAt h (2 + 3 * r5) (rroom r5) (mb (decide (r5 < 2))) (S.1 r5) := CR r5 (by omega)
    obtain ⟨f_16, g_16, ea_16, ek_16, es_16, ql_16, qr_16, qk_16, qt_16⟩ := id H11
    refine mt_callV (N := mX1_room) (Rc := rX1_room) (As := []) (st := [.int many]) dX2_fill_14 (kX1_room hl H11) sX1_room mw_403 mKX1 rfl ea_16 rfl (Nat.le_of_ble_eq_true rfl) ⟨⟨Nat.le_of_ble_eq_true rfl, Nat.le_of_ble_eq_true rfl⟩, Nat.le_of_ble_eq_true rfl, Nat.le_of_ble_eq_true rfl⟩ (fun v12 h13 n14 c15 => ?_) (fun _ _ _ hx => hx.elim)
    obtain ⟨c15a, c15b, c15c⟩ := c15
    rw [c15a, c15b, c15c]
    show mT _ _ _ _ 17 [.ref 0, .int (nI r5), .int many, .int pattern, .int a, .int b, .ref (2 + 3 * r5), .double 0] [.int (nI (rroom r5)), .int many] _ _ _ _
    refine mt_icmp_gt dX2_fill_17 (tgt := 24) rfl (fun q17 => ?_) (fun q17 => ?_)
    · refine mt_iconst dX2_fill_24 (v := nI 0) rfl ?_
      refine mt_callS (N := mX2_demand) (Rc := rX2_demand) (As := [.int (nI 0)]) (st := []) dX2_fill_25 (kX2_demand_f hl) sX2_demand mw_309 rfl (Nat.le_of_ble_eq_true rfl) ⟨⟨Nat.le_of_ble_eq_true rfl, Nat.le_of_ble_eq_true rfl⟩, Nat.le_of_ble_eq_true rfl, Nat.le_of_ble_eq_true rfl⟩ (fun _ _ _ hv => hv.elim) (fun E h9 n9 hx => ?_)
      obtain ⟨rfl, rfl, rfl⟩ := hx
      refine mt_out rfl ?_ (Nat.le_of_ble_eq_true rfl) (Nat.le_of_ble_eq_true rfl)
      exact cNo.a (by simp only [sp_fill, dArg_n (k := rroom r5 + 1) (x := many) (by first | exact inN_neg (by assumption) | exact inN_gt (by assumption) (by first | decide | omega)), dAt_s hr5 (by decide)])
    · refine mt_iconst dX2_fill_20 (v := nI 1) rfl ?_
      refine mt_goto dX2_fill_21 (tgt := 25) rfl ?_
      obtain ⟨p22, hp22, rfl⟩ := inN_le (k := rroom r5) (by assumption) (by assumption) (by first | decide | omega)
      refine mt_callS (N := mX2_demand) (Rc := rX2_demand) (As := [.int (nI 1)]) (st := []) dX2_fill_25 (kX2_demand_t hl) sX2_demand mw_309 rfl (Nat.le_of_ble_eq_true rfl) ⟨⟨Nat.le_of_ble_eq_true rfl, Nat.le_of_ble_eq_true rfl⟩, Nat.le_of_ble_eq_true rfl, Nat.le_of_ble_eq_true rfl⟩ (fun v23 h24 n25 c26 => ?_) (fun _ _ _ hx => hx.elim)
      obtain ⟨c26a, c26b, c26c⟩ := c26
      rw [c26a, c26b, c26c]
      show mT _ _ _ _ 28 [.ref 0, .int (nI r5), .int (nI p22), .int pattern, .int a, .int b, .ref (2 + 3 * r5), .double 0] [] _ _ _ _
      refine mt_iload_n dX2_fill_28 rfl ?_
      refine mt_if_lt dX2_fill_29 (tgt := 42) rfl (fun q27 => ?_) (fun q27 => ?_)
      · refine mt_iconst dX2_fill_42 (v := nI 0) rfl ?_
        refine mt_callS (N := mX2_demand) (Rc := rX2_demand) (As := [.int (nI 0)]) (st := []) dX2_fill_43 (kX2_demand_f hl) sX2_demand mw_309 rfl (Nat.le_of_ble_eq_true rfl) ⟨⟨Nat.le_of_ble_eq_true rfl, Nat.le_of_ble_eq_true rfl⟩, Nat.le_of_ble_eq_true rfl, Nat.le_of_ble_eq_true rfl⟩ (fun _ _ _ hv => hv.elim) (fun E h9 n9 hx => ?_)
        obtain ⟨rfl, rfl, rfl⟩ := hx
        refine mt_out rfl ?_ (Nat.le_of_ble_eq_true rfl) (Nat.le_of_ble_eq_true rfl)
        exact cNo.a (by simp only [sp_fill, dArg_n (k := 8) (x := pattern) (by first | exact inN_neg (by assumption) | exact inN_gt (by assumption) (by first | decide | omega)), dAt_s hr5 (by decide), dArg_s hp22 (by first | decide | omega)])
      · refine mt_iload_n dX2_fill_32 rfl ?_
        refine mt_bipush dX2_fill_33 (v := nI 7) (by decide) ?_
        refine mt_icmp_gt dX2_fill_35 (tgt := 42) rfl (fun q32 => ?_) (fun q32 => ?_)
        · refine mt_iconst dX2_fill_42 (v := nI 0) rfl ?_
          refine mt_callS (N := mX2_demand) (Rc := rX2_demand) (As := [.int (nI 0)]) (st := []) dX2_fill_43 (kX2_demand_f hl) sX2_demand mw_309 rfl (Nat.le_of_ble_eq_true rfl) ⟨⟨Nat.le_of_ble_eq_true rfl, Nat.le_of_ble_eq_true rfl⟩, Nat.le_of_ble_eq_true rfl, Nat.le_of_ble_eq_true rfl⟩ (fun _ _ _ hv => hv.elim) (fun E h9 n9 hx => ?_)
          obtain ⟨rfl, rfl, rfl⟩ := hx
          refine mt_out rfl ?_ (Nat.le_of_ble_eq_true rfl) (Nat.le_of_ble_eq_true rfl)
          exact cNo.a (by simp only [sp_fill, dArg_n (k := 8) (x := pattern) (by first | exact inN_neg (by assumption) | exact inN_gt (by assumption) (by first | decide | omega)), dAt_s hr5 (by decide), dArg_s hp22 (by first | decide | omega)])
        · refine mt_iconst dX2_fill_38 (v := nI 1) rfl ?_
          refine mt_goto dX2_fill_39 (tgt := 43) rfl ?_
          obtain ⟨p37, hp37, rfl⟩ := inN_le (k := 7) (by assumption) (by assumption) (by first | decide | omega)
          refine mt_callS (N := mX2_demand) (Rc := rX2_demand) (As := [.int (nI 1)]) (st := []) dX2_fill_43 (kX2_demand_t hl) sX2_demand mw_309 rfl (Nat.le_of_ble_eq_true rfl) ⟨⟨Nat.le_of_ble_eq_true rfl, Nat.le_of_ble_eq_true rfl⟩, Nat.le_of_ble_eq_true rfl, Nat.le_of_ble_eq_true rfl⟩ (fun v38 h39 n40 c41 => ?_) (fun _ _ _ hx => hx.elim)
          obtain ⟨c41a, c41b, c41c⟩ := c41
          rw [c41a, c41b, c41c]
          show mT _ _ _ _ 46 [.ref 0, .int (nI r5), .int (nI p22), .int (nI p37), .int a, .int b, .ref (2 + 3 * r5), .double 0] [] _ _ _ _
          refine mt_iload dX2_fill_46 rfl ?_
          refine mt_sipush dX2_fill_48 (v := -999) (by decide) ?_
          refine mt_icmp_lt dX2_fill_51 (tgt := 66) rfl (fun q42 => ?_) (fun q42 => ?_)
          · refine mt_iconst dX2_fill_66 (v := nI 0) rfl ?_
            refine mt_callS (N := mX2_demand) (Rc := rX2_demand) (As := [.int (nI 0)]) (st := []) dX2_fill_67 (kX2_demand_f hl) sX2_demand mw_309 rfl (Nat.le_of_ble_eq_true rfl) ⟨⟨Nat.le_of_ble_eq_true rfl, Nat.le_of_ble_eq_true rfl⟩, Nat.le_of_ble_eq_true rfl, Nat.le_of_ble_eq_true rfl⟩ (fun _ _ _ hv => hv.elim) (fun E h9 n9 hx => ?_)
            obtain ⟨rfl, rfl, rfl⟩ := hx
            refine mt_out rfl ?_ (Nat.le_of_ble_eq_true rfl) (Nat.le_of_ble_eq_true rfl)
            exact cNo.a (by simp only [sp_fill, dFit_n (b := aOk a) (by simp [aOk, q32, q42]), dAt_s hr5 (by decide), dArg_s hp22 (by first | decide | omega), dArg_s (k := 8) hp37 (by first | decide | omega)])
          · refine mt_iload dX2_fill_54 rfl ?_
            refine mt_sipush dX2_fill_56 (v := nI 999) (by decide) ?_
            refine mt_icmp_gt dX2_fill_59 (tgt := 66) rfl (fun q47 => ?_) (fun q47 => ?_)
            · refine mt_iconst dX2_fill_66 (v := nI 0) rfl ?_
              refine mt_callS (N := mX2_demand) (Rc := rX2_demand) (As := [.int (nI 0)]) (st := []) dX2_fill_67 (kX2_demand_f hl) sX2_demand mw_309 rfl (Nat.le_of_ble_eq_true rfl) ⟨⟨Nat.le_of_ble_eq_true rfl, Nat.le_of_ble_eq_true rfl⟩, Nat.le_of_ble_eq_true rfl, Nat.le_of_ble_eq_true rfl⟩ (fun _ _ _ hv => hv.elim) (fun E h9 n9 hx => ?_)
              obtain ⟨rfl, rfl, rfl⟩ := hx
              refine mt_out rfl ?_ (Nat.le_of_ble_eq_true rfl) (Nat.le_of_ble_eq_true rfl)
              exact cNo.a (by simp only [sp_fill, dFit_n (b := aOk a) (by simp [aOk, q42, q47]), dAt_s hr5 (by decide), dArg_s hp22 (by first | decide | omega), dArg_s (k := 8) hp37 (by first | decide | omega)])
            · refine mt_iconst dX2_fill_62 (v := nI 1) rfl ?_
              refine mt_goto dX2_fill_63 (tgt := 67) rfl ?_
              have haok : aOk a = true := by simp [aOk, q42, q47]
              refine mt_callS (N := mX2_demand) (Rc := rX2_demand) (As := [.int (nI 1)]) (st := []) dX2_fill_67 (kX2_demand_t hl) sX2_demand mw_309 rfl (Nat.le_of_ble_eq_true rfl) ⟨⟨Nat.le_of_ble_eq_true rfl, Nat.le_of_ble_eq_true rfl⟩, Nat.le_of_ble_eq_true rfl, Nat.le_of_ble_eq_true rfl⟩ (fun v52 h53 n54 c55 => ?_) (fun _ _ _ hx => hx.elim)
              obtain ⟨c55a, c55b, c55c⟩ := c55
              rw [c55a, c55b, c55c]
              show mT _ _ _ _ 70 [.ref 0, .int (nI r5), .int (nI p22), .int (nI p37), .int a, .int b, .ref (2 + 3 * r5), .double 0] [] _ _ _ _
              refine mt_iload dX2_fill_70 rfl ?_
              refine mt_iconst dX2_fill_72 (v := nI 1) rfl ?_
              refine mt_icmp_lt dX2_fill_73 (tgt := 87) rfl (fun q56 => ?_) (fun q56 => ?_)
              · simp only [mI_one, nI_0] at q56
                refine mt_iconst dX2_fill_87 (v := nI 0) rfl ?_
                refine mt_callS (N := mX2_demand) (Rc := rX2_demand) (As := [.int (nI 0)]) (st := []) dX2_fill_88 (kX2_demand_f hl) sX2_demand mw_309 rfl (Nat.le_of_ble_eq_true rfl) ⟨⟨Nat.le_of_ble_eq_true rfl, Nat.le_of_ble_eq_true rfl⟩, Nat.le_of_ble_eq_true rfl, Nat.le_of_ble_eq_true rfl⟩ (fun _ _ _ hv => hv.elim) (fun E h9 n9 hx => ?_)
                obtain ⟨rfl, rfl, rfl⟩ := hx
                refine mt_out rfl ?_ (Nat.le_of_ble_eq_true rfl) (Nat.le_of_ble_eq_true rfl)
                exact cNo.a (by simp only [sp_fill, dB_n (x := b) (by first | exact Or.inl (by assumption) | exact Or.inr (by assumption)), dAt_s hr5 (by decide), dArg_s hp22 (by first | decide | omega), dArg_s (k := 8) hp37 (by first | decide | omega), dFit_s haok])
              · simp only [mI_one, nI_0] at q56
                refine mt_iload dX2_fill_76 rfl ?_
                refine mt_bipush dX2_fill_78 (v := nI 99) (by decide) ?_
                refine mt_icmp_gt dX2_fill_80 (tgt := 87) rfl (fun q61 => ?_) (fun q61 => ?_)
                · refine mt_iconst dX2_fill_87 (v := nI 0) rfl ?_
                  refine mt_callS (N := mX2_demand) (Rc := rX2_demand) (As := [.int (nI 0)]) (st := []) dX2_fill_88 (kX2_demand_f hl) sX2_demand mw_309 rfl (Nat.le_of_ble_eq_true rfl) ⟨⟨Nat.le_of_ble_eq_true rfl, Nat.le_of_ble_eq_true rfl⟩, Nat.le_of_ble_eq_true rfl, Nat.le_of_ble_eq_true rfl⟩ (fun _ _ _ hv => hv.elim) (fun E h9 n9 hx => ?_)
                  obtain ⟨rfl, rfl, rfl⟩ := hx
                  refine mt_out rfl ?_ (Nat.le_of_ble_eq_true rfl) (Nat.le_of_ble_eq_true rfl)
                  exact cNo.a (by simp only [sp_fill, dB_n (x := b) (by first | exact Or.inl (by assumption) | exact Or.inr (by assumption)), dAt_s hr5 (by decide), dArg_s hp22 (by first | decide | omega), dArg_s (k := 8) hp37 (by first | decide | omega), dFit_s haok])
                · refine mt_iconst dX2_fill_83 (v := nI 1) rfl ?_
                  refine mt_goto dX2_fill_84 (tgt := 88) rfl ?_
                  obtain ⟨bn, hbn, hb0, rfl⟩ := dB_in q56 q61
                  refine mt_callS (N := mX2_demand) (Rc := rX2_demand) (As := [.int (nI 1)]) (st := []) dX2_fill_88 (kX2_demand_t hl) sX2_demand mw_309 rfl (Nat.le_of_ble_eq_true rfl) ⟨⟨Nat.le_of_ble_eq_true rfl, Nat.le_of_ble_eq_true rfl⟩, Nat.le_of_ble_eq_true rfl, Nat.le_of_ble_eq_true rfl⟩ (fun v66 h67 n68 c69 => ?_) (fun _ _ _ hx => hx.elim)
                  obtain ⟨c69a, c69b, c69c⟩ := c69
                  rw [c69a, c69b, c69c]
                  show mT _ _ _ _ 91 [.ref 0, .int (nI r5), .int (nI p22), .int (nI p37), .int a, .int (nI bn), .ref (2 + 3 * r5), .double 0] [] _ _ _ _
                  refine mt_aload dX2_fill_91 rfl rfl ?_
                  refine mt_getfield mKX1 (i := 3) (by decide) mw_76 dX2_fill_93 ea_16 rfl ?_
                  refine mp_istore dX2_fill_96 (ls' := [.ref 0, .int (nI r5), .int (nI p22), .int (nI p37), .int a, .int (nI bn), .ref (2 + 3 * r5), .int (nI ((S.1 r5).length))]) rfl (by decide) rfl ?_
                  refine mt_aload dX2_fill_98 rfl rfl ?_
                  refine mt_callV (N := mX1_empty) (Rc := rX1_empty) (As := []) (st := []) dX2_fill_100 (kX1_empty hl H11) sX1_empty mw_407 mKX1 rfl ea_16 rfl (Nat.le_of_ble_eq_true rfl) ⟨⟨Nat.le_of_ble_eq_true rfl, Nat.le_of_ble_eq_true rfl⟩, Nat.le_of_ble_eq_true rfl, Nat.le_of_ble_eq_true rfl⟩ (fun v70 h71 n72 c73 => ?_) (fun _ _ _ hx => hx.elim)
                  obtain ⟨c73a, c73b, c73c, c73d⟩ := c73
                  rw [c73a, c73b]
                  show mT _ _ _ _ 103 [.ref 0, .int (nI r5), .int (nI p22), .int (nI p37), .int a, .int (nI bn), .ref (2 + 3 * r5), .int (nI ((S.1 r5).length))] [] _ _ _ _
                  refine mt_iload_n dX2_fill_103 rfl ?_
                  refine mt_bipush dX2_fill_104 (v := nI 7) (by decide) ?_
                  refine mt_icmp_ne dX2_fill_106 (tgt := 123) rfl (fun q74 => ?_) (fun q74 => ?_)
                  · have q74 := (not_congr (nI_eq (by omega) (by omega))).mp q74
                    refine mt_aload_n dX2_fill_123 rfl rfl ?_
                    refine mt_aload dX2_fill_124 rfl rfl ?_
                    refine mt_iload_n dX2_fill_126 rfl ?_
                    refine mt_iload_n dX2_fill_127 rfl ?_
                    refine mt_iload dX2_fill_128 rfl ?_
                    refine mt_iload dX2_fill_130 rfl ?_
                    refine mt_callV (N := mX2_appendPattern) (Rc := rX2_appendPattern) (As := [.ref (2 + 3 * r5), .int (nI p22), .int (nI p37), .int a, .int (nI bn)]) (st := []) dX2_fill_132 (kX2_appendPattern hl ((c73d (0) (by omega)).trans C0) c73c (by omega) (by omega) (by omega) (by omega) (by omega) (by omega)) sX2_appendPattern mw_422 mKX2 rfl ((c73d (0) (by omega)).trans C0) rfl (Nat.le_of_ble_eq_true rfl) ⟨⟨Nat.le_of_ble_eq_true rfl, Nat.le_of_ble_eq_true rfl⟩, Nat.le_of_ble_eq_true rfl, Nat.le_of_ble_eq_true rfl⟩ (fun v75 h76 n77 c78 => ?_) (fun _ _ _ hx => hx.elim)
                    obtain ⟨c78a, c78b, c78c, c78d, c78e⟩ := c78
                    rw [c78a, c78b]
                    show mT _ _ _ _ 135 [.ref 0, .int (nI r5), .int (nI p22), .int (nI p37), .int a, .int (nI bn), .ref (2 + 3 * r5), .int (nI ((S.1 r5).length))] [] _ _ _ _
                    refine mt_aload_n dX2_fill_135 rfl rfl ?_
                    refine mt_iload dX2_fill_136 rfl ?_
                    refine mt_callV (N := mX2_done) (Rc := rX2_done) (As := [.int (nI ((S.1 r5).length))]) (st := []) dX2_fill_138 (kX2_done hl c78d) sX2_done mw_430 mKX2 rfl c78d rfl (Nat.le_of_ble_eq_true rfl) ⟨⟨Nat.le_of_ble_eq_true rfl, Nat.le_of_ble_eq_true rfl⟩, Nat.le_of_ble_eq_true rfl, Nat.le_of_ble_eq_true rfl⟩ (fun v79 h80 n81 c82 => ?_) (fun _ _ _ hx => hx.elim)
                    obtain ⟨c82a, c82b, c82c, c82d⟩ := c82
                    rw [c82a, c82b]
                    show mT _ _ _ _ 141 [.ref 0, .int (nI r5), .int (nI p22), .int (nI p37), .int a, .int (nI bn), .ref (2 + 3 * r5), .int (nI ((S.1 r5).length))] [.int (nI ((S.1 r5).length))] _ _ _ _
                    refine mt_ireturn dX2_fill_141 rfl rfl (Nat.le_of_ble_eq_true rfl) (Nat.le_of_ble_eq_true rfl) ?_
                    exact cOk.of (x := .int (nI ((S.1 r5).length))) (S' := (fun k => if k = r5 then (mlp (stPat p37 p22 a bn (decide (r5 < 2))) (p22 - 0) 0 ([], S.2.1)).1 else S.1 k, (mlp (stPat p37 p22 a bn (decide (r5 < 2))) (p22 - 0) 0 ([], S.2.1)).2, S.2.2.1 + nI 1, S.2.2.2.1, S.2.2.2.2)) (by simp only [sp_fill, dAt_s hr5 (by decide), dArg_s hp22 (by first | decide | omega), dArg_s (k := 8) hp37 (by first | decide | omega), dFit_s haok, dB_s hbn hb0]; simp only [cAct, cGiv, cSet, fillL, if_neg q74]) rfl rfl ⟨c82c, ⟨cg, (c82d (1) (by omega)).trans ((c78e (1) (by omega)).trans ((c73d (1) (by omega)).trans C1)), C1g⟩, (c82d (14) (by omega)).trans ((c78e (14) (by omega)).trans ((c73d (14) (by omega)).trans C14)), cRows CR (by omega) ((c78c).fr (fun j j1 j2 => c82d j (by omega))) (fun j j1 j2 j3 => (c82d j (by omega)).trans ((c78e j (by omega)).trans (c73d j (by omega)))), ⟨_, (((HK15).fr (fun j j1 j2 => c73d j (by omega))).fr (fun j j1 j2 => c78e j (by omega))).fr (fun j j1 j2 => c82d j (by omega))⟩, ⟨_, (((HK18).fr (fun j j1 j2 => c73d j (by omega))).fr (fun j j1 j2 => c78e j (by omega))).fr (fun j j1 j2 => c82d j (by omega))⟩, ⟨_, (((HK21).fr (fun j j1 j2 => c73d j (by omega))).fr (fun j j1 j2 => c78e j (by omega))).fr (fun j j1 j2 => c82d j (by omega))⟩, ⟨_, (((HK24).fr (fun j j1 j2 => c73d j (by omega))).fr (fun j j1 j2 => c78e j (by omega))).fr (fun j j1 j2 => c82d j (by omega))⟩⟩ (fun j hj => (c82d j (by omega)).trans ((c78e j (by omega)).trans (c73d j (by omega))))
                  · have q74 := (nI_eq (by omega) (by omega)).mp q74
                    refine mt_aload_n dX2_fill_109 rfl rfl ?_
                    refine mt_aload dX2_fill_110 rfl rfl ?_
                    refine mt_iload_n dX2_fill_112 rfl ?_
                    refine mt_iload dX2_fill_113 rfl ?_
                    refine mt_iload dX2_fill_115 rfl ?_
                    refine mt_callV (N := mX2_appendDrawn) (Rc := rX2_appendDrawn) (As := [.ref (2 + 3 * r5), .int (nI p22), .int a, .int (nI bn)]) (st := []) dX2_fill_117 (kX2_appendDrawn hl ((c73d (0) (by omega)).trans C0) c73c (by omega) (by omega) (by omega) (by omega)) sX2_appendDrawn mw_408 mKX2 rfl ((c73d (0) (by omega)).trans C0) rfl (Nat.le_of_ble_eq_true rfl) ⟨⟨Nat.le_of_ble_eq_true rfl, Nat.le_of_ble_eq_true rfl⟩, Nat.le_of_ble_eq_true rfl, Nat.le_of_ble_eq_true rfl⟩ (fun v83 h84 n85 c86 => ?_) (fun _ _ _ hx => hx.elim)
                    obtain ⟨c86a, c86b, c86c, c86d, c86e⟩ := c86
                    rw [c86a, c86b]
                    show mT _ _ _ _ 120 [.ref 0, .int (nI r5), .int (nI p22), .int (nI p37), .int a, .int (nI bn), .ref (2 + 3 * r5), .int (nI ((S.1 r5).length))] [] _ _ _ _
                    refine mt_goto dX2_fill_120 (tgt := 135) rfl ?_
                    refine mt_aload_n dX2_fill_135 rfl rfl ?_
                    refine mt_iload dX2_fill_136 rfl ?_
                    refine mt_callV (N := mX2_done) (Rc := rX2_done) (As := [.int (nI ((S.1 r5).length))]) (st := []) dX2_fill_138 (kX2_done hl c86d) sX2_done mw_430 mKX2 rfl c86d rfl (Nat.le_of_ble_eq_true rfl) ⟨⟨Nat.le_of_ble_eq_true rfl, Nat.le_of_ble_eq_true rfl⟩, Nat.le_of_ble_eq_true rfl, Nat.le_of_ble_eq_true rfl⟩ (fun v87 h88 n89 c90 => ?_) (fun _ _ _ hx => hx.elim)
                    obtain ⟨c90a, c90b, c90c, c90d⟩ := c90
                    rw [c90a, c90b]
                    show mT _ _ _ _ 141 [.ref 0, .int (nI r5), .int (nI p22), .int (nI p37), .int a, .int (nI bn), .ref (2 + 3 * r5), .int (nI ((S.1 r5).length))] [.int (nI ((S.1 r5).length))] _ _ _ _
                    refine mt_ireturn dX2_fill_141 rfl rfl (Nat.le_of_ble_eq_true rfl) (Nat.le_of_ble_eq_true rfl) ?_
                    exact cOk.of (x := .int (nI ((S.1 r5).length))) (S' := (fun k => if k = r5 then (mlp (stDrw (decide (r5 < 2))) (p22 - 0) 0 ([], S.2.1, drx a bn)).1 else S.1 k, (mlp (stDrw (decide (r5 < 2))) (p22 - 0) 0 ([], S.2.1, drx a bn)).2.1, S.2.2.1 + nI 1, S.2.2.2.1, S.2.2.2.2)) (by simp only [sp_fill, dAt_s hr5 (by decide), dArg_s hp22 (by first | decide | omega), dArg_s (k := 8) hp37 (by first | decide | omega), dFit_s haok, dB_s hbn hb0]; simp only [cAct, cGiv, cSet, fillL, if_pos q74]) rfl rfl ⟨c90c, ⟨cg, (c90d (1) (by omega)).trans ((c86e (1) (by omega)).trans ((c73d (1) (by omega)).trans C1)), C1g⟩, (c90d (14) (by omega)).trans ((c86e (14) (by omega)).trans ((c73d (14) (by omega)).trans C14)), cRows CR (by omega) ((c86c).fr (fun j j1 j2 => c90d j (by omega))) (fun j j1 j2 j3 => (c90d j (by omega)).trans ((c86e j (by omega)).trans (c73d j (by omega)))), ⟨_, (((HK15).fr (fun j j1 j2 => c73d j (by omega))).fr (fun j j1 j2 => c86e j (by omega))).fr (fun j j1 j2 => c90d j (by omega))⟩, ⟨_, (((HK18).fr (fun j j1 j2 => c73d j (by omega))).fr (fun j j1 j2 => c86e j (by omega))).fr (fun j j1 j2 => c90d j (by omega))⟩, ⟨_, (((HK21).fr (fun j j1 j2 => c73d j (by omega))).fr (fun j j1 j2 => c86e j (by omega))).fr (fun j j1 j2 => c90d j (by omega))⟩, ⟨_, (((HK24).fr (fun j j1 j2 => c73d j (by omega))).fr (fun j j1 j2 => c86e j (by omega))).fr (fun j j1 j2 => c90d j (by omega))⟩⟩ (fun j hj => (c90d j (by omega)).trans ((c86e j (by omega)).trans (c73d j (by omega))))
