/-! ===== the law: its last cases, its loop ===== -/
theorem and63 (x : Int32) : ∃ k, k < 64 ∧ x &&& nI 63 = nI k := by
  refine ⟨x.toBitVec.toNat % 64, Nat.mod_lt _ (by decide), ?_⟩
  apply Int32.toBitVec_inj.mp
  apply BitVec.eq_of_toNat_eq
  have e1 : (x &&& nI 63).toBitVec = x.toBitVec &&& (nI 63).toBitVec := rfl
  rw [e1, BitVec.toNat_and]
  have e2 : (nI 63).toBitVec.toNat = 63 := by decide
  have e3 : (nI (x.toBitVec.toNat % 64)).toBitVec.toNat = (x.toBitVec.toNat % 64) % 2 ^ 32 := BitVec.toNat_ofNat ..
  rw [e2, e3, Nat.mod_eq_of_lt (by omega)]
  exact Nat.and_two_pow_sub_one_eq_mod _ 6
theorem law_i6 {L i : Nat} (hL : L ≤ 384) (hi : i ≤ 384) (q : ¬ nI L - nI 6 < nI i) : i + 6 ≤ L := by
  have e1 := pk_sub_toInt (a := L) (b := 6) (by omega) (by omega)
  have e2 := nI_toInt (show i < 2 ^ 31 by omega)
  rw [Int32.lt_iff_toInt_lt, e1, e2] at q
  omega
theorem cAt.frG {h h' : mH} {S : cS} (C : cAt h S) {n : Nat} (h39 : 39 ≤ n) (hf : ∀ j, (j < n ∧ j ≠ 27) → h' j = h j) : cAt h' S := cAt.fr2 C (fun j hj => hf j ⟨by omega, by omega⟩)
set_option maxRecDepth 100000 in
set_option maxHeartbeats 2000000 in
theorem tL_c43 {l : Launch} (hl : l.stackTraces = false) {L : Nat} {xs : Nat → Int32} : lawCase l L xs 1964 := by
  intro i h n S th y s cc sc hi6 hL C M O hcc hsc kk
  show mT _ _ _ _ 1964 [.retAddr 0, .ref 0, .ref 27, .ref 38, .int (nI i), .double 0, .double 0] [] _ _ _ _
  refine mt_aload_n dL_law_1964 rfl rfl ?_
  refine mt_callV (N := mX2_knock) (Rc := rX2_knock) (As := []) (st := []) dL_law_1965 (kX2_knock hl C) sX2_knock mw_131 mKX2 rfl C.1 rfl (Nat.le_of_ble_eq_true rfl) ⟨⟨Nat.le_of_ble_eq_true rfl, Nat.le_of_ble_eq_true rfl⟩, (by simp only [rX2_knock, rX4_knock, room_1]; omega), (by simp only [rX2_knock, rX4_knock, room_1]; omega)⟩ (fun v1 h2 n3 c4 => ?_) (fun E h9 n9 hx => by obtain ⟨hE, -, -⟩ := hx; rcases hE with ⟨-, z⟩ | ⟨-, z⟩ <;> cases z)
  obtain ⟨c40, c4a, c4b, c4c, c4d⟩ := c4
  have c4v : v1 = some (.int (S.2.2.2.2 + nI 1)) := c4a
  rw [c4v, c4b]
  have Mc4 := mAt.fr M (Nat.le_refl _) (fun j j1 j2 => c4d j j1)
  have Oc4 := (c4d 38 (by omega)).trans O
  show mT _ _ _ _ 1968 [.retAddr 0, .ref 0, .ref 27, .ref 38, .int (nI i), .double 0, .double 0] [.int (S.2.2.2.2 + nI 1)] _ _ _ _
  refine mt_pop dL_law_1968 rfl ?_
  refine mt_aload_n dL_law_1969 rfl rfl ?_
  refine mt_callV (N := mX4_knock) (Rc := rX4_knock) (As := []) (st := []) dL_law_1970 (kX4_knock hl Mc4) sX4_knock mw_1348 mKX4 rfl Mc4.1 rfl (Nat.le_of_ble_eq_true rfl) ⟨⟨Nat.le_of_ble_eq_true rfl, Nat.le_of_ble_eq_true rfl⟩, (by simp only [rX2_knock, rX4_knock, room_1]; omega), (by simp only [rX2_knock, rX4_knock, room_1]; omega)⟩ (fun v5 h6 n7 c8 => ?_) (fun _ _ _ hx => hx.elim)
  obtain ⟨c8a, c8b, c8c, c8d⟩ := c8.use (o := sp_knock S) rfl
  rw [c8a]
  have Cc8 := cAt.frG c4c Mc4.2.1 c8d
  have Oc8 := (c8d 38 ⟨by have := Mc4.2.1; omega, by omega⟩).trans Oc4
  show mT _ _ _ _ 1973 [.retAddr 0, .ref 0, .ref 27, .ref 38, .int (nI i), .double 0, .double 0] [.int (S.2.2.2.2 + nI 1)] _ _ _ _
  refine mt_pop dL_law_1973 rfl ?_
  refine mt_goto dL_law_1974 (tgt := 2003) rfl ?_
  refine mt_widen (cc' := cc + 9000) (sc' := sc + 62000) (by simp only [rX2_knock, rX4_knock]; omega) (by simp only [rX2_knock, rX4_knock]; omega) ?_
  exact kk _ _ _ _ _ _ Cc8 c8c Oc8
set_option maxRecDepth 100000 in
set_option maxHeartbeats 2000000 in
theorem tL_c44 {l : Launch} (hl : l.stackTraces = false) {L : Nat} {xs : Nat → Int32} : lawCase l L xs 1977 := by
  intro i h n S th y s cc sc hi6 hL C M O hcc hsc kk
  show mT _ _ _ _ 1977 [.retAddr 0, .ref 0, .ref 27, .ref 38, .int (nI i), .double 0, .double 0] [] _ _ _ _
  refine mt_aload_n dL_law_1977 rfl rfl ?_
  refine mt_callV (N := mX2_isSound) (Rc := rX2_isSound) (As := []) (st := []) dL_law_1978 (kX2_isSound hl C) sX2_isSound mw_135 mKX2 rfl C.1 rfl (Nat.le_of_ble_eq_true rfl) ⟨⟨Nat.le_of_ble_eq_true rfl, Nat.le_of_ble_eq_true rfl⟩, (by simp only [rX2_isSound, rX4_isSound, room_1]; omega), (by simp only [rX2_isSound, rX4_isSound, room_1]; omega)⟩ (fun v1 h2 n3 c4 => ?_) (fun _ _ _ hx => hx.elim)
  obtain ⟨c40, c4a, c4b, c4c, c4d⟩ := c4
  have c4v : v1 = some (.int (mb (q_sound S))) := c4a
  rw [c4v, c4b]
  have Mc4 := mAt.fr M (Nat.le_refl _) (fun j j1 j2 => c4d j j1)
  have Oc4 := (c4d 38 (by omega)).trans O
  show mT _ _ _ _ 1981 [.retAddr 0, .ref 0, .ref 27, .ref 38, .int (nI i), .double 0, .double 0] [.int (mb (q_sound S))] _ _ _ _
  refine mt_pop dL_law_1981 rfl ?_
  refine mt_aload_n dL_law_1982 rfl rfl ?_
  refine mt_callV (N := mX4_isSound) (Rc := rX4_isSound) (As := []) (st := []) dL_law_1983 (kX4_isSound hl Mc4) sX4_isSound mw_1352 mKX4 rfl Mc4.1 rfl (Nat.le_of_ble_eq_true rfl) ⟨⟨Nat.le_of_ble_eq_true rfl, Nat.le_of_ble_eq_true rfl⟩, (by simp only [rX2_isSound, rX4_isSound, room_1]; omega), (by simp only [rX2_isSound, rX4_isSound, room_1]; omega)⟩ (fun v5 h6 n7 c8 => ?_) (fun _ _ _ hx => hx.elim)
  obtain ⟨c8a, c8b, c8c, c8d⟩ := c8.use (o := mp_isSound S) rfl
  rw [c8a]
  have Cc8 := cAt.frG c4c Mc4.2.1 c8d
  have Oc8 := (c8d 38 ⟨by have := Mc4.2.1; omega, by omega⟩).trans Oc4
  show mT _ _ _ _ 1986 [.retAddr 0, .ref 0, .ref 27, .ref 38, .int (nI i), .double 0, .double 0] [.int (mb true)] _ _ _ _
  refine mt_pop dL_law_1986 rfl ?_
  refine mt_goto dL_law_1987 (tgt := 2003) rfl ?_
  refine mt_widen (cc' := cc + 9000) (sc' := sc + 62000) (by simp only [rX2_isSound, rX4_isSound]; omega) (by simp only [rX2_isSound, rX4_isSound]; omega) ?_
  exact kk _ _ _ _ _ _ Cc8 c8c Oc8
set_option maxRecDepth 100000 in
set_option maxHeartbeats 2000000 in
theorem tL_c45 {l : Launch} (hl : l.stackTraces = false) {L : Nat} {xs : Nat → Int32} : lawCase l L xs 1990 := by
  intro i h n S th y s cc sc hi6 hL C M O hcc hsc kk
  show mT _ _ _ _ 1990 [.retAddr 0, .ref 0, .ref 27, .ref 38, .int (nI i), .double 0, .double 0] [] _ _ _ _
  refine mt_aload_n dL_law_1990 rfl rfl ?_
  refine mt_callV (N := mX2_digest) (Rc := rX2_digest) (As := []) (st := []) dL_law_1991 (kX2_digest hl C) sX2_digest mw_220 mKX2 rfl C.1 rfl (Nat.le_of_ble_eq_true rfl) ⟨⟨Nat.le_of_ble_eq_true rfl, Nat.le_of_ble_eq_true rfl⟩, (by simp only [rX2_digest, rX4_digest, room_1]; omega), (by simp only [rX2_digest, rX4_digest, room_1]; omega)⟩ (fun v1 h2 n3 c4 => ?_) (fun _ _ _ hx => hx.elim)
  obtain ⟨c40, c4a, c4b, c4c, c4d⟩ := c4
  have c4v : v1 = some (.long (q_digest S)) := c4a
  rw [c4v, c4b]
  have Mc4 := mAt.fr M (Nat.le_refl _) (fun j j1 j2 => c4d j j1)
  have Oc4 := (c4d 38 (by omega)).trans O
  show mT _ _ _ _ 1994 [.retAddr 0, .ref 0, .ref 27, .ref 38, .int (nI i), .double 0, .double 0] [.long (q_digest S)] _ _ _ _
  refine mt_pop2 dL_law_1994 ?_
  refine mt_aload_n dL_law_1995 rfl rfl ?_
  refine mt_callV (N := mX4_digest) (Rc := rX4_digest) (As := []) (st := []) dL_law_1996 (kX4_digest hl Mc4) sX4_digest mw_1356 mKX4 rfl Mc4.1 rfl (Nat.le_of_ble_eq_true rfl) ⟨⟨Nat.le_of_ble_eq_true rfl, Nat.le_of_ble_eq_true rfl⟩, (by simp only [rX2_digest, rX4_digest, room_1]; omega), (by simp only [rX2_digest, rX4_digest, room_1]; omega)⟩ (fun v5 h6 n7 c8 => ?_) (fun _ _ _ hx => hx.elim)
  obtain ⟨c8a, c8b, c8c, c8d⟩ := c8.use (o := ((0 : Nat), Value.long (mq_digest S), S)) rfl
  rw [c8a]
  have Cc8 := cAt.frG c4c Mc4.2.1 c8d
  have Oc8 := (c8d 38 ⟨by have := Mc4.2.1; omega, by omega⟩).trans Oc4
  show mT _ _ _ _ 1999 [.retAddr 0, .ref 0, .ref 27, .ref 38, .int (nI i), .double 0, .double 0] [.long (mq_digest S)] _ _ _ _
  refine mt_pop2 dL_law_1999 ?_
  refine mt_goto dL_law_2000 (tgt := 2003) rfl ?_
  refine mt_widen (cc' := cc + 9000) (sc' := sc + 62000) (by simp only [rX2_digest, rX4_digest]; omega) (by simp only [rX2_digest, rX4_digest]; omega) ?_
  exact kk _ _ _ _ _ _ Cc8 c8c Oc8
set_option maxRecDepth 100000 in
set_option maxHeartbeats 8000000 in
theorem law_loop {l : Launch} (hl : l.stackTraces = false) {L : Nat} {xs : Nat → Int32} (hL : L ≤ 384) (H23 : lawCase l L xs 1188) : ∀ (N i : Nat) (h : mH) (n : Nat) (S : cS) (th : Int32) (y : Int64) (s : Value) (cc sc : Nat), 384 - i < N → i ≤ 384 → cAt h S → mAt h n S th → h 38 = .inr (.inr (5, [.long y, s])) → cc ≤ 100 + 1500 * i → sc ≤ 10000 + 10400 * i → mT l mLw room_1 (mKl L xs) 27 [.retAddr 0, .ref 0, .ref 27, .ref 38, .int (nI i), .double 0, .double 0] [] h n cc sc := by
  intro N
  induction N with
  | zero => intro i h n S th y s cc sc hN hi; exact absurd hN (Nat.not_lt_zero _)
  | succ N ih =>
    intro i h n S th y s cc sc hN hi C M O hcc hsc
    show mT _ _ _ _ 27 [.retAddr 0, .ref 0, .ref 27, .ref 38, .int (nI i), .double 0, .double 0] [] _ _ _ _
    refine mt_iload dL_law_27 rfl ?_
    refine mt_aload_n dL_law_29 rfl rfl ?_
    refine mx_len dL_law_30 rfl ?_
    refine mt_bipush dL_law_31 (v := nI 6) (by decide) ?_
    refine mp_isub dL_law_33 (v := (nI L) - (nI 6)) rfl ?_
    refine mt_icmp_gt dL_law_34 (tgt := 2009) rfl (fun q1 => ?_) (fun q1 => ?_)
    · refine mt_iconst dL_law_2009 (v := nI 1) rfl ?_
      exact mx_end dL_law_2010 (by omega) (by omega)
    · have hi6 : i + 6 ≤ L := law_i6 hL hi q1
      refine mt_aload_n dL_law_37 rfl rfl ?_
      refine mt_iload dL_law_38 rfl ?_
      refine mx_ld dL_law_40 rfl (j := i) (by omega) (by omega) ?_
      refine mt_bipush dL_law_41 (v := nI 63) (by decide) ?_
      refine mt_iand dL_law_43 ?_
      obtain ⟨k, hk, ek⟩ := and63 (xs i)
      rw [ek]
      have kk : ∀ (h' : mH) (n' : Nat) (S' : cS) (th' : Int32) (y' : Int64) (s' : Value), cAt h' S' → mAt h' n' S' th' → h' 38 = .inr (.inr (5, [.long y', s'])) → mT l mLw room_1 (mKl L xs) 2003 [.retAddr 0, .ref 0, .ref 27, .ref 38, .int (nI i), .double 0, .double 0] [] h' n' (cc + 9000) (sc + 62000) := by
        intro h' n' S' th' y' s' C9 M9 O9
        refine mp_iinc dL_law_2003 rfl (v := nI (i + 6)) (nI_add i 6) (ls' := [.retAddr 0, .ref 0, .ref 27, .ref 38, .int (nI (i + 6)), .double 0, .double 0]) rfl (by decide) rfl ?_
        refine mt_goto dL_law_2006 (tgt := 27) rfl ?_
        exact ih (i + 6) h' n' S' th' y' s' _ _ (by omega) (by omega) C9 M9 O9 (by omega) (by omega)
      have hcc9 : cc + 9000 ≤ 600128 := by omega
      have hsc9 : sc + 62000 ≤ 7301098 := by omega
      obtain rfl | rfl | rfl | rfl | rfl | rfl | rfl | rfl | rfl | rfl | rfl | rfl | rfl | rfl | rfl | rfl | rfl | rfl | rfl | rfl | rfl | rfl | rfl | rfl | rfl | rfl | rfl | rfl | rfl | rfl | rfl | rfl | rfl | rfl | rfl | rfl | rfl | rfl | rfl | rfl | rfl | rfl | rfl | rfl | rfl | rfl | rfl | rfl | rfl | rfl | rfl | rfl | rfl | rfl | rfl | rfl | rfl | rfl | rfl | rfl | rfl | rfl | rfl | rfl : k = 0 ∨ k = 1 ∨ k = 2 ∨ k = 3 ∨ k = 4 ∨ k = 5 ∨ k = 6 ∨ k = 7 ∨ k = 8 ∨ k = 9 ∨ k = 10 ∨ k = 11 ∨ k = 12 ∨ k = 13 ∨ k = 14 ∨ k = 15 ∨ k = 16 ∨ k = 17 ∨ k = 18 ∨ k = 19 ∨ k = 20 ∨ k = 21 ∨ k = 22 ∨ k = 23 ∨ k = 24 ∨ k = 25 ∨ k = 26 ∨ k = 27 ∨ k = 28 ∨ k = 29 ∨ k = 30 ∨ k = 31 ∨ k = 32 ∨ k = 33 ∨ k = 34 ∨ k = 35 ∨ k = 36 ∨ k = 37 ∨ k = 38 ∨ k = 39 ∨ k = 40 ∨ k = 41 ∨ k = 42 ∨ k = 43 ∨ k = 44 ∨ k = 45 ∨ k = 46 ∨ k = 47 ∨ k = 48 ∨ k = 49 ∨ k = 50 ∨ k = 51 ∨ k = 52 ∨ k = 53 ∨ k = 54 ∨ k = 55 ∨ k = 56 ∨ k = 57 ∨ k = 58 ∨ k = 59 ∨ k = 60 ∨ k = 61 ∨ k = 62 ∨ k = 63 := by omega
      · refine mt_tableIn dL_law_44 (off := 200) (by decide +kernel) (by decide +kernel) (by decide +kernel) (tgt := 244) rfl ?_
        exact (tL_c0 hl) i h n S th y s cc sc hi6 hL C M O hcc9 hsc9 kk
      · refine mt_tableIn dL_law_44 (off := 276) (by decide +kernel) (by decide +kernel) (by decide +kernel) (tgt := 320) rfl ?_
        exact (tL_c1 hl) i h n S th y s cc sc hi6 hL C M O hcc9 hsc9 kk
      · refine mt_tableIn dL_law_44 (off := 316) (by decide +kernel) (by decide +kernel) (by decide +kernel) (tgt := 360) rfl ?_
        exact (tL_c2 hl) i h n S th y s cc sc hi6 hL C M O hcc9 hsc9 kk
      · refine mt_tableIn dL_law_44 (off := 368) (by decide +kernel) (by decide +kernel) (by decide +kernel) (tgt := 412) rfl ?_
        exact (tL_c3 hl) i h n S th y s cc sc hi6 hL C M O hcc9 hsc9 kk
      · refine mt_tableIn dL_law_44 (off := 408) (by decide +kernel) (by decide +kernel) (by decide +kernel) (tgt := 452) rfl ?_
        exact (tL_c4 hl) i h n S th y s cc sc hi6 hL C M O hcc9 hsc9 kk
      · refine mt_tableIn dL_law_44 (off := 436) (by decide +kernel) (by decide +kernel) (by decide +kernel) (tgt := 480) rfl ?_
        exact (tL_c5 hl) i h n S th y s cc sc hi6 hL C M O hcc9 hsc9 kk
      · refine mt_tableIn dL_law_44 (off := 476) (by decide +kernel) (by decide +kernel) (by decide +kernel) (tgt := 520) rfl ?_
        exact (tL_c6 hl) i h n S th y s cc sc hi6 hL C M O hcc9 hsc9 kk
      · refine mt_tableIn dL_law_44 (off := 528) (by decide +kernel) (by decide +kernel) (by decide +kernel) (tgt := 572) rfl ?_
        exact (tL_c7 hl) i h n S th y s cc sc hi6 hL C M O hcc9 hsc9 kk
      · refine mt_tableIn dL_law_44 (off := 556) (by decide +kernel) (by decide +kernel) (by decide +kernel) (tgt := 600) rfl ?_
        exact (tL_c8 hl) i h n S th y s cc sc hi6 hL C M O hcc9 hsc9 kk
      · refine mt_tableIn dL_law_44 (off := 596) (by decide +kernel) (by decide +kernel) (by decide +kernel) (tgt := 640) rfl ?_
        exact (tL_c9 hl) i h n S th y s cc sc hi6 hL C M O hcc9 hsc9 kk
      · refine mt_tableIn dL_law_44 (off := 648) (by decide +kernel) (by decide +kernel) (by decide +kernel) (tgt := 692) rfl ?_
        exact (tL_c10 hl) i h n S th y s cc sc hi6 hL C M O hcc9 hsc9 kk
      · refine mt_tableIn dL_law_44 (off := 676) (by decide +kernel) (by decide +kernel) (by decide +kernel) (tgt := 720) rfl ?_
        exact (tL_c11 hl) i h n S th y s cc sc hi6 hL C M O hcc9 hsc9 kk
      · refine mt_tableIn dL_law_44 (off := 716) (by decide +kernel) (by decide +kernel) (by decide +kernel) (tgt := 760) rfl ?_
        exact (tL_c12 hl) i h n S th y s cc sc hi6 hL C M O hcc9 hsc9 kk
      · refine mt_tableIn dL_law_44 (off := 756) (by decide +kernel) (by decide +kernel) (by decide +kernel) (tgt := 800) rfl ?_
        exact (tL_c13 hl) i h n S th y s cc sc hi6 hL C M O hcc9 hsc9 kk
      · refine mt_tableIn dL_law_44 (off := 796) (by decide +kernel) (by decide +kernel) (by decide +kernel) (tgt := 840) rfl ?_
        exact (tL_c14 hl) i h n S th y s cc sc hi6 hL C M O hcc9 hsc9 kk
      · refine mt_tableIn dL_law_44 (off := 824) (by decide +kernel) (by decide +kernel) (by decide +kernel) (tgt := 868) rfl ?_
        exact (tL_c15 hl) i h n S th y s cc sc hi6 hL C M O hcc9 hsc9 kk
      · refine mt_tableIn dL_law_44 (off := 864) (by decide +kernel) (by decide +kernel) (by decide +kernel) (tgt := 908) rfl ?_
        exact (tL_c16 hl) i h n S th y s cc sc hi6 hL C M O hcc9 hsc9 kk
      · refine mt_tableIn dL_law_44 (off := 904) (by decide +kernel) (by decide +kernel) (by decide +kernel) (tgt := 948) rfl ?_
        exact (tL_c17 hl) i h n S th y s cc sc hi6 hL C M O hcc9 hsc9 kk
      · refine mt_tableIn dL_law_44 (off := 944) (by decide +kernel) (by decide +kernel) (by decide +kernel) (tgt := 988) rfl ?_
        exact (tL_c18 hl) i h n S th y s cc sc hi6 hL C M O hcc9 hsc9 kk
      · refine mt_tableIn dL_law_44 (off := 984) (by decide +kernel) (by decide +kernel) (by decide +kernel) (tgt := 1028) rfl ?_
        exact (tL_c19 hl) i h n S th y s cc sc hi6 hL C M O hcc9 hsc9 kk
      · refine mt_tableIn dL_law_44 (off := 1024) (by decide +kernel) (by decide +kernel) (by decide +kernel) (tgt := 1068) rfl ?_
        exact (tL_c20 hl) i h n S th y s cc sc hi6 hL C M O hcc9 hsc9 kk
      · refine mt_tableIn dL_law_44 (off := 1064) (by decide +kernel) (by decide +kernel) (by decide +kernel) (tgt := 1108) rfl ?_
        exact (tL_c21 hl) i h n S th y s cc sc hi6 hL C M O hcc9 hsc9 kk
      · refine mt_tableIn dL_law_44 (off := 1104) (by decide +kernel) (by decide +kernel) (by decide +kernel) (tgt := 1148) rfl ?_
        exact (tL_c22 hl) i h n S th y s cc sc hi6 hL C M O hcc9 hsc9 kk
      · refine mt_tableIn dL_law_44 (off := 1144) (by decide +kernel) (by decide +kernel) (by decide +kernel) (tgt := 1188) rfl ?_
        exact H23 i h n S th y s cc sc hi6 hL C M O hcc9 hsc9 kk
      · refine mt_tableIn dL_law_44 (off := 1196) (by decide +kernel) (by decide +kernel) (by decide +kernel) (tgt := 1240) rfl ?_
        exact (tL_c24 hl) i h n S th y s cc sc hi6 hL C M O hcc9 hsc9 kk
      · refine mt_tableIn dL_law_44 (off := 1224) (by decide +kernel) (by decide +kernel) (by decide +kernel) (tgt := 1268) rfl ?_
        exact (tL_c25 hl) i h n S th y s cc sc hi6 hL C M O hcc9 hsc9 kk
      · refine mt_tableIn dL_law_44 (off := 1252) (by decide +kernel) (by decide +kernel) (by decide +kernel) (tgt := 1296) rfl ?_
        exact (tL_c26 hl) i h n S th y s cc sc hi6 hL C M O hcc9 hsc9 kk
      · refine mt_tableIn dL_law_44 (off := 1280) (by decide +kernel) (by decide +kernel) (by decide +kernel) (tgt := 1324) rfl ?_
        exact (tL_c27 hl) i h n S th y s cc sc hi6 hL C M O hcc9 hsc9 kk
      · refine mt_tableIn dL_law_44 (off := 1320) (by decide +kernel) (by decide +kernel) (by decide +kernel) (tgt := 1364) rfl ?_
        exact (tL_c28 hl) i h n S th y s cc sc hi6 hL C M O hcc9 hsc9 kk
      · refine mt_tableIn dL_law_44 (off := 1348) (by decide +kernel) (by decide +kernel) (by decide +kernel) (tgt := 1392) rfl ?_
        exact (tL_c29 hl) i h n S th y s cc sc hi6 hL C M O hcc9 hsc9 kk
      · refine mt_tableIn dL_law_44 (off := 1376) (by decide +kernel) (by decide +kernel) (by decide +kernel) (tgt := 1420) rfl ?_
        exact (tL_c30 hl) i h n S th y s cc sc hi6 hL C M O hcc9 hsc9 kk
      · refine mt_tableIn dL_law_44 (off := 1404) (by decide +kernel) (by decide +kernel) (by decide +kernel) (tgt := 1448) rfl ?_
        exact (tL_c31 hl) i h n S th y s cc sc hi6 hL C M O hcc9 hsc9 kk
      · refine mt_tableIn dL_law_44 (off := 1432) (by decide +kernel) (by decide +kernel) (by decide +kernel) (tgt := 1476) rfl ?_
        exact (tL_c32 hl) i h n S th y s cc sc hi6 hL C M O hcc9 hsc9 kk
      · refine mt_tableIn dL_law_44 (off := 1472) (by decide +kernel) (by decide +kernel) (by decide +kernel) (tgt := 1516) rfl ?_
        exact (tL_c33 hl) i h n S th y s cc sc hi6 hL C M O hcc9 hsc9 kk
      · refine mt_tableIn dL_law_44 (off := 1512) (by decide +kernel) (by decide +kernel) (by decide +kernel) (tgt := 1556) rfl ?_
        exact (tL_c34 hl) i h n S th y s cc sc hi6 hL C M O hcc9 hsc9 kk
      · refine mt_tableIn dL_law_44 (off := 1580) (by decide +kernel) (by decide +kernel) (by decide +kernel) (tgt := 1624) rfl ?_
        exact (tL_c35 hl) i h n S th y s cc sc hi6 hL C M O hcc9 hsc9 kk
      · refine mt_tableIn dL_law_44 (off := 1636) (by decide +kernel) (by decide +kernel) (by decide +kernel) (tgt := 1680) rfl ?_
        exact (tL_c36 hl) i h n S th y s cc sc hi6 hL C M O hcc9 hsc9 kk
      · refine mt_tableIn dL_law_44 (off := 1664) (by decide +kernel) (by decide +kernel) (by decide +kernel) (tgt := 1708) rfl ?_
        exact (tL_c37 hl) i h n S th y s cc sc hi6 hL C M O hcc9 hsc9 kk
      · refine mt_tableIn dL_law_44 (off := 1692) (by decide +kernel) (by decide +kernel) (by decide +kernel) (tgt := 1736) rfl ?_
        exact (tL_c38 hl) i h n S th y s cc sc hi6 hL C M O hcc9 hsc9 kk
      · refine mt_tableIn dL_law_44 (off := 1720) (by decide +kernel) (by decide +kernel) (by decide +kernel) (tgt := 1764) rfl ?_
        exact (tL_c39 hl) i h n S th y s cc sc hi6 hL C M O hcc9 hsc9 kk
      · refine mt_tableIn dL_law_44 (off := 1760) (by decide +kernel) (by decide +kernel) (by decide +kernel) (tgt := 1804) rfl ?_
        exact (tL_c40 hl) i h n S th y s cc sc hi6 hL C M O hcc9 hsc9 kk
      · refine mt_tableIn dL_law_44 (off := 1836) (by decide +kernel) (by decide +kernel) (by decide +kernel) (tgt := 1880) rfl ?_
        exact (tL_c41 hl) i h n S th y s cc sc hi6 hL C M O hcc9 hsc9 kk
      · refine mt_tableIn dL_law_44 (off := 1892) (by decide +kernel) (by decide +kernel) (by decide +kernel) (tgt := 1936) rfl ?_
        exact (tL_c42 hl) i h n S th y s cc sc hi6 hL C M O hcc9 hsc9 kk
      · refine mt_tableIn dL_law_44 (off := 1920) (by decide +kernel) (by decide +kernel) (by decide +kernel) (tgt := 1964) rfl ?_
        exact (tL_c43 hl) i h n S th y s cc sc hi6 hL C M O hcc9 hsc9 kk
      · refine mt_tableIn dL_law_44 (off := 1933) (by decide +kernel) (by decide +kernel) (by decide +kernel) (tgt := 1977) rfl ?_
        exact (tL_c44 hl) i h n S th y s cc sc hi6 hL C M O hcc9 hsc9 kk
      · refine mt_tableIn dL_law_44 (off := 1946) (by decide +kernel) (by decide +kernel) (by decide +kernel) (tgt := 1990) rfl ?_
        exact (tL_c45 hl) i h n S th y s cc sc hi6 hL C M O hcc9 hsc9 kk
      · refine mt_tableOut dL_law_44 (by decide +kernel) (tgt := 2003) rfl ?_
        exact mt_widen (by omega) (by omega) (kk h n S th y s C M O)
      · refine mt_tableOut dL_law_44 (by decide +kernel) (tgt := 2003) rfl ?_
        exact mt_widen (by omega) (by omega) (kk h n S th y s C M O)
      · refine mt_tableOut dL_law_44 (by decide +kernel) (tgt := 2003) rfl ?_
        exact mt_widen (by omega) (by omega) (kk h n S th y s C M O)
      · refine mt_tableOut dL_law_44 (by decide +kernel) (tgt := 2003) rfl ?_
        exact mt_widen (by omega) (by omega) (kk h n S th y s C M O)
      · refine mt_tableOut dL_law_44 (by decide +kernel) (tgt := 2003) rfl ?_
        exact mt_widen (by omega) (by omega) (kk h n S th y s C M O)
      · refine mt_tableOut dL_law_44 (by decide +kernel) (tgt := 2003) rfl ?_
        exact mt_widen (by omega) (by omega) (kk h n S th y s C M O)
      · refine mt_tableOut dL_law_44 (by decide +kernel) (tgt := 2003) rfl ?_
        exact mt_widen (by omega) (by omega) (kk h n S th y s C M O)
      · refine mt_tableOut dL_law_44 (by decide +kernel) (tgt := 2003) rfl ?_
        exact mt_widen (by omega) (by omega) (kk h n S th y s C M O)
      · refine mt_tableOut dL_law_44 (by decide +kernel) (tgt := 2003) rfl ?_
        exact mt_widen (by omega) (by omega) (kk h n S th y s C M O)
      · refine mt_tableOut dL_law_44 (by decide +kernel) (tgt := 2003) rfl ?_
        exact mt_widen (by omega) (by omega) (kk h n S th y s C M O)
      · refine mt_tableOut dL_law_44 (by decide +kernel) (tgt := 2003) rfl ?_
        exact mt_widen (by omega) (by omega) (kk h n S th y s C M O)
      · refine mt_tableOut dL_law_44 (by decide +kernel) (tgt := 2003) rfl ?_
        exact mt_widen (by omega) (by omega) (kk h n S th y s C M O)
      · refine mt_tableOut dL_law_44 (by decide +kernel) (tgt := 2003) rfl ?_
        exact mt_widen (by omega) (by omega) (kk h n S th y s C M O)
      · refine mt_tableOut dL_law_44 (by decide +kernel) (tgt := 2003) rfl ?_
        exact mt_widen (by omega) (by omega) (kk h n S th y s C M O)
      · refine mt_tableOut dL_law_44 (by decide +kernel) (tgt := 2003) rfl ?_
        exact mt_widen (by omega) (by omega) (kk h n S th y s C M O)
      · refine mt_tableOut dL_law_44 (by decide +kernel) (tgt := 2003) rfl ?_
        exact mt_widen (by omega) (by omega) (kk h n S th y s C M O)
      · refine mt_tableOut dL_law_44 (by decide +kernel) (tgt := 2003) rfl ?_
        exact mt_widen (by omega) (by omega) (kk h n S th y s C M O)
      · refine mt_tableOut dL_law_44 (by decide +kernel) (tgt := 2003) rfl ?_
        exact mt_widen (by omega) (by omega) (kk h n S th y s C M O)

/-! ===== the law: its entry ===== -/
abbrev rX3_init : Room := { frames := 1, cells := 0, slots := 0, locals := 20 }
set_option maxRecDepth 100000 in
set_option maxHeartbeats 2000000 in
theorem kX3_init {l : Launch} (hl : l.stackTraces = false) {h : mH} {n k : Nat}  : mC l mX3_init rX3_init [.ref k] h n (fun v h' n' => v = none ∧ n' = n ∧ h' = h) (mNX) := by
  refine mm_enter hl (by decide +kernel) rfl rfl rfl (Nat.le_of_ble_eq_true rfl) ?_
  show mT _ _ _ _ 0 [.ref k] [] _ _ 0 0
  refine mt_aload_n dX3_init_0 rfl rfl ?_
  refine mt_objInit dX3_init_1 mw_386 mw_58 mw_59 (Nat.le_of_ble_eq_true rfl) ⟨Nat.le_of_ble_eq_true rfl, Nat.le_of_ble_eq_true rfl⟩ ?_
  refine mt_return dX3_init_4 rfl (Nat.le_of_ble_eq_true rfl) (Nat.le_of_ble_eq_true rfl) ?_
  exact ⟨rfl, rfl, rfl⟩
theorem mBeg.fr {h h' : mH} (H : mBeg h) (hf : ∀ j, 27 ≤ j → j < 38 → h' j = h j) : mBeg h' := by
  obtain ⟨c0, ⟨g1, c1, c2⟩, ⟨g2, c3, c4⟩, c5, c6⟩ := H
  exact ⟨(hf _ (by omega) (by omega)).trans c0, ⟨g1, (hf _ (by omega) (by omega)).trans c1, c2⟩, ⟨g2, (hf _ (by omega) (by omega)).trans c3, c4⟩, fun i hi => (hf _ (by omega) (by omega)).trans (c5 i hi), fun i hi => (hf _ (by omega) (by omega)).trans (c6 i hi)⟩
set_option maxRecDepth 100000 in
set_option maxHeartbeats 2000000 in
theorem law_entry {l : Launch} (hl : l.stackTraces = false) {L : Nat} {xs : Nat → Int32} (hL : L ≤ 384) (H23 : lawCase l L xs 1188) {h : mH} : mT l mLw room_1 (mKl L xs) 0 [.retAddr 0, .double 0, .double 0, .double 0, .double 0, .double 0, .double 0] [] h 0 0 0 := by
  show mT _ _ _ _ 0 [.retAddr 0, .double 0, .double 0, .double 0, .double 0, .double 0, .double 0] [] _ _ _ _
  refine mp_new mKX2 dL_law_0 mw_52 mw_53 mw_31 (fs := [.null, .null, .int (nI 0), .int (nI 0), .int (nI 0), .int (nI 0)]) mDX2 (mdf_ok rfl) (by simp only [rX2_init, rX4_init, rX3_init, room_1]; omega) (by simp only [rX2_init, rX4_init, rX3_init, room_1]; omega) (fun h1 e2 f3 => ?_)
  refine mt_dup dL_law_3 rfl ?_
  refine mt_callI (N := mX2_init) (Rc := rX2_init) (As := []) (st := [.ref 0]) dL_law_4 (kX2_init hl e2) sX2_init mw_54 rfl (Nat.le_of_ble_eq_true rfl) ⟨⟨Nat.le_of_ble_eq_true rfl, Nat.le_of_ble_eq_true rfl⟩, (by simp only [rX2_init, rX4_init, rX3_init, room_1]; omega), (by simp only [rX2_init, rX4_init, rX3_init, room_1]; omega)⟩ (fun v4 h5 n6 c7 => ?_)
  obtain ⟨c7a, c7b, c7c⟩ := c7
  rw [c7a, c7b]
  show mT _ _ _ _ 7 [.retAddr 0, .double 0, .double 0, .double 0, .double 0, .double 0, .double 0] [.ref 0] _ _ _ _
  refine mp_astore_n dL_law_7 (ls' := [.retAddr 0, .ref 0, .double 0, .double 0, .double 0, .double 0, .double 0]) rfl rfl (by decide) rfl ?_
  refine mp_new mKX4 dL_law_8 mw_1045 mw_1046 mw_34 (fs := [.null, .null, .int (nI 0), .int (nI 0), .int (nI 0), .int (nI 0), .int (nI 0)]) mDX4 (mdf_ok rfl) (by simp only [rX2_init, rX4_init, rX3_init, room_1]; omega) (by simp only [rX2_init, rX4_init, rX3_init, room_1]; omega) (fun h8 e9 f10 => ?_)
  refine mt_dup dL_law_11 rfl ?_
  refine mt_callI (N := mX4_init) (Rc := rX4_init) (As := []) (st := [.ref 27]) dL_law_12 (kX4_init hl e9) sX4_init mw_1047 rfl (Nat.le_of_ble_eq_true rfl) ⟨⟨Nat.le_of_ble_eq_true rfl, Nat.le_of_ble_eq_true rfl⟩, (by simp only [rX2_init, rX4_init, rX3_init, room_1]; omega), (by simp only [rX2_init, rX4_init, rX3_init, room_1]; omega)⟩ (fun v11 h12 n13 c14 => ?_)
  obtain ⟨c14a, c14b, c14c, c14d, c14e, c14f, c14g, c14h⟩ := c14
  rw [c14a, c14b]
  have Bc14 : mBeg h12 := ⟨c14c, c14d, c14e, c14f, c14g⟩
  have Cc14 := cAt.fr2 c7c (fun j hj => (c14h j hj).trans (f10 j (by omega)))
  show mT _ _ _ _ 15 [.retAddr 0, .ref 0, .double 0, .double 0, .double 0, .double 0, .double 0] [.ref 27] _ _ _ _
  refine mp_astore_n dL_law_15 (ls' := [.retAddr 0, .ref 0, .ref 27, .double 0, .double 0, .double 0, .double 0]) rfl rfl (by decide) rfl ?_
  refine mp_new mKX3 dL_law_16 mw_381 mw_382 mw_35 (fs := [.long 0, .null]) mDX3 (mdf_ok rfl) (by simp only [rX2_init, rX4_init, rX3_init, room_1]; omega) (by simp only [rX2_init, rX4_init, rX3_init, room_1]; omega) (fun h15 e16 f17 => ?_)
  refine mt_dup dL_law_19 rfl ?_
  refine mt_callIN (N := mX3_init) (Rc := rX3_init) (As := []) (st := [.ref 38]) dL_law_20 (kX3_init hl) sX3_init mw_383 rfl (Nat.le_of_ble_eq_true rfl) ⟨⟨Nat.le_of_ble_eq_true rfl, Nat.le_of_ble_eq_true rfl⟩, (by simp only [rX2_init, rX4_init, rX3_init, room_1]; omega), (by simp only [rX2_init, rX4_init, rX3_init, room_1]; omega)⟩ (fun v18 h19 n20 c21 => ?_)
  obtain ⟨c21a, c21b, c21c⟩ := c21
  rw [c21a, c21b, c21c]
  show mT _ _ _ _ 23 [.retAddr 0, .ref 0, .ref 27, .double 0, .double 0, .double 0, .double 0] [.ref 38] _ _ _ _
  refine mp_astore_n dL_law_23 (ls' := [.retAddr 0, .ref 0, .ref 27, .ref 38, .double 0, .double 0, .double 0]) rfl rfl (by decide) rfl ?_
  refine mt_iconst dL_law_24 (v := nI 0) rfl ?_
  refine mp_istore dL_law_25 (ls' := [.retAddr 0, .ref 0, .ref 27, .ref 38, .int (nI 0), .double 0, .double 0]) rfl (by decide) rfl ?_
  exact law_loop hl hL H23 400 0 _ _ cS0 (nI 0) 0 .null _ _ (by omega) (by omega) (cAt.fr2 Cc14 (fun j hj => f17 j (by omega))) (mBeg.fr Bc14 (fun j j1 j2 => f17 j (by omega))).at e16 (by simp only [rX2_init, rX4_init, rX3_init]; omega) (by simp only [rX2_init, rX4_init, rX3_init]; omega)

/-! ===== the law: the world at its start ===== -/
def lawDigitOnes (j : Nat) : Int32 := ([48, 49, 50, 51, 52, 53, 54, 55, 56, 57, 48, 49, 50, 51, 52, 53, 54, 55, 56, 57, 48, 49, 50, 51, 52, 53, 54, 55, 56, 57, 48, 49, 50, 51, 52, 53, 54, 55, 56, 57, 48, 49, 50, 51, 52, 53, 54, 55, 56, 57, 48, 49, 50, 51, 52, 53, 54, 55, 56, 57, 48, 49, 50, 51, 52, 53, 54, 55, 56, 57, 48, 49, 50, 51, 52, 53, 54, 55, 56, 57, 48, 49, 50, 51, 52, 53, 54, 55, 56, 57, 48, 49, 50, 51, 52, 53, 54, 55, 56, 57] : List Int32).getD j 0
theorem lawDigitOnes_at : ∀ j : Nat, j < 100 → (flatC (Jvm.Cond.and given_1 narrow_1))[14 + j]? = some (Cond.eq (.elem (.static "java/lang/Integer" "DigitOnes" "[B") (.int (Int32.ofNat j))) (.int (lawDigitOnes j))) := by decide +kernel
theorem lawDigitOnes_in {s : State} {args : Array Value} (hs : ∀ w ∈ flatC (Jvm.Cond.and given_1 narrow_1), w.before args s = true) (j : Nat) (hj : j < 100) : (Cond.eq (.elem (.static "java/lang/Integer" "DigitOnes" "[B") (.int (Int32.ofNat j))) (.int (lawDigitOnes j))).before args s = true := hs _ (List.mem_of_getElem? (lawDigitOnes_at j hj))
def lawDigitTens (j : Nat) : Int32 := ([48, 48, 48, 48, 48, 48, 48, 48, 48, 48, 49, 49, 49, 49, 49, 49, 49, 49, 49, 49, 50, 50, 50, 50, 50, 50, 50, 50, 50, 50, 51, 51, 51, 51, 51, 51, 51, 51, 51, 51, 52, 52, 52, 52, 52, 52, 52, 52, 52, 52, 53, 53, 53, 53, 53, 53, 53, 53, 53, 53, 54, 54, 54, 54, 54, 54, 54, 54, 54, 54, 55, 55, 55, 55, 55, 55, 55, 55, 55, 55, 56, 56, 56, 56, 56, 56, 56, 56, 56, 56, 57, 57, 57, 57, 57, 57, 57, 57, 57, 57] : List Int32).getD j 0
theorem lawDigitTens_at : ∀ j : Nat, j < 100 → (flatC (Jvm.Cond.and given_1 narrow_1))[117 + j]? = some (Cond.eq (.elem (.static "java/lang/Integer" "DigitTens" "[B") (.int (Int32.ofNat j))) (.int (lawDigitTens j))) := by decide +kernel
theorem lawDigitTens_in {s : State} {args : Array Value} (hs : ∀ w ∈ flatC (Jvm.Cond.and given_1 narrow_1), w.before args s = true) (j : Nat) (hj : j < 100) : (Cond.eq (.elem (.static "java/lang/Integer" "DigitTens" "[B") (.int (Int32.ofNat j))) (.int (lawDigitTens j))).before args s = true := hs _ (List.mem_of_getElem? (lawDigitTens_at j hj))
theorem law_ty {s : State} {c : ClassId} {k : Class} {comp : ClassId} {ty : FieldType} (h1 : s.vm.classes[c]? = some k) (h2 : k.kind = .array comp ty) : ArrOfT s c ty := fun _ _ => ⟨(fun q hq => by cases hq), k, h1, comp, h2⟩
theorem law_world {s : State} {args : Array Value} (hts : ∀ w ∈ lw_tbl, w.before args s = true) (hgv : (Jvm.Cond.and given_1 narrow_1).before args s = true) {b L : Nat} {xs : Nat → Int32} : ∃ G : mG, G.2.2.2.1 0 = b ∧ G.2.2.2.2.1 = L ∧ G.2.2.2.2.2 = xs ∧ mS G s ∧ mZ G (va_A [] s.heap.size) s s.heap := by
  have hg : ∀ w ∈ mGw, w.before args s = true := fun w hw => hts w (List.mem_filter.mp hw).1
  have hs := flat_of_before _ hgv
  obtain ⟨c0, i0, K0⟩ := u_known hg mKJ0.2.1 (hg _ mw_799)
  obtain ⟨c1, i1, K1⟩ := u_known hg mKJ4.2.1 (hg _ mw_641)
  obtain ⟨c2, i2, K2⟩ := u_known hg mKX0.2.1 (hg _ mw_89)
  obtain ⟨c3, i3, K3⟩ := u_known hg mKX1.2.1 (hg _ mw_62)
  obtain ⟨c4, i4, K4⟩ := u_known hg mKX2.2.1 (hg _ mw_53)
  obtain ⟨c5, i5, K5⟩ := u_known hg mKX3.2.1 (hg _ mw_382)
  obtain ⟨c6, i6, K6⟩ := u_known hg mKX4.2.1 (hg _ mw_1046)
  obtain ⟨t0, k0, e0, a1, a2, a3⟩ := Cond.arrayClass_spec (hg _ mw_87)
  obtain ⟨t1, k1, e1, b1, b2, b3⟩ := Cond.arrayClass_spec (hg _ mw_300)
  have hRo := hts (.arrayOver (.object "Runweaver$Row")) (List.mem_of_getElem? (i := 61) (by decide +kernel))
  have hAo := hts (.arrayOver (.array .int)) (List.mem_of_getElem? (i := 1052) (by decide +kernel))
  obtain ⟨e2, t2, k2, d1, -, d2, d3, d4⟩ := Cond.arrayOver_spec hRo
  obtain ⟨e3, t3, k3, f1, f2, f3, f4⟩ := Cond.arrayOver_specA hAo
  have e30 : e3 = t0 := Option.some.inj (f1.symm.trans a1)
  subst e30
  have s0 := hts (.stringRef "Runweaver" 287 "no such row") (List.mem_of_getElem? (i := 274) (by decide +kernel))
  obtain ⟨-, -, -, x0, -, -, -, -, -, v0⟩ := Cond.stringRef_spec K4.2.1 s0
  have s1 := hts (.stringRef "Runweaver" 290 "an argument is out of its range") (List.mem_of_getElem? (i := 321) (by decide +kernel))
  obtain ⟨-, -, -, x1, -, -, -, -, -, v1⟩ := Cond.stringRef_spec K4.2.1 s1
  have s2 := hts (.stringRef "Runweaver" 237 "no such number of the house") (List.mem_of_getElem? (i := 379) (by decide +kernel))
  obtain ⟨-, -, -, x2, -, -, -, -, -, v2⟩ := Cond.stringRef_spec K4.2.1 s2
  have s3 := hts (.stringRef "Runweaver" 294 "no such place") (List.mem_of_getElem? (i := 463) (by decide +kernel))
  obtain ⟨-, -, -, x3, -, -, -, -, -, v3⟩ := Cond.stringRef_spec K4.2.1 s3
  have s4 := hts (.stringRef "RunweaverModel" 117 "") (List.mem_of_getElem? (i := 1255) (by decide +kernel))
  obtain ⟨-, -, -, x4, -, -, -, -, -, v4⟩ := Cond.stringRef_spec K6.2.1 s4
  have s5 := hts (.stringRef "RunweaverModel" 122 " ") (List.mem_of_getElem? (i := 1258) (by decide +kernel))
  obtain ⟨-, -, -, x5, -, -, -, -, -, v5⟩ := Cond.stringRef_spec K6.2.1 s5
  obtain ⟨y3, z3, w3⟩ := va_Tof (A := va_A [] s.heap.size) (N := 100) (tm := (.static "java/lang/Integer" "DigitOnes" "[B")) (ty := .byte) (f := fun j => .int (lawDigitOnes j)) (by decide) (hs (.arrayOf (.static "java/lang/Integer" "DigitOnes" "[B") .byte) (by decide +kernel)) (va_eqt (hs (.eq (.length (.static "java/lang/Integer" "DigitOnes" "[B")) (.int 100)) (by decide +kernel))) (fun j hj => va_eqt (lawDigitOnes_in hs j hj)) (fun a ha => va_A0 rfl ha)
  obtain ⟨y4, z4, w4⟩ := va_Tof (A := va_A [] s.heap.size) (N := 100) (tm := (.static "java/lang/Integer" "DigitTens" "[B")) (ty := .byte) (f := fun j => .int (lawDigitTens j)) (by decide) (hs (.arrayOf (.static "java/lang/Integer" "DigitTens" "[B") .byte) (by decide +kernel)) (va_eqt (hs (.eq (.length (.static "java/lang/Integer" "DigitTens" "[B")) (.int 100)) (by decide +kernel))) (fun j hj => va_eqt (lawDigitTens_in hs j hj)) (fun a ha => va_A0 rfl ha)
  obtain ⟨aK, aV, hK9, hE9⟩ := vk_Sof (s := s) (args := args) (N := 1) (A := va_A [] s.heap.size) (tm := fun _ => .string "RunweaverModel" 122) (len := [1]) (byt := [[32]]) (fun i hi => by obtain rfl : i = 0 := (by omega); decide) (fun i hi => hs _ (by decide +kernel)) (fun i hi => hs _ (by decide +kernel)) (fun i hi => hs _ (by decide +kernel)) (fun i hi => by obtain rfl : i = 0 := (by omega); exact hs _ (by decide +kernel)) (fun i hi j hj => by obtain rfl : i = 0 := (by omega); obtain rfl : j = 0 := (by have : j < 1 := hj; omega); exact hs _ (by decide +kernel)) (fun i j hi hj hne => absurd (by omega : i = j) hne) (fun a ha => va_A0 rfl ha)
  obtain ⟨u1, u2, u3, u4⟩ := hK9.1 0 (by decide)
  have e50 : x5 = aK 0 := by have := v5.symm.trans (hE9 0 (by decide)); cases this; rfl
  rw [← e50] at u1 u2 u3
  obtain ⟨y2, ey2⟩ : ∃ y2, y2 = aV 0 := ⟨_, rfl⟩
  rw [← ey2] at u3 u4
  refine ⟨((fun k => match k with | 0 => c0 | 1 => c1 | 2 => c2 | 3 => c3 | 4 => c4 | 5 => c5 | _ => c6, fun k => match k with | 0 => i0 | 1 => i1 | 2 => i2 | 3 => i3 | 4 => i4 | 5 => i5 | _ => i6), (fun k => match k with | 0 => e3 | 1 => t1 | 2 => t2 | _ => t3), (fun k => match k with | 0 => x0 | 1 => x1 | 2 => x2 | 3 => x3 | 4 => x4 | _ => x5), (fun k => match k with | 0 => b | 1 => x5 | 2 => y2 | 3 => y3 | _ => y4), L, xs), rfl, rfl, rfl, ⟨⟨?_, ?_⟩, ⟨k3, f2, f3⟩, ⟨k0, a2, e0, a3⟩, va_AO.of hRo, ⟨vk_R.of s0 v0, vk_R.of s1 v1, vk_R.of s2 v2, vk_R.of s3 v3, vk_R.of s4 v4, vk_R.of s5 v5⟩, fun w hw => ?_, ?_, hAo⟩, ?_, ?_, ?_⟩
  · intro c q hq
    match c, hq with
    | 0, hq => cases hq; exact K0
    | 1, hq => cases hq; exact K1
    | 2, hq => cases hq; exact K2
    | 3, hq => cases hq; exact K3
    | 4, hq => cases hq; exact K4
    | 5, hq => cases hq; exact K5
    | 6, hq => cases hq; exact K6
    | c + 7, hq => simp [vwCl] at hq
  · intro k q hq
    match k, hq with
    | 0, hq => cases hq; exact ⟨law_ty a2 a3, a1⟩
    | 1, hq => cases hq; exact ⟨law_ty b2 b3, b1⟩
    | 2, hq => cases hq; exact ⟨law_ty d2 d3, k2, e2, d2, d3, d1, d4⟩
    | 3, hq => cases hq; exact ⟨law_ty f2 f3, f4⟩
    | k + 4, hq => simp [mTy] at hq
  · exact va_Nw.of (mNw_on hw) (hts w (List.mem_filter.mp hw).1)
  · exact va_Nc.of (hs (.not (.castable "java/lang/IllegalArgumentException" "java/lang/IndexOutOfBoundsException")) (by decide +kernel))
  · exact vx_Zqof (hts (.laysStatic "java/lang/Throwable" "UNASSIGNED_STACK" "[Ljava/lang/StackTraceElement;") (List.mem_of_getElem? (i := 261) (by decide +kernel))) (hts (.initialized "java/lang/Throwable") (by decide +kernel)) (hs (.isRef (.static "java/lang/Throwable" "UNASSIGNED_STACK" "[Ljava/lang/StackTraceElement;")) (by decide +kernel)) (fun a ha => va_A0 rfl ha)
  · exact vx_Zqof (hts (.laysStatic "java/lang/Throwable" "SUPPRESSED_SENTINEL" "Ljava/util/List;") (List.mem_of_getElem? (i := 263) (by decide +kernel))) (hts (.initialized "java/lang/Throwable") (by decide +kernel)) (hs (.isRef (.static "java/lang/Throwable" "SUPPRESSED_SENTINEL" "Ljava/util/List;")) (by decide +kernel)) (fun a ha => va_A0 rfl ha)
  · exact ⟨va_Zof (hts (.laysStatic "java/lang/String" "COMPACT_STRINGS" "Z") (List.mem_of_getElem? (i := 650) (by decide +kernel))) (hts (.initialized "java/lang/String") (by decide +kernel)) (va_eqt (z := 1) (hs _ (by decide +kernel))) (fun a ha => va_A0 rfl ha), va_Zref (hts (.laysStatic "java/lang/Integer" "DigitOnes" "[B") (List.mem_of_getElem? (i := 774) (by decide +kernel))) (hts (.initialized "java/lang/Integer") (by decide +kernel)) z3 (fun a ha => va_A0 rfl ha), va_Zref (hts (.laysStatic "java/lang/Integer" "DigitTens" "[B") (List.mem_of_getElem? (i := 776) (by decide +kernel))) (hts (.initialized "java/lang/Integer") (by decide +kernel)) z4 (fun a ha => va_A0 rfl ha), ⟨_, w3⟩, ⟨_, w4⟩, u1, u2, u3, _, u4, rfl⟩
/-- what holds at the law's entry -/
def lw_At (p : Program) (s : State) (m : MethodId) (meth : Method) (c : Code) (b L : Nat) (xs : Nat → Int32) : Prop :=
  p.tables.exec = Jvm.exec ∧ c.code = code ∧ meth.sig.returnType = ret ∧ c.maxLocals = 7 ∧ s.vm.findClass R_law = some m.cls ∧ (∀ w ∈ lw_tbl, w.before #[Value.ref b] s = true) ∧ va_X b L xs s s.heap ∧ b < s.heap.size ∧ meth.locks = false ∧ (Jvm.Cond.and given_1 narrow_1).before #[Value.ref b] s = true
theorem law_start {p : Program} {e : Env} {s : State} {m : MethodId} {below : List Frame} {meth : Method} {c : Code} {l : Launch} (hl : l.stackTraces = false) {b L : Nat} {xs : Nat → Int32} (hL : L ≤ 384) (H23 : lawCase l L xs 1188) (C0 : lw_At p s m meth c b L xs) (hname : meth.name = "law") (htab : c.exceptionTable.toList = []) : W p l e room_1 s m #[Value.ref b] below meth c s.heap [] 0 0 (lw_Z below #[Value.ref b] s) (entryFrame m ([Value.ref b] : List Value).toArray 7) := by
  obtain ⟨hx, hb, hr, hml, hown, hts, hX, hbl, hlocks, hgv⟩ := C0
  obtain ⟨G, hG1, hG2, hG3, hS, hZ⟩ := law_world (b := b) (L := L) (xs := xs) hts hgv
  subst hG1
  subst hG2
  subst hG3
  rw [lg_entry_eq]
  have k := law_entry hl hL H23 (h := fun _ => .inl (0, 0, fun _ => 0)) p e s m #[.ref (G.2.2.2.1 0)] below meth c G [] s.heap [] _ [] [] ⟨hx, hl, hb, hr, hml, hown, fun w hw => hts w (List.mem_filter.mp hw).1, hlocks, hname, htab, hS, hZ, fun _ => ⟨hX, hbl, rfl⟩⟩
    ⟨⟨rfl, fun k q h => by simp at h⟩, fun k q h => by simp at h, ⟨fun i j p q h => by simp at h, fun k q h => by simp at h⟩, va_S.rf, mExt.rf, mL.entry (av := [.retAddr 0]) (vs := [.ref (G.2.2.2.1 0)]) ⟨_, _, rfl, rfl, rfl⟩ rfl (by decide), rfl⟩
  intro T hT X
  obtain ⟨t, a1, a2⟩ := k T hT X
  exact ⟨t, a1, a2 ⟨rfl, rfl, rfl⟩⟩
