/-! ===== the law: its last cases, its loop ===== -/
theorem and63 (x : Int32) : ∃ k, k < 64 ∧ x &&& nI 63 = nI k := by
  refine ⟨x.toBitVec.toNat % 64, Nat.mod_lt _ (by decide), ?_⟩
  apply Int32.toBitVec_inj.mp
  apply BitVec.eq_of_toNat_eq
  have e1 : (x &&& nI 63).toBitVec = x.toBitVec &&& (nI 63).toBitVec := rfl
  rw [e1, BitVec.toNat_and]
  have e2 : (nI 63).toBitVec.toNat = 63 := by decide
  have e3 : (nI (x.toBitVec.toNat % 64)).toBitVec.toNat = (x.toBitVec.toNat % 64) % 2 ^ 32 := BitVec.toNat_ofNat ..
  rw [e2, e3, Nat.mod_eq_of_lt (by omega)]
  exact Nat.and_two_pow_sub_one_eq_mod _ 6
theorem law_i6 {L i : Nat} (hL : L ≤ 384) (hi : i ≤ 384) (q : ¬ nI L - nI 6 < nI i) : i + 6 ≤ L := by
  have e1 := pk_sub_toInt (a := L) (b := 6) (by omega) (by omega)
  have e2 := nI_toInt (show i < 2 ^ 31 by omega)
  rw [Int32.lt_iff_toInt_lt, e1, e2] at q
  omega
theorem cAt.frG {h h' : mH} {S : cS} (C : cAt h S) {n : Nat} (h39 : 39 ≤ n) (hf : ∀ j, (j < n ∧ j ≠ 27) → h' j = h j) : cAt h' S := cAt.fr2 C (fun j hj => hf j ⟨by omega, by omega⟩)
set_option maxRecDepth 100000 in
set_option maxHeartbeats 2000000 in
theorem tL_c43 {l : Launch} (hl : l.stackTraces = false) {L : Nat} {xs : Nat → Int32} : lawCase l L xs 1957 := by
  intro i h n S th y s cc sc hi6 hL C M O hcc hsc kk
  show mT _ _ _ _ 1957 [.retAddr 0, .ref 0, .ref 27, .ref 38, .int (nI i), .double 0, .double 0] [] _ _ _ _
  refine mt_aload_n dL_law_1957 rfl rfl ?_
  refine mt_callV (N := mX2_knock) (Rc := rX2_knock) (As := []) (st := []) dL_law_1958 (kX2_knock hl C) sX2_knock mw_131 mKX2 rfl C.1 rfl (Nat.le_of_ble_eq_true rfl) ⟨⟨Nat.le_of_ble_eq_true rfl, Nat.le_of_ble_eq_true rfl⟩, (by simp only [rX2_knock, rX4_knock, room_1]; omega), (by simp only [rX2_knock, rX4_knock, room_1]; omega)⟩ (fun v1 h2 n3 c4 => ?_) (fun E h9 n9 hx => by obtain ⟨hE, -, -⟩ := hx; rcases hE with ⟨-, z⟩ | ⟨-, z⟩ <;> cases z)
  obtain ⟨c40, c4a, c4b, c4c, c4d⟩ := c4
  have c4v : v1 = some (.int (S.2.2.2.2 + nI 1)) := c4a
  rw [c4v, c4b]
  have Mc4 := mAt.fr M (Nat.le_refl _) (fun j j1 j2 => c4d j j1)
  have Oc4 := (c4d 38 (by omega)).trans O
  show mT _ _ _ _ 1961 [.retAddr 0, .ref 0, .ref 27, .ref 38, .int (nI i), .double 0, .double 0] [.int (S.2.2.2.2 + nI 1)] _ _ _ _
  refine mt_pop dL_law_1961 rfl ?_
  refine mt_aload_n dL_law_1962 rfl rfl ?_
  refine mt_callV (N := mX4_knock) (Rc := rX4_knock) (As := []) (st := []) dL_law_1963 (kX4_knock hl Mc4) sX4_knock mw_1348 mKX4 rfl Mc4.1 rfl (Nat.le_of_ble_eq_true rfl) ⟨⟨Nat.le_of_ble_eq_true rfl, Nat.le_of_ble_eq_true rfl⟩, (by simp only [rX2_knock, rX4_knock, room_1]; omega), (by simp only [rX2_knock, rX4_knock, room_1]; omega)⟩ (fun v5 h6 n7 c8 => ?_) (fun _ _ _ hx => hx.elim)
  obtain ⟨c8a, c8b, c8c, c8d⟩ := c8.use (o := sp_knock S) rfl
  rw [c8a]
  have Cc8 := cAt.frG c4c Mc4.2.1 c8d
  have Oc8 := (c8d 38 ⟨by have := Mc4.2.1; omega, by omega⟩).trans Oc4
  show mT _ _ _ _ 1966 [.retAddr 0, .ref 0, .ref 27, .ref 38, .int (nI i), .double 0, .double 0] [.int (S.2.2.2.2 + nI 1)] _ _ _ _
  refine mt_pop dL_law_1966 rfl ?_
  refine mt_goto dL_law_1967 (tgt := 1996) rfl ?_
  refine mt_widen (cc' := cc + 9000) (sc' := sc + 62000) (by simp only [rX2_knock, rX4_knock]; omega) (by simp only [rX2_knock, rX4_knock]; omega) ?_
  exact kk _ _ _ _ _ _ Cc8 c8c Oc8
set_option maxRecDepth 100000 in
set_option maxHeartbeats 2000000 in
theorem tL_c44 {l : Launch} (hl : l.stackTraces = false) {L : Nat} {xs : Nat → Int32} : lawCase l L xs 1970 := by
  intro i h n S th y s cc sc hi6 hL C M O hcc hsc kk
  show mT _ _ _ _ 1970 [.retAddr 0, .ref 0, .ref 27, .ref 38, .int (nI i), .double 0, .double 0] [] _ _ _ _
  refine mt_aload_n dL_law_1970 rfl rfl ?_
  refine mt_callV (N := mX2_isSound) (Rc := rX2_isSound) (As := []) (st := []) dL_law_1971 (kX2_isSound hl C) sX2_isSound mw_135 mKX2 rfl C.1 rfl (Nat.le_of_ble_eq_true rfl) ⟨⟨Nat.le_of_ble_eq_true rfl, Nat.le_of_ble_eq_true rfl⟩, (by simp only [rX2_isSound, rX4_isSound, room_1]; omega), (by simp only [rX2_isSound, rX4_isSound, room_1]; omega)⟩ (fun v1 h2 n3 c4 => ?_) (fun _ _ _ hx => hx.elim)
  obtain ⟨c40, c4a, c4b, c4c, c4d⟩ := c4
  have c4v : v1 = some (.int (mb (q_sound S))) := c4a
  rw [c4v, c4b]
  have Mc4 := mAt.fr M (Nat.le_refl _) (fun j j1 j2 => c4d j j1)
  have Oc4 := (c4d 38 (by omega)).trans O
  show mT _ _ _ _ 1974 [.retAddr 0, .ref 0, .ref 27, .ref 38, .int (nI i), .double 0, .double 0] [.int (mb (q_sound S))] _ _ _ _
  refine mt_pop dL_law_1974 rfl ?_
  refine mt_aload_n dL_law_1975 rfl rfl ?_
  refine mt_callV (N := mX4_isSound) (Rc := rX4_isSound) (As := []) (st := []) dL_law_1976 (kX4_isSound hl Mc4) sX4_isSound mw_1352 mKX4 rfl Mc4.1 rfl (Nat.le_of_ble_eq_true rfl) ⟨⟨Nat.le_of_ble_eq_true rfl, Nat.le_of_ble_eq_true rfl⟩, (by simp only [rX2_isSound, rX4_isSound, room_1]; omega), (by simp only [rX2_isSound, rX4_isSound, room_1]; omega)⟩ (fun v5 h6 n7 c8 => ?_) (fun _ _ _ hx => hx.elim)
  obtain ⟨c8a, c8b, c8c, c8d⟩ := c8.use (o := mp_isSound S) rfl
  rw [c8a]
  have Cc8 := cAt.frG c4c Mc4.2.1 c8d
  have Oc8 := (c8d 38 ⟨by have := Mc4.2.1; omega, by omega⟩).trans Oc4
  show mT _ _ _ _ 1979 [.retAddr 0, .ref 0, .ref 27, .ref 38, .int (nI i), .double 0, .double 0] [.int (mb true)] _ _ _ _
  refine mt_pop dL_law_1979 rfl ?_
  refine mt_goto dL_law_1980 (tgt := 1996) rfl ?_
  refine mt_widen (cc' := cc + 9000) (sc' := sc + 62000) (by simp only [rX2_isSound, rX4_isSound]; omega) (by simp only [rX2_isSound, rX4_isSound]; omega) ?_
  exact kk _ _ _ _ _ _ Cc8 c8c Oc8
set_option maxRecDepth 100000 in
set_option maxHeartbeats 2000000 in
theorem tL_c45 {l : Launch} (hl : l.stackTraces = false) {L : Nat} {xs : Nat → Int32} : lawCase l L xs 1983 := by
  intro i h n S th y s cc sc hi6 hL C M O hcc hsc kk
  show mT _ _ _ _ 1983 [.retAddr 0, .ref 0, .ref 27, .ref 38, .int (nI i), .double 0, .double 0] [] _ _ _ _
  refine mt_aload_n dL_law_1983 rfl rfl ?_
  refine mt_callV (N := mX2_digest) (Rc := rX2_digest) (As := []) (st := []) dL_law_1984 (kX2_digest hl C) sX2_digest mw_220 mKX2 rfl C.1 rfl (Nat.le_of_ble_eq_true rfl) ⟨⟨Nat.le_of_ble_eq_true rfl, Nat.le_of_ble_eq_true rfl⟩, (by simp only [rX2_digest, rX4_digest, room_1]; omega), (by simp only [rX2_digest, rX4_digest, room_1]; omega)⟩ (fun v1 h2 n3 c4 => ?_) (fun _ _ _ hx => hx.elim)
  obtain ⟨c40, c4a, c4b, c4c, c4d⟩ := c4
  have c4v : v1 = some (.long (q_digest S)) := c4a
  rw [c4v, c4b]
  have Mc4 := mAt.fr M (Nat.le_refl _) (fun j j1 j2 => c4d j j1)
  have Oc4 := (c4d 38 (by omega)).trans O
  show mT _ _ _ _ 1987 [.retAddr 0, .ref 0, .ref 27, .ref 38, .int (nI i), .double 0, .double 0] [.long (q_digest S)] _ _ _ _
  refine mt_pop2 dL_law_1987 ?_
  refine mt_aload_n dL_law_1988 rfl rfl ?_
  refine mt_callV (N := mX4_digest) (Rc := rX4_digest) (As := []) (st := []) dL_law_1989 (kX4_digest hl Mc4) sX4_digest mw_1356 mKX4 rfl Mc4.1 rfl (Nat.le_of_ble_eq_true rfl) ⟨⟨Nat.le_of_ble_eq_true rfl, Nat.le_of_ble_eq_true rfl⟩, (by simp only [rX2_digest, rX4_digest, room_1]; omega), (by simp only [rX2_digest, rX4_digest, room_1]; omega)⟩ (fun v5 h6 n7 c8 => ?_) (fun _ _ _ hx => hx.elim)
  obtain ⟨c8a, c8b, c8c, c8d⟩ := c8.use (o := ((0 : Nat), Value.long (mq_digest S), S)) rfl
  rw [c8a]
  have Cc8 := cAt.frG c4c Mc4.2.1 c8d
  have Oc8 := (c8d 38 ⟨by have := Mc4.2.1; omega, by omega⟩).trans Oc4
  show mT _ _ _ _ 1992 [.retAddr 0, .ref 0, .ref 27, .ref 38, .int (nI i), .double 0, .double 0] [.long (mq_digest S)] _ _ _ _
  refine mt_pop2 dL_law_1992 ?_
  refine mt_goto dL_law_1993 (tgt := 1996) rfl ?_
  refine mt_widen (cc' := cc + 9000) (sc' := sc + 62000) (by simp only [rX2_digest, rX4_digest]; omega) (by simp only [rX2_digest, rX4_digest]; omega) ?_
  exact kk _ _ _ _ _ _ Cc8 c8c Oc8
set_option maxRecDepth 100000 in
set_option maxHeartbeats 8000000 in
theorem law_loop {l : Launch} (hl : l.stackTraces = false) {L : Nat} {xs : Nat → Int32} (hL : L ≤ 384) (H23 : lawCase l L xs 1217) : ∀ (N i : Nat) (h : mH) (n : Nat) (S : cS) (th : Int32) (y : Int64) (s : Value) (cc sc : Nat), 384 - i < N → i ≤ 384 → cAt h S → mAt h n S th → h 38 = .inr (.inr (5, [.long y, s])) → cc ≤ 100 + 1500 * i → sc ≤ 10000 + 10400 * i → mT l mLw room_1 (mKl L xs) 27 [.retAddr 0, .ref 0, .ref 27, .ref 38, .int (nI i), .double 0, .double 0] [] h n cc sc := by
  intro N
  induction N with
  | zero => intro i h n S th y s cc sc hN hi; exact absurd hN (Nat.not_lt_zero _)
  | succ N ih =>
    intro i h n S th y s cc sc hN hi C M O hcc hsc
    show mT _ _ _ _ 27 [.retAddr 0, .ref 0, .ref 27, .ref 38, .int (nI i), .double 0, .double 0] [] _ _ _ _
    refine mt_iload dL_law_27 rfl ?_
    refine mt_aload_n dL_law_29 rfl rfl ?_
    refine mx_len dL_law_30 rfl ?_
    refine mt_bipush dL_law_31 (v := nI 6) (by decide) ?_
    refine mp_isub dL_law_33 (v := (nI L) - (nI 6)) rfl ?_
    refine mt_icmp_gt dL_law_34 (tgt := 2002) rfl (fun q1 => ?_) (fun q1 => ?_)
    · refine mt_iconst dL_law_2002 (v := nI 1) rfl ?_
      exact mx_end dL_law_2003 (by omega) (by omega)
    · have hi6 : i + 6 ≤ L := law_i6 hL hi q1
      refine mt_aload_n dL_law_37 rfl rfl ?_
      refine mt_iload dL_law_38 rfl ?_
      refine mx_ld dL_law_40 rfl (j := i) (by omega) (by omega) ?_
      refine mt_bipush dL_law_41 (v := nI 63) (by decide) ?_
      refine mt_iand dL_law_43 ?_
      obtain ⟨k, hk, ek⟩ := and63 (xs i)
      rw [ek]
      have kk : ∀ (h' : mH) (n' : Nat) (S' : cS) (th' : Int32) (y' : Int64) (s' : Value), cAt h' S' → mAt h' n' S' th' → h' 38 = .inr (.inr (5, [.long y', s'])) → mT l mLw room_1 (mKl L xs) 1996 [.retAddr 0, .ref 0, .ref 27, .ref 38, .int (nI i), .double 0, .double 0] [] h' n' (cc + 9000) (sc + 62000) := by
        intro h' n' S' th' y' s' C9 M9 O9
        refine mp_iinc dL_law_1996 rfl (v := nI (i + 6)) (nI_add i 6) (ls' := [.retAddr 0, .ref 0, .ref 27, .ref 38, .int (nI (i + 6)), .double 0, .double 0]) rfl (by decide) rfl ?_
        refine mt_goto dL_law_1999 (tgt := 27) rfl ?_
        exact ih (i + 6) h' n' S' th' y' s' _ _ (by omega) (by omega) C9 M9 O9 (by omega) (by omega)
      have hcc9 : cc + 9000 ≤ 879045 := by omega
      have hsc9 : sc + 62000 ≤ 6464345 := by omega
      obtain rfl | rfl | rfl | rfl | rfl | rfl | rfl | rfl | rfl | rfl | rfl | rfl | rfl | rfl | rfl | rfl | rfl | rfl | rfl | rfl | rfl | rfl | rfl | rfl | rfl | rfl | rfl | rfl | rfl | rfl | rfl | rfl | rfl | rfl | rfl | rfl | rfl | rfl | rfl | rfl | rfl | rfl | rfl | rfl | rfl | rfl | rfl | rfl | rfl | rfl | rfl | rfl | rfl | rfl | rfl | rfl | rfl | rfl | rfl | rfl | rfl | rfl | rfl | rfl : k = 0 ∨ k = 1 ∨ k = 2 ∨ k = 3 ∨ k = 4 ∨ k = 5 ∨ k = 6 ∨ k = 7 ∨ k = 8 ∨ k = 9 ∨ k = 10 ∨ k = 11 ∨ k = 12 ∨ k = 13 ∨ k = 14 ∨ k = 15 ∨ k = 16 ∨ k = 17 ∨ k = 18 ∨ k = 19 ∨ k = 20 ∨ k = 21 ∨ k = 22 ∨ k = 23 ∨ k = 24 ∨ k = 25 ∨ k = 26 ∨ k = 27 ∨ k = 28 ∨ k = 29 ∨ k = 30 ∨ k = 31 ∨ k = 32 ∨ k = 33 ∨ k = 34 ∨ k = 35 ∨ k = 36 ∨ k = 37 ∨ k = 38 ∨ k = 39 ∨ k = 40 ∨ k = 41 ∨ k = 42 ∨ k = 43 ∨ k = 44 ∨ k = 45 ∨ k = 46 ∨ k = 47 ∨ k = 48 ∨ k = 49 ∨ k = 50 ∨ k = 51 ∨ k = 52 ∨ k = 53 ∨ k = 54 ∨ k = 55 ∨ k = 56 ∨ k = 57 ∨ k = 58 ∨ k = 59 ∨ k = 60 ∨ k = 61 ∨ k = 62 ∨ k = 63 := by omega
      · refine mt_tableIn dL_law_44 (off := 200) (by decide +kernel) (by decide +kernel) (by decide +kernel) (tgt := 244) rfl ?_
        exact (tL_c0 hl) i h n S th y s cc sc hi6 hL C M O hcc9 hsc9 kk
      · refine mt_tableIn dL_law_44 (off := 276) (by decide +kernel) (by decide +kernel) (by decide +kernel) (tgt := 320) rfl ?_
        exact (tL_c1 hl) i h n S th y s cc sc hi6 hL C M O hcc9 hsc9 kk
      · refine mt_tableIn dL_law_44 (off := 316) (by decide +kernel) (by decide +kernel) (by decide +kernel) (tgt := 360) rfl ?_
        exact (tL_c2 hl) i h n S th y s cc sc hi6 hL C M O hcc9 hsc9 kk
      · refine mt_tableIn dL_law_44 (off := 397) (by decide +kernel) (by decide +kernel) (by decide +kernel) (tgt := 441) rfl ?_
        exact (tL_c3 hl) i h n S th y s cc sc hi6 hL C M O hcc9 hsc9 kk
      · refine mt_tableIn dL_law_44 (off := 437) (by decide +kernel) (by decide +kernel) (by decide +kernel) (tgt := 481) rfl ?_
        exact (tL_c4 hl) i h n S th y s cc sc hi6 hL C M O hcc9 hsc9 kk
      · refine mt_tableIn dL_law_44 (off := 465) (by decide +kernel) (by decide +kernel) (by decide +kernel) (tgt := 509) rfl ?_
        exact (tL_c5 hl) i h n S th y s cc sc hi6 hL C M O hcc9 hsc9 kk
      · refine mt_tableIn dL_law_44 (off := 505) (by decide +kernel) (by decide +kernel) (by decide +kernel) (tgt := 549) rfl ?_
        exact (tL_c6 hl) i h n S th y s cc sc hi6 hL C M O hcc9 hsc9 kk
      · refine mt_tableIn dL_law_44 (off := 557) (by decide +kernel) (by decide +kernel) (by decide +kernel) (tgt := 601) rfl ?_
        exact (tL_c7 hl) i h n S th y s cc sc hi6 hL C M O hcc9 hsc9 kk
      · refine mt_tableIn dL_law_44 (off := 585) (by decide +kernel) (by decide +kernel) (by decide +kernel) (tgt := 629) rfl ?_
        exact (tL_c8 hl) i h n S th y s cc sc hi6 hL C M O hcc9 hsc9 kk
      · refine mt_tableIn dL_law_44 (off := 625) (by decide +kernel) (by decide +kernel) (by decide +kernel) (tgt := 669) rfl ?_
        exact (tL_c9 hl) i h n S th y s cc sc hi6 hL C M O hcc9 hsc9 kk
      · refine mt_tableIn dL_law_44 (off := 677) (by decide +kernel) (by decide +kernel) (by decide +kernel) (tgt := 721) rfl ?_
        exact (tL_c10 hl) i h n S th y s cc sc hi6 hL C M O hcc9 hsc9 kk
      · refine mt_tableIn dL_law_44 (off := 705) (by decide +kernel) (by decide +kernel) (by decide +kernel) (tgt := 749) rfl ?_
        exact (tL_c11 hl) i h n S th y s cc sc hi6 hL C M O hcc9 hsc9 kk
      · refine mt_tableIn dL_law_44 (off := 745) (by decide +kernel) (by decide +kernel) (by decide +kernel) (tgt := 789) rfl ?_
        exact (tL_c12 hl) i h n S th y s cc sc hi6 hL C M O hcc9 hsc9 kk
      · refine mt_tableIn dL_law_44 (off := 785) (by decide +kernel) (by decide +kernel) (by decide +kernel) (tgt := 829) rfl ?_
        exact (tL_c13 hl) i h n S th y s cc sc hi6 hL C M O hcc9 hsc9 kk
      · refine mt_tableIn dL_law_44 (off := 825) (by decide +kernel) (by decide +kernel) (by decide +kernel) (tgt := 869) rfl ?_
        exact (tL_c14 hl) i h n S th y s cc sc hi6 hL C M O hcc9 hsc9 kk
      · refine mt_tableIn dL_law_44 (off := 853) (by decide +kernel) (by decide +kernel) (by decide +kernel) (tgt := 897) rfl ?_
        exact (tL_c15 hl) i h n S th y s cc sc hi6 hL C M O hcc9 hsc9 kk
      · refine mt_tableIn dL_law_44 (off := 893) (by decide +kernel) (by decide +kernel) (by decide +kernel) (tgt := 937) rfl ?_
        exact (tL_c16 hl) i h n S th y s cc sc hi6 hL C M O hcc9 hsc9 kk
      · refine mt_tableIn dL_law_44 (off := 933) (by decide +kernel) (by decide +kernel) (by decide +kernel) (tgt := 977) rfl ?_
        exact (tL_c17 hl) i h n S th y s cc sc hi6 hL C M O hcc9 hsc9 kk
      · refine mt_tableIn dL_law_44 (off := 973) (by decide +kernel) (by decide +kernel) (by decide +kernel) (tgt := 1017) rfl ?_
        exact (tL_c18 hl) i h n S th y s cc sc hi6 hL C M O hcc9 hsc9 kk
      · refine mt_tableIn dL_law_44 (off := 1013) (by decide +kernel) (by decide +kernel) (by decide +kernel) (tgt := 1057) rfl ?_
        exact (tL_c19 hl) i h n S th y s cc sc hi6 hL C M O hcc9 hsc9 kk
      · refine mt_tableIn dL_law_44 (off := 1053) (by decide +kernel) (by decide +kernel) (by decide +kernel) (tgt := 1097) rfl ?_
        exact (tL_c20 hl) i h n S th y s cc sc hi6 hL C M O hcc9 hsc9 kk
      · refine mt_tableIn dL_law_44 (off := 1093) (by decide +kernel) (by decide +kernel) (by decide +kernel) (tgt := 1137) rfl ?_
        exact (tL_c21 hl) i h n S th y s cc sc hi6 hL C M O hcc9 hsc9 kk
      · refine mt_tableIn dL_law_44 (off := 1133) (by decide +kernel) (by decide +kernel) (by decide +kernel) (tgt := 1177) rfl ?_
        exact (tL_c22 hl) i h n S th y s cc sc hi6 hL C M O hcc9 hsc9 kk
      · refine mt_tableIn dL_law_44 (off := 1173) (by decide +kernel) (by decide +kernel) (by decide +kernel) (tgt := 1217) rfl ?_
        exact H23 i h n S th y s cc sc hi6 hL C M O hcc9 hsc9 kk
      · refine mt_tableIn dL_law_44 (off := 1225) (by decide +kernel) (by decide +kernel) (by decide +kernel) (tgt := 1269) rfl ?_
        exact (tL_c24 hl) i h n S th y s cc sc hi6 hL C M O hcc9 hsc9 kk
      · refine mt_tableIn dL_law_44 (off := 1253) (by decide +kernel) (by decide +kernel) (by decide +kernel) (tgt := 1297) rfl ?_
        exact (tL_c25 hl) i h n S th y s cc sc hi6 hL C M O hcc9 hsc9 kk
      · refine mt_tableIn dL_law_44 (off := 1281) (by decide +kernel) (by decide +kernel) (by decide +kernel) (tgt := 1325) rfl ?_
        exact (tL_c26 hl) i h n S th y s cc sc hi6 hL C M O hcc9 hsc9 kk
      · refine mt_tableIn dL_law_44 (off := 1309) (by decide +kernel) (by decide +kernel) (by decide +kernel) (tgt := 1353) rfl ?_
        exact (tL_c27 hl) i h n S th y s cc sc hi6 hL C M O hcc9 hsc9 kk
      · refine mt_tableIn dL_law_44 (off := 1349) (by decide +kernel) (by decide +kernel) (by decide +kernel) (tgt := 1393) rfl ?_
        exact (tL_c28 hl) i h n S th y s cc sc hi6 hL C M O hcc9 hsc9 kk
      · refine mt_tableIn dL_law_44 (off := 1377) (by decide +kernel) (by decide +kernel) (by decide +kernel) (tgt := 1421) rfl ?_
        exact (tL_c29 hl) i h n S th y s cc sc hi6 hL C M O hcc9 hsc9 kk
      · refine mt_tableIn dL_law_44 (off := 1405) (by decide +kernel) (by decide +kernel) (by decide +kernel) (tgt := 1449) rfl ?_
        exact (tL_c30 hl) i h n S th y s cc sc hi6 hL C M O hcc9 hsc9 kk
      · refine mt_tableIn dL_law_44 (off := 1433) (by decide +kernel) (by decide +kernel) (by decide +kernel) (tgt := 1477) rfl ?_
        exact (tL_c31 hl) i h n S th y s cc sc hi6 hL C M O hcc9 hsc9 kk
      · refine mt_tableIn dL_law_44 (off := 1461) (by decide +kernel) (by decide +kernel) (by decide +kernel) (tgt := 1505) rfl ?_
        exact (tL_c32 hl) i h n S th y s cc sc hi6 hL C M O hcc9 hsc9 kk
      · refine mt_tableIn dL_law_44 (off := 1501) (by decide +kernel) (by decide +kernel) (by decide +kernel) (tgt := 1545) rfl ?_
        exact (tL_c33 hl) i h n S th y s cc sc hi6 hL C M O hcc9 hsc9 kk
      · refine mt_tableIn dL_law_44 (off := 1541) (by decide +kernel) (by decide +kernel) (by decide +kernel) (tgt := 1585) rfl ?_
        exact (tL_c34 hl) i h n S th y s cc sc hi6 hL C M O hcc9 hsc9 kk
      · refine mt_tableIn dL_law_44 (off := 1609) (by decide +kernel) (by decide +kernel) (by decide +kernel) (tgt := 1653) rfl ?_
        exact (tL_c35 hl) i h n S th y s cc sc hi6 hL C M O hcc9 hsc9 kk
      · refine mt_tableIn dL_law_44 (off := 1665) (by decide +kernel) (by decide +kernel) (by decide +kernel) (tgt := 1709) rfl ?_
        exact (tL_c36 hl) i h n S th y s cc sc hi6 hL C M O hcc9 hsc9 kk
      · refine mt_tableIn dL_law_44 (off := 1693) (by decide +kernel) (by decide +kernel) (by decide +kernel) (tgt := 1737) rfl ?_
        exact (tL_c37 hl) i h n S th y s cc sc hi6 hL C M O hcc9 hsc9 kk
      · refine mt_tableIn dL_law_44 (off := 1721) (by decide +kernel) (by decide +kernel) (by decide +kernel) (tgt := 1765) rfl ?_
        exact (tL_c38 hl) i h n S th y s cc sc hi6 hL C M O hcc9 hsc9 kk
      · refine mt_tableIn dL_law_44 (off := 1749) (by decide +kernel) (by decide +kernel) (by decide +kernel) (tgt := 1793) rfl ?_
        exact (tL_c39 hl) i h n S th y s cc sc hi6 hL C M O hcc9 hsc9 kk
      · refine mt_tableIn dL_law_44 (off := 1789) (by decide +kernel) (by decide +kernel) (by decide +kernel) (tgt := 1833) rfl ?_
        exact (tL_c40 hl) i h n S th y s cc sc hi6 hL C M O hcc9 hsc9 kk
      · refine mt_tableIn dL_law_44 (off := 1829) (by decide +kernel) (by decide +kernel) (by decide +kernel) (tgt := 1873) rfl ?_
        exact (tL_c41 hl) i h n S th y s cc sc hi6 hL C M O hcc9 hsc9 kk
      · refine mt_tableIn dL_law_44 (off := 1885) (by decide +kernel) (by decide +kernel) (by decide +kernel) (tgt := 1929) rfl ?_
        exact (tL_c42 hl) i h n S th y s cc sc hi6 hL C M O hcc9 hsc9 kk
      · refine mt_tableIn dL_law_44 (off := 1913) (by decide +kernel) (by decide +kernel) (by decide +kernel) (tgt := 1957) rfl ?_
        exact (tL_c43 hl) i h n S th y s cc sc hi6 hL C M O hcc9 hsc9 kk
      · refine mt_tableIn dL_law_44 (off := 1926) (by decide +kernel) (by decide +kernel) (by decide +kernel) (tgt := 1970) rfl ?_
        exact (tL_c44 hl) i h n S th y s cc sc hi6 hL C M O hcc9 hsc9 kk
      · refine mt_tableIn dL_law_44 (off := 1939) (by decide +kernel) (by decide +kernel) (by decide +kernel) (tgt := 1983) rfl ?_
        exact (tL_c45 hl) i h n S th y s cc sc hi6 hL C M O hcc9 hsc9 kk
      · refine mt_tableOut dL_law_44 (by decide +kernel) (tgt := 1996) rfl ?_
        exact mt_widen (by omega) (by omega) (kk h n S th y s C M O)
      · refine mt_tableOut dL_law_44 (by decide +kernel) (tgt := 1996) rfl ?_
        exact mt_widen (by omega) (by omega) (kk h n S th y s C M O)
      · refine mt_tableOut dL_law_44 (by decide +kernel) (tgt := 1996) rfl ?_
        exact mt_widen (by omega) (by omega) (kk h n S th y s C M O)
      · refine mt_tableOut dL_law_44 (by decide +kernel) (tgt := 1996) rfl ?_
        exact mt_widen (by omega) (by omega) (kk h n S th y s C M O)
      · refine mt_tableOut dL_law_44 (by decide +kernel) (tgt := 1996) rfl ?_
        exact mt_widen (by omega) (by omega) (kk h n S th y s C M O)
      · refine mt_tableOut dL_law_44 (by decide +kernel) (tgt := 1996) rfl ?_
        exact mt_widen (by omega) (by omega) (kk h n S th y s C M O)
      · refine mt_tableOut dL_law_44 (by decide +kernel) (tgt := 1996) rfl ?_
        exact mt_widen (by omega) (by omega) (kk h n S th y s C M O)
      · refine mt_tableOut dL_law_44 (by decide +kernel) (tgt := 1996) rfl ?_
        exact mt_widen (by omega) (by omega) (kk h n S th y s C M O)
      · refine mt_tableOut dL_law_44 (by decide +kernel) (tgt := 1996) rfl ?_
        exact mt_widen (by omega) (by omega) (kk h n S th y s C M O)
      · refine mt_tableOut dL_law_44 (by decide +kernel) (tgt := 1996) rfl ?_
        exact mt_widen (by omega) (by omega) (kk h n S th y s C M O)
      · refine mt_tableOut dL_law_44 (by decide +kernel) (tgt := 1996) rfl ?_
        exact mt_widen (by omega) (by omega) (kk h n S th y s C M O)
      · refine mt_tableOut dL_law_44 (by decide +kernel) (tgt := 1996) rfl ?_
        exact mt_widen (by omega) (by omega) (kk h n S th y s C M O)
      · refine mt_tableOut dL_law_44 (by decide +kernel) (tgt := 1996) rfl ?_
        exact mt_widen (by omega) (by omega) (kk h n S th y s C M O)
      · refine mt_tableOut dL_law_44 (by decide +kernel) (tgt := 1996) rfl ?_
        exact mt_widen (by omega) (by omega) (kk h n S th y s C M O)
      · refine mt_tableOut dL_law_44 (by decide +kernel) (tgt := 1996) rfl ?_
        exact mt_widen (by omega) (by omega) (kk h n S th y s C M O)
      · refine mt_tableOut dL_law_44 (by decide +kernel) (tgt := 1996) rfl ?_
        exact mt_widen (by omega) (by omega) (kk h n S th y s C M O)
      · refine mt_tableOut dL_law_44 (by decide +kernel) (tgt := 1996) rfl ?_
        exact mt_widen (by omega) (by omega) (kk h n S th y s C M O)
      · refine mt_tableOut dL_law_44 (by decide +kernel) (tgt := 1996) rfl ?_
        exact mt_widen (by omega) (by omega) (kk h n S th y s C M O)
