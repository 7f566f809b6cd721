/-! ===== the class: digest ===== -/
def q_house (S : cS) (w : Nat) : Int32 := match w with
  | 0 => nI (q_itemsInAll S)
  | 1 => S.2.2.1
  | 2 => S.2.2.2.1
  | 3 => S.2.2.2.2
  | 4 => S.2.1
  | _ => q_sortedRows S
theorem house_s {S : cS} {w : Nat} (h : w < 6) : sp_house S (nI w) = (0, .int (q_house S w), S) := by
  unfold sp_house
  rw [inN_some h (by decide)]
  obtain rfl | rfl | rfl | rfl | rfl | rfl : w = 0 ∨ w = 1 ∨ w = 2 ∨ w = 3 ∨ w = 4 ∨ w = 5 := by omega
  all_goals rfl
theorem wrong0_s {S : cS} {r : Nat} (h : r < 4) : sp_wrong S (nI r) (nI 0) = (0, .int (msort (S.1 r)).2, S) := by
  unfold sp_wrong
  rw [dAt_s h (by decide), if_pos nI_0]
def dgRow (S : cS) (i : Nat) (d : Int64) : Int64 := ((((((((d * 31 + (nI (S.1 i).length).toInt64) * 31 + (q_mark (S.1 i) false).toInt64) * 31 + (q_mark (S.1 i) true).toInt64) * 31 + ((msort (S.1 i)).2).toInt64) * 31 + (q_tiedPairsOfSorted (msort (S.1 i)).1).toInt64) * 31 + (q_runsInAll (S.1 i)).toInt64) * 31 + (q_longestRun (S.1 i)).toInt64) * 31 + (q_keysTogether (S.1 i)).toInt64) * 31 + (q_unlikeKeysOfSorted (msort (S.1 i)).1).toInt64
def dgHouse (S : cS) (w : Nat) (d : Int64) : Int64 := d * 31 + (q_house S w).toInt64
def q_digest (S : cS) : Int64 := mlp (dgHouse S) (6 - 0) 0 (mlp (dgRow S) (4 - 0) 0 8007) * 31 + (mb (q_sound S)).toInt64
abbrev rX2_digest : Room := { frames := 8, cells := 46, slots := 276, locals := 167 }
set_option maxRecDepth 100000 in
set_option maxHeartbeats 2000000 in
theorem tX2_digest_6 {l : Launch} {K : mK} {n : Nat} {S : cS} {r : Int64} {h0 : mH} (hl : l.stackTraces = false) (kk0 : ∀ (i : Nat) (h : mH) (d : Int64), (cAt h S) → (∀ j, 27 ≤ j → h j = h0 j) → (d = r) → mT l mX2_digest rX2_digest K 141 [.ref 0, .long d, .double 0, .int (nI i)] [] h n 40 240) : ∀ (N0 : Nat) (i : Nat) (d : Int64) (h : mH), (4 - i) < N0 → (cAt h S) → (∀ j, 27 ≤ j → h j = h0 j) → (mlp (dgRow S) (4 - i) i d = r) → (i ≤ 4) → mT l mX2_digest rX2_digest K 6 [.ref 0, .long d, .double 0, .int (nI i)] [] h n (10 * i) (60 * i) := by
  intro N0
  induction N0 with
  | zero => intro i d h hm; exact absurd hm (Nat.not_lt_zero _)
  | succ N0 ih =>
    intro i d h hm C hfr hr hi
    obtain ⟨C0_1, ⟨cg_1, C1_1, C1g_1⟩, C14_1, CR_1, ⟨zs15_1, HK15_1⟩, ⟨zs18_1, HK18_1⟩, ⟨zs21_1, HK21_1⟩, ⟨zs24_1, HK24_1⟩⟩ := id C
    refine mt_iload_n dX2_digest_6 rfl ?_
    refine mt_aload_n dX2_digest_7 rfl rfl ?_
    refine mt_getfield mKX2 (i := 0) (by decide) mw_112 dX2_digest_8 C0_1 rfl ?_
    refine mt_alenq dX2_digest_11 C1_1 (fun _ => rfl) ?_
    refine mt_icmp_ge dX2_digest_12 (tgt := 141) rfl (fun q2 => ?_) (fun q2 => ?_)
    · have q2 := Int32.not_lt.mpr q2
      have q2 := (not_congr (nI_ltI (by omega) (by omega))).mp q2
      refine mt_widen (cc' := 40) (sc' := 240) (by first | omega | (simp only [rX2_many, rX2_mark, rX2_wrong, rX2_ties, rX2_runs, rX2_longest, rX2_sum, rX2_unlike, rX2_house, rX2_isSound, rX2_digest]; omega)) (by first | omega | (simp only [rX2_many, rX2_mark, rX2_wrong, rX2_ties, rX2_runs, rX2_longest, rX2_sum, rX2_unlike, rX2_house, rX2_isSound, rX2_digest]; omega)) ?_
      exact kk0 i h d C hfr ((mlp_end (f := dgRow S) (by omega)).symm.trans hr)
    · have q2 := Int32.not_le.mp q2
      have q2 := (nI_ltI (by omega) (by omega)).mp q2
      refine mt_lload_n dX2_digest_15 rfl ?_
      refine mt_ldc2 (v := 31) dX2_digest_16 mw_225 ?_
      refine mt_lmul dX2_digest_19 ?_
      refine mt_aload_n dX2_digest_20 rfl rfl ?_
      refine mt_iload_n dX2_digest_21 rfl ?_
      have hs3 := show sp_many S (nI i) = (0, .int (nI (S.1 i).length), S) from by simp only [sp_many, dAt_s (show i < 4 by omega) (by decide)]
      refine mt_callV (N := mX2_many) (Rc := rX2_many) (As := [.int (nI i)]) (st := [.long (d * 31)]) dX2_digest_22 (kX2_many hl C) sX2_many mw_226 mKX2 rfl C0_1 rfl (Nat.le_of_ble_eq_true rfl) ⟨⟨Nat.le_of_ble_eq_true rfl, Nat.le_of_ble_eq_true rfl⟩, (by simp only [rX2_many, rX2_mark, rX2_wrong, rX2_ties, rX2_runs, rX2_longest, rX2_sum, rX2_unlike, rX2_house, rX2_isSound, rX2_digest]; omega), (by simp only [rX2_many, rX2_mark, rX2_wrong, rX2_ties, rX2_runs, rX2_longest, rX2_sum, rX2_unlike, rX2_house, rX2_isSound, rX2_digest]; omega)⟩ (fun v4 h5 n6 c7 => ?_) (fun _ _ _ hx => (cNo_no (congrArg Prod.fst hs3) hx).elim)
      obtain ⟨c7a, c7b, c7c, c7d⟩ := c7.use hs3
      rw [c7a, c7b]
      obtain ⟨C0_8, ⟨cg_8, C1_8, C1g_8⟩, C14_8, CR_8, ⟨zs15_8, HK15_8⟩, ⟨zs18_8, HK18_8⟩, ⟨zs21_8, HK21_8⟩, ⟨zs24_8, HK24_8⟩⟩ := id c7c
      show mT _ _ _ _ 25 [.ref 0, .long d, .double 0, .int (nI i)] [.int (nI ((S.1 i).length)), .long (d * 31)] _ _ _ _
      refine mt_i2l dX2_digest_25 ?_
      refine mt_ladd dX2_digest_26 ?_
      refine mp_lstore_n dX2_digest_27 (ls' := [.ref 0, .long ((d * 31) + ((nI ((S.1 i).length)).toInt64)), .double 0, .int (nI i)]) rfl (by decide) rfl ?_
      refine mt_lload_n dX2_digest_28 rfl ?_
      refine mt_ldc2 (v := 31) dX2_digest_29 mw_225 ?_
      refine mt_lmul dX2_digest_32 ?_
      refine mt_aload_n dX2_digest_33 rfl rfl ?_
      refine mt_iload_n dX2_digest_34 rfl ?_
      refine mt_iconst dX2_digest_35 (v := nI 0) rfl ?_
      have hs9 := show sp_mark S (nI i) false = (0, .int (q_mark (S.1 i) false), S) from by simp only [sp_mark, dAt_s (show i < 4 by omega) (by decide)]
      refine mt_callV (N := mX2_mark) (Rc := rX2_mark) (As := [.int (nI i), .int (nI 0)]) (st := [.long (((d * 31) + ((nI ((S.1 i).length)).toInt64)) * 31)]) dX2_digest_36 (kX2_mark (isStamps := false) hl c7c) sX2_mark mw_301 mKX2 rfl C0_8 rfl (Nat.le_of_ble_eq_true rfl) ⟨⟨Nat.le_of_ble_eq_true rfl, Nat.le_of_ble_eq_true rfl⟩, (by simp only [rX2_many, rX2_mark, rX2_wrong, rX2_ties, rX2_runs, rX2_longest, rX2_sum, rX2_unlike, rX2_house, rX2_isSound, rX2_digest]; omega), (by simp only [rX2_many, rX2_mark, rX2_wrong, rX2_ties, rX2_runs, rX2_longest, rX2_sum, rX2_unlike, rX2_house, rX2_isSound, rX2_digest]; omega)⟩ (fun v10 h11 n12 c13 => ?_) (fun _ _ _ hx => (cNo_no (congrArg Prod.fst hs9) hx).elim)
      obtain ⟨c13a, c13b, c13c, c13d⟩ := c13.use hs9
      rw [c13a, c13b]
      have c13e : ∀ j, 27 ≤ j → h11 j = h j := fun j hj => (c13d j hj).trans (c7d j hj)
      obtain ⟨C0_14, ⟨cg_14, C1_14, C1g_14⟩, C14_14, CR_14, ⟨zs15_14, HK15_14⟩, ⟨zs18_14, HK18_14⟩, ⟨zs21_14, HK21_14⟩, ⟨zs24_14, HK24_14⟩⟩ := id c13c
      show mT _ _ _ _ 39 [.ref 0, .long ((d * 31) + ((nI ((S.1 i).length)).toInt64)), .double 0, .int (nI i)] [.int (q_mark (S.1 i) false), .long (((d * 31) + ((nI ((S.1 i).length)).toInt64)) * 31)] _ _ _ _
      refine mt_i2l dX2_digest_39 ?_
      refine mt_ladd dX2_digest_40 ?_
      refine mp_lstore_n dX2_digest_41 (ls' := [.ref 0, .long ((((d * 31) + ((nI ((S.1 i).length)).toInt64)) * 31) + ((q_mark (S.1 i) false).toInt64)), .double 0, .int (nI i)]) rfl (by decide) rfl ?_
      refine mt_lload_n dX2_digest_42 rfl ?_
      refine mt_ldc2 (v := 31) dX2_digest_43 mw_225 ?_
      refine mt_lmul dX2_digest_46 ?_
      refine mt_aload_n dX2_digest_47 rfl rfl ?_
      refine mt_iload_n dX2_digest_48 rfl ?_
      refine mt_iconst dX2_digest_49 (v := nI 1) rfl ?_
      have hs15 := show sp_mark S (nI i) true = (0, .int (q_mark (S.1 i) true), S) from by simp only [sp_mark, dAt_s (show i < 4 by omega) (by decide)]
      refine mt_callV (N := mX2_mark) (Rc := rX2_mark) (As := [.int (nI i), .int (nI 1)]) (st := [.long (((((d * 31) + ((nI ((S.1 i).length)).toInt64)) * 31) + ((q_mark (S.1 i) false).toInt64)) * 31)]) dX2_digest_50 (kX2_mark (isStamps := true) hl c13c) sX2_mark mw_301 mKX2 rfl C0_14 rfl (Nat.le_of_ble_eq_true rfl) ⟨⟨Nat.le_of_ble_eq_true rfl, Nat.le_of_ble_eq_true rfl⟩, (by simp only [rX2_many, rX2_mark, rX2_wrong, rX2_ties, rX2_runs, rX2_longest, rX2_sum, rX2_unlike, rX2_house, rX2_isSound, rX2_digest]; omega), (by simp only [rX2_many, rX2_mark, rX2_wrong, rX2_ties, rX2_runs, rX2_longest, rX2_sum, rX2_unlike, rX2_house, rX2_isSound, rX2_digest]; omega)⟩ (fun v16 h17 n18 c19 => ?_) (fun _ _ _ hx => (cNo_no (congrArg Prod.fst hs15) hx).elim)
      obtain ⟨c19a, c19b, c19c, c19d⟩ := c19.use hs15
      rw [c19a, c19b]
      have c19e : ∀ j, 27 ≤ j → h17 j = h j := fun j hj => (c19d j hj).trans (c13e j hj)
      obtain ⟨C0_20, ⟨cg_20, C1_20, C1g_20⟩, C14_20, CR_20, ⟨zs15_20, HK15_20⟩, ⟨zs18_20, HK18_20⟩, ⟨zs21_20, HK21_20⟩, ⟨zs24_20, HK24_20⟩⟩ := id c19c
      show mT _ _ _ _ 53 [.ref 0, .long ((((d * 31) + ((nI ((S.1 i).length)).toInt64)) * 31) + ((q_mark (S.1 i) false).toInt64)), .double 0, .int (nI i)] [.int (q_mark (S.1 i) true), .long (((((d * 31) + ((nI ((S.1 i).length)).toInt64)) * 31) + ((q_mark (S.1 i) false).toInt64)) * 31)] _ _ _ _
      refine mt_i2l dX2_digest_53 ?_
      refine mt_ladd dX2_digest_54 ?_
      refine mp_lstore_n dX2_digest_55 (ls' := [.ref 0, .long ((((((d * 31) + ((nI ((S.1 i).length)).toInt64)) * 31) + ((q_mark (S.1 i) false).toInt64)) * 31) + ((q_mark (S.1 i) true).toInt64)), .double 0, .int (nI i)]) rfl (by decide) rfl ?_
      refine mt_lload_n dX2_digest_56 rfl ?_
      refine mt_ldc2 (v := 31) dX2_digest_57 mw_225 ?_
      refine mt_lmul dX2_digest_60 ?_
      refine mt_aload_n dX2_digest_61 rfl rfl ?_
      refine mt_iload_n dX2_digest_62 rfl ?_
      refine mt_iconst dX2_digest_63 (v := nI 0) rfl ?_
      have hs21 := wrong0_s (S := S) (show i < 4 by omega)
      refine mt_callV (N := mX2_wrong) (Rc := rX2_wrong) (As := [.int (nI i), .int (nI 0)]) (st := [.long (((((((d * 31) + ((nI ((S.1 i).length)).toInt64)) * 31) + ((q_mark (S.1 i) false).toInt64)) * 31) + ((q_mark (S.1 i) true).toInt64)) * 31)]) dX2_digest_64 (kX2_wrong hl c19c) sX2_wrong mw_305 mKX2 rfl C0_20 rfl (Nat.le_of_ble_eq_true rfl) ⟨⟨Nat.le_of_ble_eq_true rfl, Nat.le_of_ble_eq_true rfl⟩, (by simp only [rX2_many, rX2_mark, rX2_wrong, rX2_ties, rX2_runs, rX2_longest, rX2_sum, rX2_unlike, rX2_house, rX2_isSound, rX2_digest]; omega), (by simp only [rX2_many, rX2_mark, rX2_wrong, rX2_ties, rX2_runs, rX2_longest, rX2_sum, rX2_unlike, rX2_house, rX2_isSound, rX2_digest]; omega)⟩ (fun v22 h23 n24 c25 => ?_) (fun _ _ _ hx => (cNo_no (congrArg Prod.fst hs21) hx).elim)
      obtain ⟨c25a, c25b, c25c, c25d⟩ := c25.use hs21
      rw [c25a, c25b]
      have c25e : ∀ j, 27 ≤ j → h23 j = h j := fun j hj => (c25d j hj).trans (c19e j hj)
      obtain ⟨C0_26, ⟨cg_26, C1_26, C1g_26⟩, C14_26, CR_26, ⟨zs15_26, HK15_26⟩, ⟨zs18_26, HK18_26⟩, ⟨zs21_26, HK21_26⟩, ⟨zs24_26, HK24_26⟩⟩ := id c25c
      show mT _ _ _ _ 67 [.ref 0, .long ((((((d * 31) + ((nI ((S.1 i).length)).toInt64)) * 31) + ((q_mark (S.1 i) false).toInt64)) * 31) + ((q_mark (S.1 i) true).toInt64)), .double 0, .int (nI i)] [.int ((msort (S.1 i)).2), .long (((((((d * 31) + ((nI ((S.1 i).length)).toInt64)) * 31) + ((q_mark (S.1 i) false).toInt64)) * 31) + ((q_mark (S.1 i) true).toInt64)) * 31)] _ _ _ _
      refine mt_i2l dX2_digest_67 ?_
      refine mt_ladd dX2_digest_68 ?_
      refine mp_lstore_n dX2_digest_69 (ls' := [.ref 0, .long ((((((((d * 31) + ((nI ((S.1 i).length)).toInt64)) * 31) + ((q_mark (S.1 i) false).toInt64)) * 31) + ((q_mark (S.1 i) true).toInt64)) * 31) + (((msort (S.1 i)).2).toInt64)), .double 0, .int (nI i)]) rfl (by decide) rfl ?_
      refine mt_lload_n dX2_digest_70 rfl ?_
      refine mt_ldc2 (v := 31) dX2_digest_71 mw_225 ?_
      refine mt_lmul dX2_digest_74 ?_
      refine mt_aload_n dX2_digest_75 rfl rfl ?_
      refine mt_iload_n dX2_digest_76 rfl ?_
      have hs27 := show sp_ties S (nI i) = (0, .int (q_tiedPairsOfSorted (msort (S.1 i)).1), S) from by simp only [sp_ties, dAt_s (show i < 4 by omega) (by decide)]
      refine mt_callV (N := mX2_ties) (Rc := rX2_ties) (As := [.int (nI i)]) (st := [.long (((((((((d * 31) + ((nI ((S.1 i).length)).toInt64)) * 31) + ((q_mark (S.1 i) false).toInt64)) * 31) + ((q_mark (S.1 i) true).toInt64)) * 31) + (((msort (S.1 i)).2).toInt64)) * 31)]) dX2_digest_77 (kX2_ties hl c25c) sX2_ties mw_328 mKX2 rfl C0_26 rfl (Nat.le_of_ble_eq_true rfl) ⟨⟨Nat.le_of_ble_eq_true rfl, Nat.le_of_ble_eq_true rfl⟩, (by simp only [rX2_many, rX2_mark, rX2_wrong, rX2_ties, rX2_runs, rX2_longest, rX2_sum, rX2_unlike, rX2_house, rX2_isSound, rX2_digest]; omega), (by simp only [rX2_many, rX2_mark, rX2_wrong, rX2_ties, rX2_runs, rX2_longest, rX2_sum, rX2_unlike, rX2_house, rX2_isSound, rX2_digest]; omega)⟩ (fun v28 h29 n30 c31 => ?_) (fun _ _ _ hx => (cNo_no (congrArg Prod.fst hs27) hx).elim)
      obtain ⟨c31a, c31b, c31c, c31d⟩ := c31.use hs27
      rw [c31a, c31b]
      have c31e : ∀ j, 27 ≤ j → h29 j = h j := fun j hj => (c31d j hj).trans (c25e j hj)
      obtain ⟨C0_32, ⟨cg_32, C1_32, C1g_32⟩, C14_32, CR_32, ⟨zs15_32, HK15_32⟩, ⟨zs18_32, HK18_32⟩, ⟨zs21_32, HK21_32⟩, ⟨zs24_32, HK24_32⟩⟩ := id c31c
      show mT _ _ _ _ 80 [.ref 0, .long ((((((((d * 31) + ((nI ((S.1 i).length)).toInt64)) * 31) + ((q_mark (S.1 i) false).toInt64)) * 31) + ((q_mark (S.1 i) true).toInt64)) * 31) + (((msort (S.1 i)).2).toInt64)), .double 0, .int (nI i)] [.int (q_tiedPairsOfSorted (msort (S.1 i)).1), .long (((((((((d * 31) + ((nI ((S.1 i).length)).toInt64)) * 31) + ((q_mark (S.1 i) false).toInt64)) * 31) + ((q_mark (S.1 i) true).toInt64)) * 31) + (((msort (S.1 i)).2).toInt64)) * 31)] _ _ _ _
      refine mt_i2l dX2_digest_80 ?_
      refine mt_ladd dX2_digest_81 ?_
      refine mp_lstore_n dX2_digest_82 (ls' := [.ref 0, .long ((((((((((d * 31) + ((nI ((S.1 i).length)).toInt64)) * 31) + ((q_mark (S.1 i) false).toInt64)) * 31) + ((q_mark (S.1 i) true).toInt64)) * 31) + (((msort (S.1 i)).2).toInt64)) * 31) + ((q_tiedPairsOfSorted (msort (S.1 i)).1).toInt64)), .double 0, .int (nI i)]) rfl (by decide) rfl ?_
      refine mt_lload_n dX2_digest_83 rfl ?_
      refine mt_ldc2 (v := 31) dX2_digest_84 mw_225 ?_
      refine mt_lmul dX2_digest_87 ?_
      refine mt_aload_n dX2_digest_88 rfl rfl ?_
      refine mt_iload_n dX2_digest_89 rfl ?_
      have hs33 := show sp_runs S (nI i) = (0, .int (q_runsInAll (S.1 i)), S) from by simp only [sp_runs, dAt_s (show i < 4 by omega) (by decide)]
      refine mt_callV (N := mX2_runs) (Rc := rX2_runs) (As := [.int (nI i)]) (st := [.long (((((((((((d * 31) + ((nI ((S.1 i).length)).toInt64)) * 31) + ((q_mark (S.1 i) false).toInt64)) * 31) + ((q_mark (S.1 i) true).toInt64)) * 31) + (((msort (S.1 i)).2).toInt64)) * 31) + ((q_tiedPairsOfSorted (msort (S.1 i)).1).toInt64)) * 31)]) dX2_digest_90 (kX2_runs hl c31c) sX2_runs mw_332 mKX2 rfl C0_32 rfl (Nat.le_of_ble_eq_true rfl) ⟨⟨Nat.le_of_ble_eq_true rfl, Nat.le_of_ble_eq_true rfl⟩, (by simp only [rX2_many, rX2_mark, rX2_wrong, rX2_ties, rX2_runs, rX2_longest, rX2_sum, rX2_unlike, rX2_house, rX2_isSound, rX2_digest]; omega), (by simp only [rX2_many, rX2_mark, rX2_wrong, rX2_ties, rX2_runs, rX2_longest, rX2_sum, rX2_unlike, rX2_house, rX2_isSound, rX2_digest]; omega)⟩ (fun v34 h35 n36 c37 => ?_) (fun _ _ _ hx => (cNo_no (congrArg Prod.fst hs33) hx).elim)
      obtain ⟨c37a, c37b, c37c, c37d⟩ := c37.use hs33
      rw [c37a, c37b]
      have c37e : ∀ j, 27 ≤ j → h35 j = h j := fun j hj => (c37d j hj).trans (c31e j hj)
      obtain ⟨C0_38, ⟨cg_38, C1_38, C1g_38⟩, C14_38, CR_38, ⟨zs15_38, HK15_38⟩, ⟨zs18_38, HK18_38⟩, ⟨zs21_38, HK21_38⟩, ⟨zs24_38, HK24_38⟩⟩ := id c37c
      show mT _ _ _ _ 93 [.ref 0, .long ((((((((((d * 31) + ((nI ((S.1 i).length)).toInt64)) * 31) + ((q_mark (S.1 i) false).toInt64)) * 31) + ((q_mark (S.1 i) true).toInt64)) * 31) + (((msort (S.1 i)).2).toInt64)) * 31) + ((q_tiedPairsOfSorted (msort (S.1 i)).1).toInt64)), .double 0, .int (nI i)] [.int (q_runsInAll (S.1 i)), .long (((((((((((d * 31) + ((nI ((S.1 i).length)).toInt64)) * 31) + ((q_mark (S.1 i) false).toInt64)) * 31) + ((q_mark (S.1 i) true).toInt64)) * 31) + (((msort (S.1 i)).2).toInt64)) * 31) + ((q_tiedPairsOfSorted (msort (S.1 i)).1).toInt64)) * 31)] _ _ _ _
      refine mt_i2l dX2_digest_93 ?_
      refine mt_ladd dX2_digest_94 ?_
      refine mp_lstore_n dX2_digest_95 (ls' := [.ref 0, .long ((((((((((((d * 31) + ((nI ((S.1 i).length)).toInt64)) * 31) + ((q_mark (S.1 i) false).toInt64)) * 31) + ((q_mark (S.1 i) true).toInt64)) * 31) + (((msort (S.1 i)).2).toInt64)) * 31) + ((q_tiedPairsOfSorted (msort (S.1 i)).1).toInt64)) * 31) + ((q_runsInAll (S.1 i)).toInt64)), .double 0, .int (nI i)]) rfl (by decide) rfl ?_
      refine mt_lload_n dX2_digest_96 rfl ?_
      refine mt_ldc2 (v := 31) dX2_digest_97 mw_225 ?_
      refine mt_lmul dX2_digest_100 ?_
      refine mt_aload_n dX2_digest_101 rfl rfl ?_
      refine mt_iload_n dX2_digest_102 rfl ?_
      have hs39 := show sp_longest S (nI i) = (0, .int (q_longestRun (S.1 i)), S) from by simp only [sp_longest, dAt_s (show i < 4 by omega) (by decide)]
      refine mt_callV (N := mX2_longest) (Rc := rX2_longest) (As := [.int (nI i)]) (st := [.long (((((((((((((d * 31) + ((nI ((S.1 i).length)).toInt64)) * 31) + ((q_mark (S.1 i) false).toInt64)) * 31) + ((q_mark (S.1 i) true).toInt64)) * 31) + (((msort (S.1 i)).2).toInt64)) * 31) + ((q_tiedPairsOfSorted (msort (S.1 i)).1).toInt64)) * 31) + ((q_runsInAll (S.1 i)).toInt64)) * 31)]) dX2_digest_103 (kX2_longest hl c37c) sX2_longest mw_340 mKX2 rfl C0_38 rfl (Nat.le_of_ble_eq_true rfl) ⟨⟨Nat.le_of_ble_eq_true rfl, Nat.le_of_ble_eq_true rfl⟩, (by simp only [rX2_many, rX2_mark, rX2_wrong, rX2_ties, rX2_runs, rX2_longest, rX2_sum, rX2_unlike, rX2_house, rX2_isSound, rX2_digest]; omega), (by simp only [rX2_many, rX2_mark, rX2_wrong, rX2_ties, rX2_runs, rX2_longest, rX2_sum, rX2_unlike, rX2_house, rX2_isSound, rX2_digest]; omega)⟩ (fun v40 h41 n42 c43 => ?_) (fun _ _ _ hx => (cNo_no (congrArg Prod.fst hs39) hx).elim)
      obtain ⟨c43a, c43b, c43c, c43d⟩ := c43.use hs39
      rw [c43a, c43b]
      have c43e : ∀ j, 27 ≤ j → h41 j = h j := fun j hj => (c43d j hj).trans (c37e j hj)
      obtain ⟨C0_44, ⟨cg_44, C1_44, C1g_44⟩, C14_44, CR_44, ⟨zs15_44, HK15_44⟩, ⟨zs18_44, HK18_44⟩, ⟨zs21_44, HK21_44⟩, ⟨zs24_44, HK24_44⟩⟩ := id c43c
      show mT _ _ _ _ 106 [.ref 0, .long ((((((((((((d * 31) + ((nI ((S.1 i).length)).toInt64)) * 31) + ((q_mark (S.1 i) false).toInt64)) * 31) + ((q_mark (S.1 i) true).toInt64)) * 31) + (((msort (S.1 i)).2).toInt64)) * 31) + ((q_tiedPairsOfSorted (msort (S.1 i)).1).toInt64)) * 31) + ((q_runsInAll (S.1 i)).toInt64)), .double 0, .int (nI i)] [.int (q_longestRun (S.1 i)), .long (((((((((((((d * 31) + ((nI ((S.1 i).length)).toInt64)) * 31) + ((q_mark (S.1 i) false).toInt64)) * 31) + ((q_mark (S.1 i) true).toInt64)) * 31) + (((msort (S.1 i)).2).toInt64)) * 31) + ((q_tiedPairsOfSorted (msort (S.1 i)).1).toInt64)) * 31) + ((q_runsInAll (S.1 i)).toInt64)) * 31)] _ _ _ _
      refine mt_i2l dX2_digest_106 ?_
      refine mt_ladd dX2_digest_107 ?_
      refine mp_lstore_n dX2_digest_108 (ls' := [.ref 0, .long ((((((((((((((d * 31) + ((nI ((S.1 i).length)).toInt64)) * 31) + ((q_mark (S.1 i) false).toInt64)) * 31) + ((q_mark (S.1 i) true).toInt64)) * 31) + (((msort (S.1 i)).2).toInt64)) * 31) + ((q_tiedPairsOfSorted (msort (S.1 i)).1).toInt64)) * 31) + ((q_runsInAll (S.1 i)).toInt64)) * 31) + ((q_longestRun (S.1 i)).toInt64)), .double 0, .int (nI i)]) rfl (by decide) rfl ?_
      refine mt_lload_n dX2_digest_109 rfl ?_
      refine mt_ldc2 (v := 31) dX2_digest_110 mw_225 ?_
      refine mt_lmul dX2_digest_113 ?_
      refine mt_aload_n dX2_digest_114 rfl rfl ?_
      refine mt_iload_n dX2_digest_115 rfl ?_
      have hs45 := show sp_sum S (nI i) = (0, .int (q_keysTogether (S.1 i)), S) from by simp only [sp_sum, dAt_s (show i < 4 by omega) (by decide)]
      refine mt_callV (N := mX2_sum) (Rc := rX2_sum) (As := [.int (nI i)]) (st := [.long (((((((((((((((d * 31) + ((nI ((S.1 i).length)).toInt64)) * 31) + ((q_mark (S.1 i) false).toInt64)) * 31) + ((q_mark (S.1 i) true).toInt64)) * 31) + (((msort (S.1 i)).2).toInt64)) * 31) + ((q_tiedPairsOfSorted (msort (S.1 i)).1).toInt64)) * 31) + ((q_runsInAll (S.1 i)).toInt64)) * 31) + ((q_longestRun (S.1 i)).toInt64)) * 31)]) dX2_digest_116 (kX2_sum hl c43c) sX2_sum mw_351 mKX2 rfl C0_44 rfl (Nat.le_of_ble_eq_true rfl) ⟨⟨Nat.le_of_ble_eq_true rfl, Nat.le_of_ble_eq_true rfl⟩, (by simp only [rX2_many, rX2_mark, rX2_wrong, rX2_ties, rX2_runs, rX2_longest, rX2_sum, rX2_unlike, rX2_house, rX2_isSound, rX2_digest]; omega), (by simp only [rX2_many, rX2_mark, rX2_wrong, rX2_ties, rX2_runs, rX2_longest, rX2_sum, rX2_unlike, rX2_house, rX2_isSound, rX2_digest]; omega)⟩ (fun v46 h47 n48 c49 => ?_) (fun _ _ _ hx => (cNo_no (congrArg Prod.fst hs45) hx).elim)
      obtain ⟨c49a, c49b, c49c, c49d⟩ := c49.use hs45
      rw [c49a, c49b]
      have c49e : ∀ j, 27 ≤ j → h47 j = h j := fun j hj => (c49d j hj).trans (c43e j hj)
      obtain ⟨C0_50, ⟨cg_50, C1_50, C1g_50⟩, C14_50, CR_50, ⟨zs15_50, HK15_50⟩, ⟨zs18_50, HK18_50⟩, ⟨zs21_50, HK21_50⟩, ⟨zs24_50, HK24_50⟩⟩ := id c49c
      show mT _ _ _ _ 119 [.ref 0, .long ((((((((((((((d * 31) + ((nI ((S.1 i).length)).toInt64)) * 31) + ((q_mark (S.1 i) false).toInt64)) * 31) + ((q_mark (S.1 i) true).toInt64)) * 31) + (((msort (S.1 i)).2).toInt64)) * 31) + ((q_tiedPairsOfSorted (msort (S.1 i)).1).toInt64)) * 31) + ((q_runsInAll (S.1 i)).toInt64)) * 31) + ((q_longestRun (S.1 i)).toInt64)), .double 0, .int (nI i)] [.int (q_keysTogether (S.1 i)), .long (((((((((((((((d * 31) + ((nI ((S.1 i).length)).toInt64)) * 31) + ((q_mark (S.1 i) false).toInt64)) * 31) + ((q_mark (S.1 i) true).toInt64)) * 31) + (((msort (S.1 i)).2).toInt64)) * 31) + ((q_tiedPairsOfSorted (msort (S.1 i)).1).toInt64)) * 31) + ((q_runsInAll (S.1 i)).toInt64)) * 31) + ((q_longestRun (S.1 i)).toInt64)) * 31)] _ _ _ _
      refine mt_i2l dX2_digest_119 ?_
      refine mt_ladd dX2_digest_120 ?_
      refine mp_lstore_n dX2_digest_121 (ls' := [.ref 0, .long ((((((((((((((((d * 31) + ((nI ((S.1 i).length)).toInt64)) * 31) + ((q_mark (S.1 i) false).toInt64)) * 31) + ((q_mark (S.1 i) true).toInt64)) * 31) + (((msort (S.1 i)).2).toInt64)) * 31) + ((q_tiedPairsOfSorted (msort (S.1 i)).1).toInt64)) * 31) + ((q_runsInAll (S.1 i)).toInt64)) * 31) + ((q_longestRun (S.1 i)).toInt64)) * 31) + ((q_keysTogether (S.1 i)).toInt64)), .double 0, .int (nI i)]) rfl (by decide) rfl ?_
      refine mt_lload_n dX2_digest_122 rfl ?_
      refine mt_ldc2 (v := 31) dX2_digest_123 mw_225 ?_
      refine mt_lmul dX2_digest_126 ?_
      refine mt_aload_n dX2_digest_127 rfl rfl ?_
      refine mt_iload_n dX2_digest_128 rfl ?_
      have hs51 := show sp_unlike S (nI i) = (0, .int (q_unlikeKeysOfSorted (msort (S.1 i)).1), S) from by simp only [sp_unlike, dAt_s (show i < 4 by omega) (by decide)]
      refine mt_callV (N := mX2_unlike) (Rc := rX2_unlike) (As := [.int (nI i)]) (st := [.long (((((((((((((((((d * 31) + ((nI ((S.1 i).length)).toInt64)) * 31) + ((q_mark (S.1 i) false).toInt64)) * 31) + ((q_mark (S.1 i) true).toInt64)) * 31) + (((msort (S.1 i)).2).toInt64)) * 31) + ((q_tiedPairsOfSorted (msort (S.1 i)).1).toInt64)) * 31) + ((q_runsInAll (S.1 i)).toInt64)) * 31) + ((q_longestRun (S.1 i)).toInt64)) * 31) + ((q_keysTogether (S.1 i)).toInt64)) * 31)]) dX2_digest_129 (kX2_unlike hl c49c) sX2_unlike mw_359 mKX2 rfl C0_50 rfl (Nat.le_of_ble_eq_true rfl) ⟨⟨Nat.le_of_ble_eq_true rfl, Nat.le_of_ble_eq_true rfl⟩, (by simp only [rX2_many, rX2_mark, rX2_wrong, rX2_ties, rX2_runs, rX2_longest, rX2_sum, rX2_unlike, rX2_house, rX2_isSound, rX2_digest]; omega), (by simp only [rX2_many, rX2_mark, rX2_wrong, rX2_ties, rX2_runs, rX2_longest, rX2_sum, rX2_unlike, rX2_house, rX2_isSound, rX2_digest]; omega)⟩ (fun v52 h53 n54 c55 => ?_) (fun _ _ _ hx => (cNo_no (congrArg Prod.fst hs51) hx).elim)
      obtain ⟨c55a, c55b, c55c, c55d⟩ := c55.use hs51
      rw [c55a, c55b]
      have c55e : ∀ j, 27 ≤ j → h53 j = h j := fun j hj => (c55d j hj).trans (c49e j hj)
      obtain ⟨C0_56, ⟨cg_56, C1_56, C1g_56⟩, C14_56, CR_56, ⟨zs15_56, HK15_56⟩, ⟨zs18_56, HK18_56⟩, ⟨zs21_56, HK21_56⟩, ⟨zs24_56, HK24_56⟩⟩ := id c55c
      show mT _ _ _ _ 132 [.ref 0, .long ((((((((((((((((d * 31) + ((nI ((S.1 i).length)).toInt64)) * 31) + ((q_mark (S.1 i) false).toInt64)) * 31) + ((q_mark (S.1 i) true).toInt64)) * 31) + (((msort (S.1 i)).2).toInt64)) * 31) + ((q_tiedPairsOfSorted (msort (S.1 i)).1).toInt64)) * 31) + ((q_runsInAll (S.1 i)).toInt64)) * 31) + ((q_longestRun (S.1 i)).toInt64)) * 31) + ((q_keysTogether (S.1 i)).toInt64)), .double 0, .int (nI i)] [.int (q_unlikeKeysOfSorted (msort (S.1 i)).1), .long (((((((((((((((((d * 31) + ((nI ((S.1 i).length)).toInt64)) * 31) + ((q_mark (S.1 i) false).toInt64)) * 31) + ((q_mark (S.1 i) true).toInt64)) * 31) + (((msort (S.1 i)).2).toInt64)) * 31) + ((q_tiedPairsOfSorted (msort (S.1 i)).1).toInt64)) * 31) + ((q_runsInAll (S.1 i)).toInt64)) * 31) + ((q_longestRun (S.1 i)).toInt64)) * 31) + ((q_keysTogether (S.1 i)).toInt64)) * 31)] _ _ _ _
      refine mt_i2l dX2_digest_132 ?_
      refine mt_ladd dX2_digest_133 ?_
      refine mp_lstore_n dX2_digest_134 (ls' := [.ref 0, .long ((((((((((((((((((d * 31) + ((nI ((S.1 i).length)).toInt64)) * 31) + ((q_mark (S.1 i) false).toInt64)) * 31) + ((q_mark (S.1 i) true).toInt64)) * 31) + (((msort (S.1 i)).2).toInt64)) * 31) + ((q_tiedPairsOfSorted (msort (S.1 i)).1).toInt64)) * 31) + ((q_runsInAll (S.1 i)).toInt64)) * 31) + ((q_longestRun (S.1 i)).toInt64)) * 31) + ((q_keysTogether (S.1 i)).toInt64)) * 31) + ((q_unlikeKeysOfSorted (msort (S.1 i)).1).toInt64)), .double 0, .int (nI i)]) rfl (by decide) rfl ?_
      refine mp_iinc dX2_digest_135 rfl (v := nI (i + 1)) mI_inc (ls' := [.ref 0, .long ((((((((((((((((((d * 31) + ((nI ((S.1 i).length)).toInt64)) * 31) + ((q_mark (S.1 i) false).toInt64)) * 31) + ((q_mark (S.1 i) true).toInt64)) * 31) + (((msort (S.1 i)).2).toInt64)) * 31) + ((q_tiedPairsOfSorted (msort (S.1 i)).1).toInt64)) * 31) + ((q_runsInAll (S.1 i)).toInt64)) * 31) + ((q_longestRun (S.1 i)).toInt64)) * 31) + ((q_keysTogether (S.1 i)).toInt64)) * 31) + ((q_unlikeKeysOfSorted (msort (S.1 i)).1).toInt64)), .double 0, .int (nI (i + 1))]) rfl (by decide) rfl ?_
      refine mt_goto dX2_digest_138 (tgt := 6) rfl ?_
      refine mt_widen (cc' := 10 * (i + 1)) (sc' := 60 * (i + 1)) (by first | omega | (simp only [rX2_many, rX2_mark, rX2_wrong, rX2_ties, rX2_runs, rX2_longest, rX2_sum, rX2_unlike, rX2_house, rX2_isSound, rX2_digest]; omega)) (by first | omega | (simp only [rX2_many, rX2_mark, rX2_wrong, rX2_ties, rX2_runs, rX2_longest, rX2_sum, rX2_unlike, rX2_house, rX2_isSound, rX2_digest]; omega)) ?_
      exact ih (i + 1) ((((((((((((((((((d * 31) + ((nI ((S.1 i).length)).toInt64)) * 31) + ((q_mark (S.1 i) false).toInt64)) * 31) + ((q_mark (S.1 i) true).toInt64)) * 31) + (((msort (S.1 i)).2).toInt64)) * 31) + ((q_tiedPairsOfSorted (msort (S.1 i)).1).toInt64)) * 31) + ((q_runsInAll (S.1 i)).toInt64)) * 31) + ((q_longestRun (S.1 i)).toInt64)) * 31) + ((q_keysTogether (S.1 i)).toInt64)) * 31) + ((q_unlikeKeysOfSorted (msort (S.1 i)).1).toInt64)) h53 (by omega) c55c (fun j hj => (c55e j hj).trans (hfr j hj)) ((mlp_go (f := dgRow S) (by omega) rfl).symm.trans hr) (by omega)
set_option maxRecDepth 100000 in
set_option maxHeartbeats 2000000 in
theorem tX2_digest_143 {l : Launch} {K : mK} {n : Nat} {S : cS} {r : Int64} {h0 : mH} (hl : l.stackTraces = false) (kk0 : ∀ (i : Nat) (h : mH) (d : Int64), (cAt h S) → (∀ j, 27 ≤ j → h j = h0 j) → (d = r) → mT l mX2_digest rX2_digest K 167 [.ref 0, .long d, .double 0, .int (nI i)] [] h n 46 276) : ∀ (N0 : Nat) (i : Nat) (d : Int64) (h : mH), (6 - i) < N0 → (cAt h S) → (∀ j, 27 ≤ j → h j = h0 j) → (mlp (dgHouse S) (6 - i) i d = r) → (i ≤ 6) → mT l mX2_digest rX2_digest K 143 [.ref 0, .long d, .double 0, .int (nI i)] [] h n (40 + i) (240 + 6 * i) := by
  intro N0
  induction N0 with
  | zero => intro i d h hm; exact absurd hm (Nat.not_lt_zero _)
  | succ N0 ih =>
    intro i d h hm C hfr hr hi
    obtain ⟨C0_1, ⟨cg_1, C1_1, C1g_1⟩, C14_1, CR_1, ⟨zs15_1, HK15_1⟩, ⟨zs18_1, HK18_1⟩, ⟨zs21_1, HK21_1⟩, ⟨zs24_1, HK24_1⟩⟩ := id C
    refine mt_iload_n dX2_digest_143 rfl ?_
    refine mt_iconst dX2_digest_144 (v := nI 5) rfl ?_
    refine mt_icmp_gt dX2_digest_145 (tgt := 167) rfl (fun q2 => ?_) (fun q2 => ?_)
    · have q2 := (nI_ltI (by omega) (by omega)).mp q2
      refine mt_widen (cc' := 46) (sc' := 276) (by first | omega | (simp only [rX2_many, rX2_mark, rX2_wrong, rX2_ties, rX2_runs, rX2_longest, rX2_sum, rX2_unlike, rX2_house, rX2_isSound, rX2_digest]; omega)) (by first | omega | (simp only [rX2_many, rX2_mark, rX2_wrong, rX2_ties, rX2_runs, rX2_longest, rX2_sum, rX2_unlike, rX2_house, rX2_isSound, rX2_digest]; omega)) ?_
      exact kk0 i h d C hfr ((mlp_end (f := dgHouse S) (by omega)).symm.trans hr)
    · have q2 := (not_congr (nI_ltI (by omega) (by omega))).mp q2
      refine mt_lload_n dX2_digest_148 rfl ?_
      refine mt_ldc2 (v := 31) dX2_digest_149 mw_225 ?_
      refine mt_lmul dX2_digest_152 ?_
      refine mt_aload_n dX2_digest_153 rfl rfl ?_
      refine mt_iload_n dX2_digest_154 rfl ?_
      have hs3 := house_s (S := S) (show i < 6 by omega)
      refine mt_callV (N := mX2_house) (Rc := rX2_house) (As := [.int (nI i)]) (st := [.long (d * 31)]) dX2_digest_155 (kX2_house hl C) sX2_house mw_367 mKX2 rfl C0_1 rfl (Nat.le_of_ble_eq_true rfl) ⟨⟨Nat.le_of_ble_eq_true rfl, Nat.le_of_ble_eq_true rfl⟩, (by simp only [rX2_many, rX2_mark, rX2_wrong, rX2_ties, rX2_runs, rX2_longest, rX2_sum, rX2_unlike, rX2_house, rX2_isSound, rX2_digest]; omega), (by simp only [rX2_many, rX2_mark, rX2_wrong, rX2_ties, rX2_runs, rX2_longest, rX2_sum, rX2_unlike, rX2_house, rX2_isSound, rX2_digest]; omega)⟩ (fun v4 h5 n6 c7 => ?_) (fun _ _ _ hx => (cNo_no (congrArg Prod.fst hs3) hx).elim)
      obtain ⟨c7a, c7b, c7c, c7d⟩ := c7.use hs3
      rw [c7a, c7b]
      obtain ⟨C0_8, ⟨cg_8, C1_8, C1g_8⟩, C14_8, CR_8, ⟨zs15_8, HK15_8⟩, ⟨zs18_8, HK18_8⟩, ⟨zs21_8, HK21_8⟩, ⟨zs24_8, HK24_8⟩⟩ := id c7c
      show mT _ _ _ _ 158 [.ref 0, .long d, .double 0, .int (nI i)] [.int (q_house S i), .long (d * 31)] _ _ _ _
      refine mt_i2l dX2_digest_158 ?_
      refine mt_ladd dX2_digest_159 ?_
      refine mp_lstore_n dX2_digest_160 (ls' := [.ref 0, .long ((d * 31) + ((q_house S i).toInt64)), .double 0, .int (nI i)]) rfl (by decide) rfl ?_
      refine mp_iinc dX2_digest_161 rfl (v := nI (i + 1)) mI_inc (ls' := [.ref 0, .long ((d * 31) + ((q_house S i).toInt64)), .double 0, .int (nI (i + 1))]) rfl (by decide) rfl ?_
      refine mt_goto dX2_digest_164 (tgt := 143) rfl ?_
      refine mt_widen (cc' := 40 + (i + 1)) (sc' := 240 + 6 * (i + 1)) (by first | omega | (simp only [rX2_many, rX2_mark, rX2_wrong, rX2_ties, rX2_runs, rX2_longest, rX2_sum, rX2_unlike, rX2_house, rX2_isSound, rX2_digest]; omega)) (by first | omega | (simp only [rX2_many, rX2_mark, rX2_wrong, rX2_ties, rX2_runs, rX2_longest, rX2_sum, rX2_unlike, rX2_house, rX2_isSound, rX2_digest]; omega)) ?_
      exact ih (i + 1) ((d * 31) + ((q_house S i).toInt64)) h5 (by omega) c7c (fun j hj => (c7d j hj).trans (hfr j hj)) ((mlp_go (f := dgHouse S) (by omega) rfl).symm.trans hr) (by omega)
set_option maxRecDepth 100000 in
set_option maxHeartbeats 2000000 in
theorem kX2_digest {l : Launch} (hl : l.stackTraces = false) {h : mH} {n : Nat} {S : cS} (C : cAt h S) : mC l mX2_digest rX2_digest [.ref 0] h n (cOk ((0 : Nat), Value.long (q_digest S), S) h n) (mNX) := by
  obtain ⟨C0_1, ⟨cg_1, C1_1, C1g_1⟩, C14_1, CR_1, ⟨zs15_1, HK15_1⟩, ⟨zs18_1, HK18_1⟩, ⟨zs21_1, HK21_1⟩, ⟨zs24_1, HK24_1⟩⟩ := id C
  refine mm_enter hl (by decide +kernel) rfl rfl rfl (Nat.le_of_ble_eq_true rfl) ?_
  show mT _ _ _ _ 0 [.ref 0, .double 0, .double 0, .double 0] [] _ _ 0 0
  refine mt_ldc2 (v := 8007) dX2_digest_0 mw_224 ?_
  refine mp_lstore_n dX2_digest_3 (ls' := [.ref 0, .long 8007, .double 0, .double 0]) rfl (by decide) rfl ?_
  refine mt_iconst dX2_digest_4 (v := nI 0) rfl ?_
  refine mp_istore_n dX2_digest_5 (ls' := [.ref 0, .long 8007, .double 0, .int (nI 0)]) rfl (by decide) rfl ?_
  refine tX2_digest_6 hl (fun i_2 h_3 d_4 z5 z6 z7 => ?_) _ 0 8007 h (Nat.lt_succ_self _) C (fun _ _ => rfl) rfl (by omega)
  obtain ⟨C0_8, ⟨cg_8, C1_8, C1g_8⟩, C14_8, CR_8, ⟨zs15_8, HK15_8⟩, ⟨zs18_8, HK18_8⟩, ⟨zs21_8, HK21_8⟩, ⟨zs24_8, HK24_8⟩⟩ := id z5
  refine mt_iconst dX2_digest_141 (v := nI 0) rfl ?_
  refine mp_istore_n dX2_digest_142 (ls' := [.ref 0, .long d_4, .double 0, .int (nI 0)]) rfl (by decide) rfl ?_
  refine tX2_digest_143 hl (fun i_9 h_10 d_11 z12 z13 z14 => ?_) _ 0 d_4 h_3 (Nat.lt_succ_self _) z5 (fun _ _ => rfl) rfl (by omega)
  obtain ⟨C0_15, ⟨cg_15, C1_15, C1g_15⟩, C14_15, CR_15, ⟨zs15_15, HK15_15⟩, ⟨zs18_15, HK18_15⟩, ⟨zs21_15, HK21_15⟩, ⟨zs24_15, HK24_15⟩⟩ := id z12
  refine mt_lload_n dX2_digest_167 rfl ?_
  refine mt_ldc2 (v := 31) dX2_digest_168 mw_225 ?_
  refine mt_lmul dX2_digest_171 ?_
  refine mt_aload_n dX2_digest_172 rfl rfl ?_
  have hs16 := (rfl : ((0 : Nat), Value.int (mb (q_sound S)), S) = (0, .int (mb (q_sound S)), S))
  refine mt_callV (N := mX2_isSound) (Rc := rX2_isSound) (As := []) (st := [.long (d_11 * 31)]) dX2_digest_173 (kX2_isSound hl z12) sX2_isSound mw_380 mKX2 rfl C0_15 rfl (Nat.le_of_ble_eq_true rfl) ⟨⟨Nat.le_of_ble_eq_true rfl, Nat.le_of_ble_eq_true rfl⟩, (by simp only [rX2_many, rX2_mark, rX2_wrong, rX2_ties, rX2_runs, rX2_longest, rX2_sum, rX2_unlike, rX2_house, rX2_isSound, rX2_digest]; omega), (by simp only [rX2_many, rX2_mark, rX2_wrong, rX2_ties, rX2_runs, rX2_longest, rX2_sum, rX2_unlike, rX2_house, rX2_isSound, rX2_digest]; omega)⟩ (fun v17 h18 n19 c20 => ?_) (fun _ _ _ hx => hx.elim)
  obtain ⟨c20a, c20b, c20c, c20d⟩ := c20.use hs16
  rw [c20a, c20b]
  obtain ⟨C0_21, ⟨cg_21, C1_21, C1g_21⟩, C14_21, CR_21, ⟨zs15_21, HK15_21⟩, ⟨zs18_21, HK18_21⟩, ⟨zs21_21, HK21_21⟩, ⟨zs24_21, HK24_21⟩⟩ := id c20c
  show mT _ _ _ _ 176 [.ref 0, .long d_11, .double 0, .int (nI i_9)] [.int (mb (q_sound S)), .long (d_11 * 31)] _ _ _ _
  refine mt_if_eq dX2_digest_176 (tgt := 183) rfl (fun q22 => ?_) (fun q22 => ?_)
  · have q22 : (q_sound S) = false := mb_0.mp q22
    refine mt_iconst dX2_digest_183 (v := nI 0) rfl ?_
    refine mt_i2l dX2_digest_184 ?_
    refine mt_ladd dX2_digest_185 ?_
    refine mt_lreturn dX2_digest_186 rfl (by simp only [rX2_many, rX2_mark, rX2_wrong, rX2_ties, rX2_runs, rX2_longest, rX2_sum, rX2_unlike, rX2_house, rX2_isSound, rX2_digest]; omega) (by simp only [rX2_many, rX2_mark, rX2_wrong, rX2_ties, rX2_runs, rX2_longest, rX2_sum, rX2_unlike, rX2_house, rX2_isSound, rX2_digest]; omega) ?_
    exact cOk.of (x := .long (q_digest S)) (S' := S) rfl (by rw [z14, z7]; simp only [q_digest, q22]; rfl) rfl c20c (fun j hj => (c20d j hj).trans ((z13 j hj).trans (z6 j hj)))
  · have q22 : (q_sound S) = true := mb_1.mp q22
    refine mt_iconst dX2_digest_179 (v := nI 1) rfl ?_
    refine mt_goto dX2_digest_180 (tgt := 184) rfl ?_
    refine mt_i2l dX2_digest_184 ?_
    refine mt_ladd dX2_digest_185 ?_
    refine mt_lreturn dX2_digest_186 rfl (by simp only [rX2_many, rX2_mark, rX2_wrong, rX2_ties, rX2_runs, rX2_longest, rX2_sum, rX2_unlike, rX2_house, rX2_isSound, rX2_digest]; omega) (by simp only [rX2_many, rX2_mark, rX2_wrong, rX2_ties, rX2_runs, rX2_longest, rX2_sum, rX2_unlike, rX2_house, rX2_isSound, rX2_digest]; omega) ?_
    exact cOk.of (x := .long (q_digest S)) (S' := S) rfl (by rw [z14, z7]; simp only [q_digest, q22]; rfl) rfl c20c (fun j hj => (c20d j hj).trans ((z13 j hj).trans (z6 j hj)))
