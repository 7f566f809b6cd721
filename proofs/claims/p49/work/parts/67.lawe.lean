/-! ===== the law: asked ===== -/
abbrev rL_isAsked : Room := { frames := 9, cells := 1200, slots := 14000, locals := 190 }
set_option maxRecDepth 100000 in
set_option maxHeartbeats 2000000 in
theorem tL_isAsked_15 {l : Launch} {K : mK} {n r : Nat} {X : List mIt} {S : cS} {dg : Int64} (hl : l.stackTraces = false) (hr : r < 4) (hL : X.length ≤ 320) (hX : S.1 r = X) (kk0 : ∀ (h : mH), (cAt h S) → mT l mL_isAsked rL_isAsked K 109 [.ref 0, .int (nI r), .long dg, .double 0, .int (nI X.length), .double 0] [] h n 500 5000) : ∀ (N0 : Nat) (k : Nat) (h : mH), (6 - k) < N0 → (cAt h S) → (k ≤ 5) → mT l mL_isAsked rL_isAsked K 15 [.ref 0, .int (nI r), .long dg, .double 0, .int (nI X.length), .int (nI k)] [] h n (200 + 40 * k) (2000 + 300 * k) := by
  intro N0
  induction N0 with
  | zero => intro k h hm; exact absurd hm (Nat.not_lt_zero _)
  | succ N0 ih =>
    intro k h hm C hk5
    refine mt_iload dL_isAsked_15 rfl ?_
    refine mt_iload dL_isAsked_17 rfl ?_
    refine mt_icmp_ge dL_isAsked_19 (tgt := 109) rfl (fun q1 => ?_) (fun q1 => ?_)
    · have q1 := Int32.not_lt.mpr q1
      have q1 := (not_congr (nI_ltI (by omega) (by omega))).mp q1
      refine mt_drop 5 (ls' := [.ref 0, .int (nI r), .long dg, .double 0, .int (nI X.length), .double 0]) rfl ?_
      refine mt_widen (cc' := 500) (sc' := 5000) (by first | omega | (simp only [rX2_digest, rX2_many, rX2_rank, rX2_would, rX2_key, rX2_wouldStamp, rX2_stamp, rX2_wrongAt, rX2_runAt, rX2_longest, rX2_after, rX2_wrong, rX2_text, rJ0_isEmpty_aae02, rX2_unlike, rX2_count, rX2_below, rX2_first, rX2_same, rX2_bag, rX2_isSound, rL_isAsked]; omega)) (by first | omega | (simp only [rX2_digest, rX2_many, rX2_rank, rX2_would, rX2_key, rX2_wouldStamp, rX2_stamp, rX2_wrongAt, rX2_runAt, rX2_longest, rX2_after, rX2_wrong, rX2_text, rJ0_isEmpty_aae02, rX2_unlike, rX2_count, rX2_below, rX2_first, rX2_same, rX2_bag, rX2_isSound, rL_isAsked]; omega)) ?_
      exact kk0 h C
    · have q1 := Int32.not_le.mp q1
      have q1 := (nI_ltI (by omega) (by omega)).mp q1
      refine mt_iload dL_isAsked_22 rfl ?_
      refine mt_iconst dL_isAsked_24 (v := nI 5) rfl ?_
      refine mt_icmp_ge dL_isAsked_25 (tgt := 109) rfl (fun q2 => ?_) (fun q2 => ?_)
      · have q2 := Int32.not_lt.mpr q2
        have q2 := (not_congr (nI_ltI (by omega) (by omega))).mp q2
        refine mt_drop 5 (ls' := [.ref 0, .int (nI r), .long dg, .double 0, .int (nI X.length), .double 0]) rfl ?_
        refine mt_widen (cc' := 500) (sc' := 5000) (by first | omega | (simp only [rX2_digest, rX2_many, rX2_rank, rX2_would, rX2_key, rX2_wouldStamp, rX2_stamp, rX2_wrongAt, rX2_runAt, rX2_longest, rX2_after, rX2_wrong, rX2_text, rJ0_isEmpty_aae02, rX2_unlike, rX2_count, rX2_below, rX2_first, rX2_same, rX2_bag, rX2_isSound, rL_isAsked]; omega)) (by first | omega | (simp only [rX2_digest, rX2_many, rX2_rank, rX2_would, rX2_key, rX2_wouldStamp, rX2_stamp, rX2_wrongAt, rX2_runAt, rX2_longest, rX2_after, rX2_wrong, rX2_text, rJ0_isEmpty_aae02, rX2_unlike, rX2_count, rX2_below, rX2_first, rX2_same, rX2_bag, rX2_isSound, rL_isAsked]; omega)) ?_
        exact kk0 h C
      · have q2 := Int32.not_le.mp q2
        have q2 := (nI_ltI (by omega) (by omega)).mp q2
        have hk9 : k < X.length := by omega
        obtain ⟨hrk, hri⟩ := lf_rank hk9
        obtain ⟨c1, hc1, ec1⟩ := lf_wrongAt hk9
        obtain ⟨m1, hm1, em1, hm2⟩ := lf_longest hL
        have hm3 := hm2 k hk9
        refine mt_aload_n dL_isAsked_28 rfl rfl ?_
        refine mt_iload_n dL_isAsked_29 rfl ?_
        refine mt_aload_n dL_isAsked_30 rfl rfl ?_
        refine mt_iload_n dL_isAsked_31 rfl ?_
        refine mt_iload dL_isAsked_32 rfl ?_
        refine mt_callV (N := mX2_rank) (Rc := rX2_rank) (As := [.int (nI r), .int (nI k)]) (st := [.int (nI r), .ref 0]) dL_isAsked_34 ((kX2_rank hl C).good (v := .int (nI (rankf X k))) (S' := S) (by rw [g_rank (lenOk_of C) hr (by rw [hX]; omega), hX])) sX2_rank mw_479 mKX2 rfl C.1 rfl (Nat.le_of_ble_eq_true rfl) ⟨⟨Nat.le_of_ble_eq_true rfl, Nat.le_of_ble_eq_true rfl⟩, (by simp only [rX2_digest, rX2_many, rX2_rank, rX2_would, rX2_key, rX2_wouldStamp, rX2_stamp, rX2_wrongAt, rX2_runAt, rX2_longest, rX2_after, rX2_wrong, rX2_text, rJ0_isEmpty_aae02, rX2_unlike, rX2_count, rX2_below, rX2_first, rX2_same, rX2_bag, rX2_isSound, rL_isAsked]; omega), (by simp only [rX2_digest, rX2_many, rX2_rank, rX2_would, rX2_key, rX2_wouldStamp, rX2_stamp, rX2_wrongAt, rX2_runAt, rX2_longest, rX2_after, rX2_wrong, rX2_text, rJ0_isEmpty_aae02, rX2_unlike, rX2_count, rX2_below, rX2_first, rX2_same, rX2_bag, rX2_isSound, rL_isAsked]; omega)⟩ (fun v3 h4 n5 c6 => ?_) (fun _ _ _ hx => hx.elim)
        obtain ⟨c6a, c6b, c6c, c6d⟩ := c6
        rw [c6a, c6b]
        show mT _ _ _ _ 37 [.ref 0, .int (nI r), .long dg, .double 0, .int (nI X.length), .int (nI k)] [.int (nI (rankf X k)), .int (nI r), .ref 0] _ _ _ _
        refine mt_callV (N := mX2_would) (Rc := rX2_would) (As := [.int (nI r), .int (nI (rankf X k))]) (st := []) dL_isAsked_37 ((kX2_would hl c6c).good (v := .int (xk (msort X).1 (rankf X k))) (S' := S) (by rw [g_would (lenOk_of c6c) hr (by rw [hX]; omega), hX])) sX2_would mw_571 mKX2 rfl c6c.1 rfl (Nat.le_of_ble_eq_true rfl) ⟨⟨Nat.le_of_ble_eq_true rfl, Nat.le_of_ble_eq_true rfl⟩, (by simp only [rX2_digest, rX2_many, rX2_rank, rX2_would, rX2_key, rX2_wouldStamp, rX2_stamp, rX2_wrongAt, rX2_runAt, rX2_longest, rX2_after, rX2_wrong, rX2_text, rJ0_isEmpty_aae02, rX2_unlike, rX2_count, rX2_below, rX2_first, rX2_same, rX2_bag, rX2_isSound, rL_isAsked]; omega), (by simp only [rX2_digest, rX2_many, rX2_rank, rX2_would, rX2_key, rX2_wouldStamp, rX2_stamp, rX2_wrongAt, rX2_runAt, rX2_longest, rX2_after, rX2_wrong, rX2_text, rJ0_isEmpty_aae02, rX2_unlike, rX2_count, rX2_below, rX2_first, rX2_same, rX2_bag, rX2_isSound, rL_isAsked]; omega)⟩ (fun v7 h8 n9 c10 => ?_) (fun _ _ _ hx => hx.elim)
        obtain ⟨c10a, c10b, c10c, c10d⟩ := c10
        rw [c10a, c10b]
        show mT _ _ _ _ 40 [.ref 0, .int (nI r), .long dg, .double 0, .int (nI X.length), .int (nI k)] [.int (xk (msort X).1 (rankf X k))] _ _ _ _
        refine mt_aload_n dL_isAsked_40 rfl rfl ?_
        refine mt_iload_n dL_isAsked_41 rfl ?_
        refine mt_iload dL_isAsked_42 rfl ?_
        refine mt_callV (N := mX2_key) (Rc := rX2_key) (As := [.int (nI r), .int (nI k)]) (st := [.int (xk (msort X).1 (rankf X k))]) dL_isAsked_44 ((kX2_key hl c10c).good (v := .int (xk X k)) (S' := S) (by rw [g_key (lenOk_of c10c) hr (by rw [hX]; omega), hX])) sX2_key mw_468 mKX2 rfl c10c.1 rfl (Nat.le_of_ble_eq_true rfl) ⟨⟨Nat.le_of_ble_eq_true rfl, Nat.le_of_ble_eq_true rfl⟩, (by simp only [rX2_digest, rX2_many, rX2_rank, rX2_would, rX2_key, rX2_wouldStamp, rX2_stamp, rX2_wrongAt, rX2_runAt, rX2_longest, rX2_after, rX2_wrong, rX2_text, rJ0_isEmpty_aae02, rX2_unlike, rX2_count, rX2_below, rX2_first, rX2_same, rX2_bag, rX2_isSound, rL_isAsked]; omega), (by simp only [rX2_digest, rX2_many, rX2_rank, rX2_would, rX2_key, rX2_wouldStamp, rX2_stamp, rX2_wrongAt, rX2_runAt, rX2_longest, rX2_after, rX2_wrong, rX2_text, rJ0_isEmpty_aae02, rX2_unlike, rX2_count, rX2_below, rX2_first, rX2_same, rX2_bag, rX2_isSound, rL_isAsked]; omega)⟩ (fun v11 h12 n13 c14 => ?_) (fun _ _ _ hx => hx.elim)
        obtain ⟨c14a, c14b, c14c, c14d⟩ := c14
        rw [c14a, c14b]
        show mT _ _ _ _ 47 [.ref 0, .int (nI r), .long dg, .double 0, .int (nI X.length), .int (nI k)] [.int (xk X k), .int (xk (msort X).1 (rankf X k))] _ _ _ _
        refine mt_icmp_ne dL_isAsked_47 (tgt := 101) rfl (fun q9 => absurd q9 (fun z => z (congrArg Prod.fst hri))) (fun q9 => ?_)
        refine mt_aload_n dL_isAsked_50 rfl rfl ?_
        refine mt_iload_n dL_isAsked_51 rfl ?_
        refine mt_aload_n dL_isAsked_52 rfl rfl ?_
        refine mt_iload_n dL_isAsked_53 rfl ?_
        refine mt_iload dL_isAsked_54 rfl ?_
        refine mt_callV (N := mX2_rank) (Rc := rX2_rank) (As := [.int (nI r), .int (nI k)]) (st := [.int (nI r), .ref 0]) dL_isAsked_56 ((kX2_rank hl c14c).good (v := .int (nI (rankf X k))) (S' := S) (by rw [g_rank (lenOk_of c14c) hr (by rw [hX]; omega), hX])) sX2_rank mw_479 mKX2 rfl c14c.1 rfl (Nat.le_of_ble_eq_true rfl) ⟨⟨Nat.le_of_ble_eq_true rfl, Nat.le_of_ble_eq_true rfl⟩, (by simp only [rX2_digest, rX2_many, rX2_rank, rX2_would, rX2_key, rX2_wouldStamp, rX2_stamp, rX2_wrongAt, rX2_runAt, rX2_longest, rX2_after, rX2_wrong, rX2_text, rJ0_isEmpty_aae02, rX2_unlike, rX2_count, rX2_below, rX2_first, rX2_same, rX2_bag, rX2_isSound, rL_isAsked]; omega), (by simp only [rX2_digest, rX2_many, rX2_rank, rX2_would, rX2_key, rX2_wouldStamp, rX2_stamp, rX2_wrongAt, rX2_runAt, rX2_longest, rX2_after, rX2_wrong, rX2_text, rJ0_isEmpty_aae02, rX2_unlike, rX2_count, rX2_below, rX2_first, rX2_same, rX2_bag, rX2_isSound, rL_isAsked]; omega)⟩ (fun v15 h16 n17 c18 => ?_) (fun _ _ _ hx => hx.elim)
        obtain ⟨c18a, c18b, c18c, c18d⟩ := c18
        rw [c18a, c18b]
        show mT _ _ _ _ 59 [.ref 0, .int (nI r), .long dg, .double 0, .int (nI X.length), .int (nI k)] [.int (nI (rankf X k)), .int (nI r), .ref 0] _ _ _ _
        refine mt_callV (N := mX2_wouldStamp) (Rc := rX2_wouldStamp) (As := [.int (nI r), .int (nI (rankf X k))]) (st := []) dL_isAsked_59 ((kX2_wouldStamp hl c18c).good (v := .int (xt (msort X).1 (rankf X k))) (S' := S) (by rw [g_wouldStamp (lenOk_of c18c) hr (by rw [hX]; omega), hX])) sX2_wouldStamp mw_575 mKX2 rfl c18c.1 rfl (Nat.le_of_ble_eq_true rfl) ⟨⟨Nat.le_of_ble_eq_true rfl, Nat.le_of_ble_eq_true rfl⟩, (by simp only [rX2_digest, rX2_many, rX2_rank, rX2_would, rX2_key, rX2_wouldStamp, rX2_stamp, rX2_wrongAt, rX2_runAt, rX2_longest, rX2_after, rX2_wrong, rX2_text, rJ0_isEmpty_aae02, rX2_unlike, rX2_count, rX2_below, rX2_first, rX2_same, rX2_bag, rX2_isSound, rL_isAsked]; omega), (by simp only [rX2_digest, rX2_many, rX2_rank, rX2_would, rX2_key, rX2_wouldStamp, rX2_stamp, rX2_wrongAt, rX2_runAt, rX2_longest, rX2_after, rX2_wrong, rX2_text, rJ0_isEmpty_aae02, rX2_unlike, rX2_count, rX2_below, rX2_first, rX2_same, rX2_bag, rX2_isSound, rL_isAsked]; omega)⟩ (fun v19 h20 n21 c22 => ?_) (fun _ _ _ hx => hx.elim)
        obtain ⟨c22a, c22b, c22c, c22d⟩ := c22
        rw [c22a, c22b]
        show mT _ _ _ _ 62 [.ref 0, .int (nI r), .long dg, .double 0, .int (nI X.length), .int (nI k)] [.int (xt (msort X).1 (rankf X k))] _ _ _ _
        refine mt_aload_n dL_isAsked_62 rfl rfl ?_
        refine mt_iload_n dL_isAsked_63 rfl ?_
        refine mt_iload dL_isAsked_64 rfl ?_
        refine mt_callV (N := mX2_stamp) (Rc := rX2_stamp) (As := [.int (nI r), .int (nI k)]) (st := [.int (xt (msort X).1 (rankf X k))]) dL_isAsked_66 ((kX2_stamp hl c22c).good (v := .int (xt X k)) (S' := S) (by rw [g_stamp (lenOk_of c22c) hr (by rw [hX]; omega), hX])) sX2_stamp mw_475 mKX2 rfl c22c.1 rfl (Nat.le_of_ble_eq_true rfl) ⟨⟨Nat.le_of_ble_eq_true rfl, Nat.le_of_ble_eq_true rfl⟩, (by simp only [rX2_digest, rX2_many, rX2_rank, rX2_would, rX2_key, rX2_wouldStamp, rX2_stamp, rX2_wrongAt, rX2_runAt, rX2_longest, rX2_after, rX2_wrong, rX2_text, rJ0_isEmpty_aae02, rX2_unlike, rX2_count, rX2_below, rX2_first, rX2_same, rX2_bag, rX2_isSound, rL_isAsked]; omega), (by simp only [rX2_digest, rX2_many, rX2_rank, rX2_would, rX2_key, rX2_wouldStamp, rX2_stamp, rX2_wrongAt, rX2_runAt, rX2_longest, rX2_after, rX2_wrong, rX2_text, rJ0_isEmpty_aae02, rX2_unlike, rX2_count, rX2_below, rX2_first, rX2_same, rX2_bag, rX2_isSound, rL_isAsked]; omega)⟩ (fun v23 h24 n25 c26 => ?_) (fun _ _ _ hx => hx.elim)
        obtain ⟨c26a, c26b, c26c, c26d⟩ := c26
        rw [c26a, c26b]
        show mT _ _ _ _ 69 [.ref 0, .int (nI r), .long dg, .double 0, .int (nI X.length), .int (nI k)] [.int (xt X k), .int (xt (msort X).1 (rankf X k))] _ _ _ _
        refine mt_icmp_ne dL_isAsked_69 (tgt := 101) rfl (fun q9 => absurd q9 (fun z => z (congrArg Prod.snd hri))) (fun q9 => ?_)
        refine mt_aload_n dL_isAsked_72 rfl rfl ?_
        refine mt_iload_n dL_isAsked_73 rfl ?_
        refine mt_iload dL_isAsked_74 rfl ?_
        refine mt_callV (N := mX2_wrongAt) (Rc := rX2_wrongAt) (As := [.int (nI r), .int (nI k)]) (st := []) dL_isAsked_76 ((kX2_wrongAt hl c26c).good (v := .int (nI c1)) (S' := S) (by rw [g_wrongAt (lenOk_of c26c) hr (by rw [hX]; omega), hX, ec1])) sX2_wrongAt mw_579 mKX2 rfl c26c.1 rfl (Nat.le_of_ble_eq_true rfl) ⟨⟨Nat.le_of_ble_eq_true rfl, Nat.le_of_ble_eq_true rfl⟩, (by simp only [rX2_digest, rX2_many, rX2_rank, rX2_would, rX2_key, rX2_wouldStamp, rX2_stamp, rX2_wrongAt, rX2_runAt, rX2_longest, rX2_after, rX2_wrong, rX2_text, rJ0_isEmpty_aae02, rX2_unlike, rX2_count, rX2_below, rX2_first, rX2_same, rX2_bag, rX2_isSound, rL_isAsked]; omega), (by simp only [rX2_digest, rX2_many, rX2_rank, rX2_would, rX2_key, rX2_wouldStamp, rX2_stamp, rX2_wrongAt, rX2_runAt, rX2_longest, rX2_after, rX2_wrong, rX2_text, rJ0_isEmpty_aae02, rX2_unlike, rX2_count, rX2_below, rX2_first, rX2_same, rX2_bag, rX2_isSound, rL_isAsked]; omega)⟩ (fun v27 h28 n29 c30 => ?_) (fun _ _ _ hx => hx.elim)
        obtain ⟨c30a, c30b, c30c, c30d⟩ := c30
        rw [c30a, c30b]
        show mT _ _ _ _ 79 [.ref 0, .int (nI r), .long dg, .double 0, .int (nI X.length), .int (nI k)] [.int (nI c1)] _ _ _ _
        refine mt_iload dL_isAsked_79 rfl ?_
        refine mt_iconst dL_isAsked_81 (v := nI 1) rfl ?_
        refine mp_isub dL_isAsked_82 (v := nI (X.length - 1)) (pk_sub (by omega)) ?_
        refine mt_icmp_gt dL_isAsked_83 (tgt := 101) rfl (fun q9 => absurd q9 (nI_nlt (by omega) (by omega))) (fun q9 => ?_)
        refine mt_aload_n dL_isAsked_86 rfl rfl ?_
        refine mt_iload_n dL_isAsked_87 rfl ?_
        refine mt_iload dL_isAsked_88 rfl ?_
        refine mt_callV (N := mX2_runAt) (Rc := rX2_runAt) (As := [.int (nI r), .int (nI k)]) (st := []) dL_isAsked_90 ((kX2_runAt hl c30c).good (v := .int (nI (q_endOfRun X k - k))) (S' := S) (by rw [g_runAt (lenOk_of c30c) hr (by rw [hX]; omega), hX])) sX2_runAt mw_587 mKX2 rfl c30c.1 rfl (Nat.le_of_ble_eq_true rfl) ⟨⟨Nat.le_of_ble_eq_true rfl, Nat.le_of_ble_eq_true rfl⟩, (by simp only [rX2_digest, rX2_many, rX2_rank, rX2_would, rX2_key, rX2_wouldStamp, rX2_stamp, rX2_wrongAt, rX2_runAt, rX2_longest, rX2_after, rX2_wrong, rX2_text, rJ0_isEmpty_aae02, rX2_unlike, rX2_count, rX2_below, rX2_first, rX2_same, rX2_bag, rX2_isSound, rL_isAsked]; omega), (by simp only [rX2_digest, rX2_many, rX2_rank, rX2_would, rX2_key, rX2_wouldStamp, rX2_stamp, rX2_wrongAt, rX2_runAt, rX2_longest, rX2_after, rX2_wrong, rX2_text, rJ0_isEmpty_aae02, rX2_unlike, rX2_count, rX2_below, rX2_first, rX2_same, rX2_bag, rX2_isSound, rL_isAsked]; omega)⟩ (fun v31 h32 n33 c34 => ?_) (fun _ _ _ hx => hx.elim)
        obtain ⟨c34a, c34b, c34c, c34d⟩ := c34
        rw [c34a, c34b]
        show mT _ _ _ _ 93 [.ref 0, .int (nI r), .long dg, .double 0, .int (nI X.length), .int (nI k)] [.int (nI (q_endOfRun X k - k))] _ _ _ _
        refine mt_aload_n dL_isAsked_93 rfl rfl ?_
        refine mt_iload_n dL_isAsked_94 rfl ?_
        refine mt_callV (N := mX2_longest) (Rc := rX2_longest) (As := [.int (nI r)]) (st := [.int (nI (q_endOfRun X k - k))]) dL_isAsked_95 ((kX2_longest hl c34c).good (v := .int (nI m1)) (S' := S) (by rw [g_longest hr, hX, em1])) sX2_longest mw_595 mKX2 rfl c34c.1 rfl (Nat.le_of_ble_eq_true rfl) ⟨⟨Nat.le_of_ble_eq_true rfl, Nat.le_of_ble_eq_true rfl⟩, (by simp only [rX2_digest, rX2_many, rX2_rank, rX2_would, rX2_key, rX2_wouldStamp, rX2_stamp, rX2_wrongAt, rX2_runAt, rX2_longest, rX2_after, rX2_wrong, rX2_text, rJ0_isEmpty_aae02, rX2_unlike, rX2_count, rX2_below, rX2_first, rX2_same, rX2_bag, rX2_isSound, rL_isAsked]; omega), (by simp only [rX2_digest, rX2_many, rX2_rank, rX2_would, rX2_key, rX2_wouldStamp, rX2_stamp, rX2_wrongAt, rX2_runAt, rX2_longest, rX2_after, rX2_wrong, rX2_text, rJ0_isEmpty_aae02, rX2_unlike, rX2_count, rX2_below, rX2_first, rX2_same, rX2_bag, rX2_isSound, rL_isAsked]; omega)⟩ (fun v35 h36 n37 c38 => ?_) (fun _ _ _ hx => hx.elim)
        obtain ⟨c38a, c38b, c38c, c38d⟩ := c38
        rw [c38a, c38b]
        show mT _ _ _ _ 98 [.ref 0, .int (nI r), .long dg, .double 0, .int (nI X.length), .int (nI k)] [.int (nI m1), .int (nI (q_endOfRun X k - k))] _ _ _ _
        refine mt_icmp_le dL_isAsked_98 (tgt := 103) rfl (fun q9 => ?_) (fun q9 => absurd q9 (fun z => z (Int32.not_lt.mp (nI_nlt (by omega) (by omega)))))
        refine mp_iinc dL_isAsked_103 rfl (v := nI (k + 1)) mI_inc (ls' := [.ref 0, .int (nI r), .long dg, .double 0, .int (nI X.length), .int (nI (k + 1))]) rfl (by decide) rfl ?_
        refine mt_goto dL_isAsked_106 (tgt := 15) rfl ?_
        refine mt_widen (cc' := 200 + 40 * (k + 1)) (sc' := 2000 + 300 * (k + 1)) (by first | omega | (simp only [rX2_digest, rX2_many, rX2_rank, rX2_would, rX2_key, rX2_wouldStamp, rX2_stamp, rX2_wrongAt, rX2_runAt, rX2_longest, rX2_after, rX2_wrong, rX2_text, rJ0_isEmpty_aae02, rX2_unlike, rX2_count, rX2_below, rX2_first, rX2_same, rX2_bag, rX2_isSound, rL_isAsked]; omega)) (by first | omega | (simp only [rX2_digest, rX2_many, rX2_rank, rX2_would, rX2_key, rX2_wouldStamp, rX2_stamp, rX2_wrongAt, rX2_runAt, rX2_longest, rX2_after, rX2_wrong, rX2_text, rJ0_isEmpty_aae02, rX2_unlike, rX2_count, rX2_below, rX2_first, rX2_same, rX2_bag, rX2_isSound, rL_isAsked]; omega)) ?_
        exact ih (k + 1) h36 (by omega) c38c (by omega)
set_option maxRecDepth 100000 in
set_option maxHeartbeats 2000000 in
theorem tL_isAsked_112 {l : Launch} {K : mK} {n r : Nat} {X : List mIt} {S : cS} {dg : Int64} (hl : l.stackTraces = false) (hr : r < 4) (hL : X.length ≤ 320) (hX : S.1 r = X) (kk0 : ∀ (h : mH), (cAt h S) → mT l mL_isAsked rL_isAsked K 156 [.ref 0, .int (nI r), .long dg, .double 0, .int (nI X.length), .double 0] [] h n 1000 8000) : ∀ (N0 : Nat) (k : Nat) (h : mH), (6 - k) < N0 → (cAt h S) → (k ≤ 5) → mT l mL_isAsked rL_isAsked K 112 [.ref 0, .int (nI r), .long dg, .double 0, .int (nI X.length), .int (nI k)] [] h n (600 + 40 * k) (6000 + 300 * k) := by
  intro N0
  induction N0 with
  | zero => intro k h hm; exact absurd hm (Nat.not_lt_zero _)
  | succ N0 ih =>
    intro k h hm C hk5
    refine mt_iload dL_isAsked_112 rfl ?_
    refine mt_iconst dL_isAsked_114 (v := nI 1) rfl ?_
    refine mp_iadd dL_isAsked_115 (v := nI (k + 1)) (nI_add _ _) ?_
    refine mt_iload dL_isAsked_116 rfl ?_
    refine mt_icmp_ge dL_isAsked_118 (tgt := 156) rfl (fun q1 => ?_) (fun q1 => ?_)
    · have q1 := Int32.not_lt.mpr q1
      have q1 := (not_congr (nI_ltI (by omega) (by omega))).mp q1
      refine mt_drop 5 (ls' := [.ref 0, .int (nI r), .long dg, .double 0, .int (nI X.length), .double 0]) rfl ?_
      refine mt_widen (cc' := 1000) (sc' := 8000) (by first | omega | (simp only [rX2_digest, rX2_many, rX2_rank, rX2_would, rX2_key, rX2_wouldStamp, rX2_stamp, rX2_wrongAt, rX2_runAt, rX2_longest, rX2_after, rX2_wrong, rX2_text, rJ0_isEmpty_aae02, rX2_unlike, rX2_count, rX2_below, rX2_first, rX2_same, rX2_bag, rX2_isSound, rL_isAsked]; omega)) (by first | omega | (simp only [rX2_digest, rX2_many, rX2_rank, rX2_would, rX2_key, rX2_wouldStamp, rX2_stamp, rX2_wrongAt, rX2_runAt, rX2_longest, rX2_after, rX2_wrong, rX2_text, rJ0_isEmpty_aae02, rX2_unlike, rX2_count, rX2_below, rX2_first, rX2_same, rX2_bag, rX2_isSound, rL_isAsked]; omega)) ?_
      exact kk0 h C
    · have q1 := Int32.not_le.mp q1
      have q1 := (nI_ltI (by omega) (by omega)).mp q1
      refine mt_iload dL_isAsked_121 rfl ?_
      refine mt_iconst dL_isAsked_123 (v := nI 5) rfl ?_
      refine mt_icmp_ge dL_isAsked_124 (tgt := 156) rfl (fun q2 => ?_) (fun q2 => ?_)
      · have q2 := Int32.not_lt.mpr q2
        have q2 := (not_congr (nI_ltI (by omega) (by omega))).mp q2
        refine mt_drop 5 (ls' := [.ref 0, .int (nI r), .long dg, .double 0, .int (nI X.length), .double 0]) rfl ?_
        refine mt_widen (cc' := 1000) (sc' := 8000) (by first | omega | (simp only [rX2_digest, rX2_many, rX2_rank, rX2_would, rX2_key, rX2_wouldStamp, rX2_stamp, rX2_wrongAt, rX2_runAt, rX2_longest, rX2_after, rX2_wrong, rX2_text, rJ0_isEmpty_aae02, rX2_unlike, rX2_count, rX2_below, rX2_first, rX2_same, rX2_bag, rX2_isSound, rL_isAsked]; omega)) (by first | omega | (simp only [rX2_digest, rX2_many, rX2_rank, rX2_would, rX2_key, rX2_wouldStamp, rX2_stamp, rX2_wrongAt, rX2_runAt, rX2_longest, rX2_after, rX2_wrong, rX2_text, rJ0_isEmpty_aae02, rX2_unlike, rX2_count, rX2_below, rX2_first, rX2_same, rX2_bag, rX2_isSound, rL_isAsked]; omega)) ?_
        exact kk0 h C
      · have q2 := Int32.not_le.mp q2
        have q2 := (nI_ltI (by omega) (by omega)).mp q2
        have hk9 : k + 1 < X.length := by omega
        refine mt_aload_n dL_isAsked_127 rfl rfl ?_
        refine mt_iload_n dL_isAsked_128 rfl ?_
        refine mt_iload dL_isAsked_129 rfl ?_
        refine mt_callV (N := mX2_after) (Rc := rX2_after) (As := [.int (nI r), .int (nI k)]) (st := []) dL_isAsked_131 ((kX2_after hl C).good (v := .int ((msort X).2 + q_wrongerByExchange X k)) (S' := S) (by rw [g_after (lenOk_of C) hr (by rw [hX]; omega), hX])) sX2_after mw_596 mKX2 rfl C.1 rfl (Nat.le_of_ble_eq_true rfl) ⟨⟨Nat.le_of_ble_eq_true rfl, Nat.le_of_ble_eq_true rfl⟩, (by simp only [rX2_digest, rX2_many, rX2_rank, rX2_would, rX2_key, rX2_wouldStamp, rX2_stamp, rX2_wrongAt, rX2_runAt, rX2_longest, rX2_after, rX2_wrong, rX2_text, rJ0_isEmpty_aae02, rX2_unlike, rX2_count, rX2_below, rX2_first, rX2_same, rX2_bag, rX2_isSound, rL_isAsked]; omega), (by simp only [rX2_digest, rX2_many, rX2_rank, rX2_would, rX2_key, rX2_wouldStamp, rX2_stamp, rX2_wrongAt, rX2_runAt, rX2_longest, rX2_after, rX2_wrong, rX2_text, rJ0_isEmpty_aae02, rX2_unlike, rX2_count, rX2_below, rX2_first, rX2_same, rX2_bag, rX2_isSound, rL_isAsked]; omega)⟩ (fun v3 h4 n5 c6 => ?_) (fun _ _ _ hx => hx.elim)
        obtain ⟨c6a, c6b, c6c, c6d⟩ := c6
        rw [c6a, c6b]
        show mT _ _ _ _ 134 [.ref 0, .int (nI r), .long dg, .double 0, .int (nI X.length), .int (nI k)] [.int ((msort X).2 + q_wrongerByExchange X k)] _ _ _ _
        refine mt_aload_n dL_isAsked_134 rfl rfl ?_
        refine mt_iload_n dL_isAsked_135 rfl ?_
        refine mt_iconst dL_isAsked_136 (v := nI 0) rfl ?_
        refine mt_callV (N := mX2_wrong) (Rc := rX2_wrong) (As := [.int (nI r), .int (nI 0)]) (st := [.int ((msort X).2 + q_wrongerByExchange X k)]) dL_isAsked_137 ((kX2_wrong hl c6c).good (v := .int ((msort X).2)) (S' := S) (by rw [g_wrong0 hr, hX])) sX2_wrong mw_436 mKX2 rfl c6c.1 rfl (Nat.le_of_ble_eq_true rfl) ⟨⟨Nat.le_of_ble_eq_true rfl, Nat.le_of_ble_eq_true rfl⟩, (by simp only [rX2_digest, rX2_many, rX2_rank, rX2_would, rX2_key, rX2_wouldStamp, rX2_stamp, rX2_wrongAt, rX2_runAt, rX2_longest, rX2_after, rX2_wrong, rX2_text, rJ0_isEmpty_aae02, rX2_unlike, rX2_count, rX2_below, rX2_first, rX2_same, rX2_bag, rX2_isSound, rL_isAsked]; omega), (by simp only [rX2_digest, rX2_many, rX2_rank, rX2_would, rX2_key, rX2_wouldStamp, rX2_stamp, rX2_wrongAt, rX2_runAt, rX2_longest, rX2_after, rX2_wrong, rX2_text, rJ0_isEmpty_aae02, rX2_unlike, rX2_count, rX2_below, rX2_first, rX2_same, rX2_bag, rX2_isSound, rL_isAsked]; omega)⟩ (fun v7 h8 n9 c10 => ?_) (fun _ _ _ hx => hx.elim)
        obtain ⟨c10a, c10b, c10c, c10d⟩ := c10
        rw [c10a, c10b]
        show mT _ _ _ _ 140 [.ref 0, .int (nI r), .long dg, .double 0, .int (nI X.length), .int (nI k)] [.int ((msort X).2), .int ((msort X).2 + q_wrongerByExchange X k)] _ _ _ _
        refine mp_isub dL_isAsked_140 (v := q_wrongerByExchange X k) (lf_diff _ _) ?_
        obtain ⟨c9, hc9, ec9⟩ := lf_abs (lf_wx X k)
        refine mt_mabs dL_isAsked_141 mw_600 mw_601 mw_24 (mw_abs) (Nat.le_of_ble_eq_true rfl) ⟨Nat.le_of_ble_eq_true rfl, Nat.le_of_ble_eq_true rfl⟩ (by simp only [rX2_digest, rX2_many, rX2_rank, rX2_would, rX2_key, rX2_wouldStamp, rX2_stamp, rX2_wrongAt, rX2_runAt, rX2_longest, rX2_after, rX2_wrong, rX2_text, rJ0_isEmpty_aae02, rX2_unlike, rX2_count, rX2_below, rX2_first, rX2_same, rX2_bag, rX2_isSound, rL_isAsked]; omega) (by simp only [rX2_digest, rX2_many, rX2_rank, rX2_would, rX2_key, rX2_wouldStamp, rX2_stamp, rX2_wrongAt, rX2_runAt, rX2_longest, rX2_after, rX2_wrong, rX2_text, rJ0_isEmpty_aae02, rX2_unlike, rX2_count, rX2_below, rX2_first, rX2_same, rX2_bag, rX2_isSound, rL_isAsked]; omega) (v := nI c9) ec9 ?_
        refine mt_iconst dL_isAsked_144 (v := nI 1) rfl ?_
        refine mt_icmp_le dL_isAsked_145 (tgt := 150) rfl (fun q9 => ?_) (fun q9 => absurd q9 (fun z => z (Int32.not_lt.mp (nI_nlt (by omega) (by omega)))))
        refine mp_iinc dL_isAsked_150 rfl (v := nI (k + 1)) mI_inc (ls' := [.ref 0, .int (nI r), .long dg, .double 0, .int (nI X.length), .int (nI (k + 1))]) rfl (by decide) rfl ?_
        refine mt_goto dL_isAsked_153 (tgt := 112) rfl ?_
        refine mt_widen (cc' := 600 + 40 * (k + 1)) (sc' := 6000 + 300 * (k + 1)) (by first | omega | (simp only [rX2_digest, rX2_many, rX2_rank, rX2_would, rX2_key, rX2_wouldStamp, rX2_stamp, rX2_wrongAt, rX2_runAt, rX2_longest, rX2_after, rX2_wrong, rX2_text, rJ0_isEmpty_aae02, rX2_unlike, rX2_count, rX2_below, rX2_first, rX2_same, rX2_bag, rX2_isSound, rL_isAsked]; omega)) (by first | omega | (simp only [rX2_digest, rX2_many, rX2_rank, rX2_would, rX2_key, rX2_wouldStamp, rX2_stamp, rX2_wrongAt, rX2_runAt, rX2_longest, rX2_after, rX2_wrong, rX2_text, rJ0_isEmpty_aae02, rX2_unlike, rX2_count, rX2_below, rX2_first, rX2_same, rX2_bag, rX2_isSound, rL_isAsked]; omega)) ?_
        exact ih (k + 1) h8 (by omega) c10c (by omega)
set_option maxRecDepth 100000 in
set_option maxHeartbeats 2000000 in
theorem kL_isAsked {l : Launch} (hl : l.stackTraces = false) {h : mH} {n r : Nat} {S : cS} (C : cAt h S) (hr : r < 4) (hn : 27 ≤ n) : mC l mL_isAsked rL_isAsked [.ref 0, .int (nI r)] h n (fun v h' n' => v = some (.int (nI 1)) ∧ n ≤ n' ∧ ∃ S', cAt h' S') (mNX) := by
  obtain ⟨X, hX⟩ : ∃ z, S.1 r = z := ⟨_, rfl⟩
  have hL : X.length ≤ 320 := by rw [← hX]; exact (lenOk_of C).le hr
  obtain ⟨u1, hu1, eu1⟩ := lf_unlike (xs := X)
  obtain ⟨c1, hc1, ec1⟩ := lf_count (xs := X) (key := nI 0)
  obtain ⟨b1, hb1, eb1⟩ := lf_below (xs := X) (key := nI 99999)
  refine mm_enter hl (by decide +kernel) rfl rfl rfl (Nat.le_of_ble_eq_true rfl) ?_
  show mT _ _ _ _ 0 [.ref 0, .int (nI r), .double 0, .double 0, .double 0, .double 0] [] _ _ 0 0
  refine mt_aload_n dL_isAsked_0 rfl rfl ?_
  refine mt_callV (N := mX2_digest) (Rc := rX2_digest) (As := []) (st := []) dL_isAsked_1 (kX2_digest hl C) sX2_digest mw_522 mKX2 rfl C.1 rfl (Nat.le_of_ble_eq_true rfl) ⟨⟨Nat.le_of_ble_eq_true rfl, Nat.le_of_ble_eq_true rfl⟩, (by simp only [rX2_digest, rX2_many, rX2_rank, rX2_would, rX2_key, rX2_wouldStamp, rX2_stamp, rX2_wrongAt, rX2_runAt, rX2_longest, rX2_after, rX2_wrong, rX2_text, rJ0_isEmpty_aae02, rX2_unlike, rX2_count, rX2_below, rX2_first, rX2_same, rX2_bag, rX2_isSound, rL_isAsked]; omega), (by simp only [rX2_digest, rX2_many, rX2_rank, rX2_would, rX2_key, rX2_wouldStamp, rX2_stamp, rX2_wrongAt, rX2_runAt, rX2_longest, rX2_after, rX2_wrong, rX2_text, rJ0_isEmpty_aae02, rX2_unlike, rX2_count, rX2_below, rX2_first, rX2_same, rX2_bag, rX2_isSound, rL_isAsked]; omega)⟩ (fun v1 h2 n3 c4 => ?_) (fun _ _ _ hx => hx.elim)
  obtain ⟨c40, c4a, c4b, c4c, c4d⟩ := c4
  have c4v : v1 = some (.long (q_digest S)) := c4a
  rw [c4v, c4b]
  show mT _ _ _ _ 4 [.ref 0, .int (nI r), .double 0, .double 0, .double 0, .double 0] [.long (q_digest S)] _ _ _ _
  refine mp_lstore_n dL_isAsked_4 (ls' := [.ref 0, .int (nI r), .long (q_digest S), .double 0, .double 0, .double 0]) rfl (by decide) rfl ?_
  refine mt_aload_n dL_isAsked_5 rfl rfl ?_
  refine mt_iload_n dL_isAsked_6 rfl ?_
  refine mt_callV (N := mX2_many) (Rc := rX2_many) (As := [.int (nI r)]) (st := []) dL_isAsked_7 ((kX2_many hl c4c).good (v := .int (nI X.length)) (S' := S) (by rw [g_many hr, hX])) sX2_many mw_213 mKX2 rfl c4c.1 rfl (Nat.le_of_ble_eq_true rfl) ⟨⟨Nat.le_of_ble_eq_true rfl, Nat.le_of_ble_eq_true rfl⟩, (by simp only [rX2_digest, rX2_many, rX2_rank, rX2_would, rX2_key, rX2_wouldStamp, rX2_stamp, rX2_wrongAt, rX2_runAt, rX2_longest, rX2_after, rX2_wrong, rX2_text, rJ0_isEmpty_aae02, rX2_unlike, rX2_count, rX2_below, rX2_first, rX2_same, rX2_bag, rX2_isSound, rL_isAsked]; omega), (by simp only [rX2_digest, rX2_many, rX2_rank, rX2_would, rX2_key, rX2_wouldStamp, rX2_stamp, rX2_wrongAt, rX2_runAt, rX2_longest, rX2_after, rX2_wrong, rX2_text, rJ0_isEmpty_aae02, rX2_unlike, rX2_count, rX2_below, rX2_first, rX2_same, rX2_bag, rX2_isSound, rL_isAsked]; omega)⟩ (fun v5 h6 n7 c8 => ?_) (fun _ _ _ hx => hx.elim)
  obtain ⟨c8a, c8b, c8c, c8d⟩ := c8
  rw [c8a, c8b]
  show mT _ _ _ _ 10 [.ref 0, .int (nI r), .long (q_digest S), .double 0, .double 0, .double 0] [.int (nI X.length)] _ _ _ _
  refine mp_istore dL_isAsked_10 (ls' := [.ref 0, .int (nI r), .long (q_digest S), .double 0, .int (nI X.length), .double 0]) rfl (by decide) rfl ?_
  refine mt_widen (cc' := 200 + 40 * 0) (sc' := 2000 + 300 * 0) (by first | omega | (simp only [rX2_digest, rX2_many, rX2_rank, rX2_would, rX2_key, rX2_wouldStamp, rX2_stamp, rX2_wrongAt, rX2_runAt, rX2_longest, rX2_after, rX2_wrong, rX2_text, rJ0_isEmpty_aae02, rX2_unlike, rX2_count, rX2_below, rX2_first, rX2_same, rX2_bag, rX2_isSound, rL_isAsked]; omega)) (by first | omega | (simp only [rX2_digest, rX2_many, rX2_rank, rX2_would, rX2_key, rX2_wouldStamp, rX2_stamp, rX2_wrongAt, rX2_runAt, rX2_longest, rX2_after, rX2_wrong, rX2_text, rJ0_isEmpty_aae02, rX2_unlike, rX2_count, rX2_below, rX2_first, rX2_same, rX2_bag, rX2_isSound, rL_isAsked]; omega)) ?_
  refine mt_iconst dL_isAsked_12 (v := nI 0) rfl ?_
  refine mp_istore dL_isAsked_13 (ls' := [.ref 0, .int (nI r), .long (q_digest S), .double 0, .int (nI X.length), .int (nI 0)]) rfl (by decide) rfl ?_
  refine tL_isAsked_15 hl hr hL hX (fun h_9 z10 => ?_) _ 0 h6 (Nat.lt_succ_self _) c8c (by omega)
  refine mt_widen (cc' := 600 + 40 * 0) (sc' := 6000 + 300 * 0) (by first | omega | (simp only [rX2_digest, rX2_many, rX2_rank, rX2_would, rX2_key, rX2_wouldStamp, rX2_stamp, rX2_wrongAt, rX2_runAt, rX2_longest, rX2_after, rX2_wrong, rX2_text, rJ0_isEmpty_aae02, rX2_unlike, rX2_count, rX2_below, rX2_first, rX2_same, rX2_bag, rX2_isSound, rL_isAsked]; omega)) (by first | omega | (simp only [rX2_digest, rX2_many, rX2_rank, rX2_would, rX2_key, rX2_wouldStamp, rX2_stamp, rX2_wrongAt, rX2_runAt, rX2_longest, rX2_after, rX2_wrong, rX2_text, rJ0_isEmpty_aae02, rX2_unlike, rX2_count, rX2_below, rX2_first, rX2_same, rX2_bag, rX2_isSound, rL_isAsked]; omega)) ?_
  refine mt_iconst dL_isAsked_109 (v := nI 0) rfl ?_
  refine mp_istore dL_isAsked_110 (ls' := [.ref 0, .int (nI r), .long (q_digest S), .double 0, .int (nI X.length), .int (nI 0)]) rfl (by decide) rfl ?_
  refine tL_isAsked_112 hl hr hL hX (fun h_11 z12 => ?_) _ 0 h_9 (Nat.lt_succ_self _) z10 (by omega)
  refine mt_aload_n dL_isAsked_156 rfl rfl ?_
  refine mt_iload_n dL_isAsked_157 rfl ?_
  refine mt_iconst dL_isAsked_158 (v := nI 0) rfl ?_
  refine mt_iconst dL_isAsked_159 (v := nI 0) rfl ?_
  refine mt_callV (N := mX2_text) (Rc := rX2_text) (As := [.int (nI r), .int (nI 0), .int (nI 0)]) (st := []) dL_isAsked_160 (kX2_text hl z12 (by omega) hr) sX2_text mw_603 mKX2 rfl z12.1 rfl (Nat.le_of_ble_eq_true rfl) ⟨⟨Nat.le_of_ble_eq_true rfl, Nat.le_of_ble_eq_true rfl⟩, (by simp only [rX2_digest, rX2_many, rX2_rank, rX2_would, rX2_key, rX2_wouldStamp, rX2_stamp, rX2_wrongAt, rX2_runAt, rX2_longest, rX2_after, rX2_wrong, rX2_text, rJ0_isEmpty_aae02, rX2_unlike, rX2_count, rX2_below, rX2_first, rX2_same, rX2_bag, rX2_isSound, rL_isAsked]; omega), (by simp only [rX2_digest, rX2_many, rX2_rank, rX2_would, rX2_key, rX2_wouldStamp, rX2_stamp, rX2_wrongAt, rX2_runAt, rX2_longest, rX2_after, rX2_wrong, rX2_text, rJ0_isEmpty_aae02, rX2_unlike, rX2_count, rX2_below, rX2_first, rX2_same, rX2_bag, rX2_isSound, rL_isAsked]; omega)⟩ (fun v13 h14 n15 c16 => ?_) (fun _ _ _ hx => hx.elim)
  obtain ⟨p9, c16a, c16b, ⟨k9, g9, x9, y9, t9, b9⟩, c16e⟩ := c16
  rw [c16a]
  have c16c := cAt.fr2 z12 (fun j hj => c16e j (by omega))
  show mT _ _ _ _ 163 [.ref 0, .int (nI r), .long (q_digest S), .double 0, .int (nI X.length), .double 0] [.ref p9] _ _ _ _
  refine mt_callV (N := mJ0_isEmpty_aae02) (Rc := rJ0_isEmpty_aae02) (As := []) (st := []) dL_isAsked_163 (kJ0_isEmpty_aae02 hl t9 b9) sJ0_isEmpty_aae02 mw_866 mKJ0 rfl t9 rfl (Nat.le_of_ble_eq_true rfl) ⟨⟨Nat.le_of_ble_eq_true rfl, Nat.le_of_ble_eq_true rfl⟩, (by simp only [rX2_digest, rX2_many, rX2_rank, rX2_would, rX2_key, rX2_wouldStamp, rX2_stamp, rX2_wrongAt, rX2_runAt, rX2_longest, rX2_after, rX2_wrong, rX2_text, rJ0_isEmpty_aae02, rX2_unlike, rX2_count, rX2_below, rX2_first, rX2_same, rX2_bag, rX2_isSound, rL_isAsked]; omega), (by simp only [rX2_digest, rX2_many, rX2_rank, rX2_would, rX2_key, rX2_wouldStamp, rX2_stamp, rX2_wrongAt, rX2_runAt, rX2_longest, rX2_after, rX2_wrong, rX2_text, rJ0_isEmpty_aae02, rX2_unlike, rX2_count, rX2_below, rX2_first, rX2_same, rX2_bag, rX2_isSound, rL_isAsked]; omega)⟩ (fun v17 h18 n19 c20 => ?_) (fun _ _ _ hx => hx.elim)
  obtain ⟨c20a, c20b, c20c⟩ := c20
  rw [c20a, c20b, c20c]
  show mT _ _ _ _ 166 [.ref 0, .int (nI r), .long (q_digest S), .double 0, .int (nI X.length), .double 0] [.int (nI 1)] _ _ _ _
  refine mt_if_eq dL_isAsked_166 (tgt := 257) rfl (fun q21 => ?_) (fun q21 => ?_)
  · have q21 := (mI_eq0 (by omega)).mp q21
    exact absurd q21 (by decide)
  · have q21 := (not_congr (mI_eq0 (by omega))).mp q21
    refine mt_aload_n dL_isAsked_169 rfl rfl ?_
    refine mt_iload_n dL_isAsked_170 rfl ?_
    refine mt_callV (N := mX2_unlike) (Rc := rX2_unlike) (As := [.int (nI r)]) (st := []) dL_isAsked_171 ((kX2_unlike hl c16c).good (v := .int (nI u1)) (S' := S) (by rw [g_unlike hr, hX, eu1])) sX2_unlike mw_870 mKX2 rfl c16c.1 rfl (Nat.le_of_ble_eq_true rfl) ⟨⟨Nat.le_of_ble_eq_true rfl, Nat.le_of_ble_eq_true rfl⟩, (by simp only [rX2_digest, rX2_many, rX2_rank, rX2_would, rX2_key, rX2_wouldStamp, rX2_stamp, rX2_wrongAt, rX2_runAt, rX2_longest, rX2_after, rX2_wrong, rX2_text, rJ0_isEmpty_aae02, rX2_unlike, rX2_count, rX2_below, rX2_first, rX2_same, rX2_bag, rX2_isSound, rL_isAsked]; omega), (by simp only [rX2_digest, rX2_many, rX2_rank, rX2_would, rX2_key, rX2_wouldStamp, rX2_stamp, rX2_wrongAt, rX2_runAt, rX2_longest, rX2_after, rX2_wrong, rX2_text, rJ0_isEmpty_aae02, rX2_unlike, rX2_count, rX2_below, rX2_first, rX2_same, rX2_bag, rX2_isSound, rL_isAsked]; omega)⟩ (fun v22 h23 n24 c25 => ?_) (fun _ _ _ hx => hx.elim)
    obtain ⟨c25a, c25b, c25c, c25d⟩ := c25
    rw [c25a, c25b]
    show mT _ _ _ _ 174 [.ref 0, .int (nI r), .long (q_digest S), .double 0, .int (nI X.length), .double 0] [.int (nI u1)] _ _ _ _
    refine mt_iload dL_isAsked_174 rfl ?_
    refine mt_icmp_gt dL_isAsked_176 (tgt := 257) rfl (fun q9 => absurd q9 (nI_nlt (by omega) (by omega))) (fun q9 => ?_)
    refine mt_aload_n dL_isAsked_179 rfl rfl ?_
    refine mt_iload_n dL_isAsked_180 rfl ?_
    refine mt_iconst dL_isAsked_181 (v := nI 0) rfl ?_
    refine mt_callV (N := mX2_count) (Rc := rX2_count) (As := [.int (nI r), .int (nI 0)]) (st := []) dL_isAsked_182 ((kX2_count hl c25c).good (v := .int (nI c1)) (S' := S) (by rw [g_count hr, hX, ec1])) sX2_count mw_871 mKX2 rfl c25c.1 rfl (Nat.le_of_ble_eq_true rfl) ⟨⟨Nat.le_of_ble_eq_true rfl, Nat.le_of_ble_eq_true rfl⟩, (by simp only [rX2_digest, rX2_many, rX2_rank, rX2_would, rX2_key, rX2_wouldStamp, rX2_stamp, rX2_wrongAt, rX2_runAt, rX2_longest, rX2_after, rX2_wrong, rX2_text, rJ0_isEmpty_aae02, rX2_unlike, rX2_count, rX2_below, rX2_first, rX2_same, rX2_bag, rX2_isSound, rL_isAsked]; omega), (by simp only [rX2_digest, rX2_many, rX2_rank, rX2_would, rX2_key, rX2_wouldStamp, rX2_stamp, rX2_wrongAt, rX2_runAt, rX2_longest, rX2_after, rX2_wrong, rX2_text, rJ0_isEmpty_aae02, rX2_unlike, rX2_count, rX2_below, rX2_first, rX2_same, rX2_bag, rX2_isSound, rL_isAsked]; omega)⟩ (fun v26 h27 n28 c29 => ?_) (fun _ _ _ hx => hx.elim)
    obtain ⟨c29a, c29b, c29c, c29d⟩ := c29
    rw [c29a, c29b]
    show mT _ _ _ _ 185 [.ref 0, .int (nI r), .long (q_digest S), .double 0, .int (nI X.length), .double 0] [.int (nI c1)] _ _ _ _
    refine mt_iload dL_isAsked_185 rfl ?_
    refine mt_icmp_gt dL_isAsked_187 (tgt := 257) rfl (fun q9 => absurd q9 (nI_nlt (by omega) (by omega))) (fun q9 => ?_)
    refine mt_aload_n dL_isAsked_190 rfl rfl ?_
    refine mt_iload_n dL_isAsked_191 rfl ?_
    refine mt_ldc (v := nI 99999) dL_isAsked_192 mw_879 ?_
    refine mt_callV (N := mX2_below) (Rc := rX2_below) (As := [.int (nI r), .int (nI 99999)]) (st := []) dL_isAsked_194 ((kX2_below hl c29c).good (v := .int (nI b1)) (S' := S) (by rw [g_below hr, hX, eb1])) sX2_below mw_880 mKX2 rfl c29c.1 rfl (Nat.le_of_ble_eq_true rfl) ⟨⟨Nat.le_of_ble_eq_true rfl, Nat.le_of_ble_eq_true rfl⟩, (by simp only [rX2_digest, rX2_many, rX2_rank, rX2_would, rX2_key, rX2_wouldStamp, rX2_stamp, rX2_wrongAt, rX2_runAt, rX2_longest, rX2_after, rX2_wrong, rX2_text, rJ0_isEmpty_aae02, rX2_unlike, rX2_count, rX2_below, rX2_first, rX2_same, rX2_bag, rX2_isSound, rL_isAsked]; omega), (by simp only [rX2_digest, rX2_many, rX2_rank, rX2_would, rX2_key, rX2_wouldStamp, rX2_stamp, rX2_wrongAt, rX2_runAt, rX2_longest, rX2_after, rX2_wrong, rX2_text, rJ0_isEmpty_aae02, rX2_unlike, rX2_count, rX2_below, rX2_first, rX2_same, rX2_bag, rX2_isSound, rL_isAsked]; omega)⟩ (fun v30 h31 n32 c33 => ?_) (fun _ _ _ hx => hx.elim)
    obtain ⟨c33a, c33b, c33c, c33d⟩ := c33
    rw [c33a, c33b]
    show mT _ _ _ _ 197 [.ref 0, .int (nI r), .long (q_digest S), .double 0, .int (nI X.length), .double 0] [.int (nI b1)] _ _ _ _
    refine mt_iload dL_isAsked_197 rfl ?_
    refine mt_icmp_gt dL_isAsked_199 (tgt := 257) rfl (fun q9 => absurd q9 (nI_nlt (by omega) (by omega))) (fun q9 => ?_)
    refine mt_aload_n dL_isAsked_202 rfl rfl ?_
    refine mt_iload_n dL_isAsked_203 rfl ?_
    refine mt_iconst dL_isAsked_204 (v := nI 0) rfl ?_
    refine mt_iconst dL_isAsked_205 (v := nI 1) rfl ?_
    refine mt_callV (N := mX2_first) (Rc := rX2_first) (As := [.int (nI r), .int (nI 0), .int (nI 1)]) (st := []) dL_isAsked_206 ((kX2_first (isLast := true) hl c33c).good (v := .int (q_lastPlaceOf X (nI 0))) (S' := S) (by rw [g_last hr, hX])) sX2_first mw_888 mKX2 rfl c33c.1 rfl (Nat.le_of_ble_eq_true rfl) ⟨⟨Nat.le_of_ble_eq_true rfl, Nat.le_of_ble_eq_true rfl⟩, (by simp only [rX2_digest, rX2_many, rX2_rank, rX2_would, rX2_key, rX2_wouldStamp, rX2_stamp, rX2_wrongAt, rX2_runAt, rX2_longest, rX2_after, rX2_wrong, rX2_text, rJ0_isEmpty_aae02, rX2_unlike, rX2_count, rX2_below, rX2_first, rX2_same, rX2_bag, rX2_isSound, rL_isAsked]; omega), (by simp only [rX2_digest, rX2_many, rX2_rank, rX2_would, rX2_key, rX2_wouldStamp, rX2_stamp, rX2_wrongAt, rX2_runAt, rX2_longest, rX2_after, rX2_wrong, rX2_text, rJ0_isEmpty_aae02, rX2_unlike, rX2_count, rX2_below, rX2_first, rX2_same, rX2_bag, rX2_isSound, rL_isAsked]; omega)⟩ (fun v34 h35 n36 c37 => ?_) (fun _ _ _ hx => hx.elim)
    obtain ⟨c37a, c37b, c37c, c37d⟩ := c37
    rw [c37a, c37b]
    show mT _ _ _ _ 209 [.ref 0, .int (nI r), .long (q_digest S), .double 0, .int (nI X.length), .double 0] [.int (q_lastPlaceOf X (nI 0))] _ _ _ _
    refine mt_aload_n dL_isAsked_209 rfl rfl ?_
    refine mt_iload_n dL_isAsked_210 rfl ?_
    refine mt_iconst dL_isAsked_211 (v := nI 0) rfl ?_
    refine mt_iconst dL_isAsked_212 (v := nI 0) rfl ?_
    refine mt_callV (N := mX2_first) (Rc := rX2_first) (As := [.int (nI r), .int (nI 0), .int (nI 0)]) (st := [.int (q_lastPlaceOf X (nI 0))]) dL_isAsked_213 ((kX2_first (isLast := false) hl c37c).good (v := .int (q_firstPlaceOf X (nI 0))) (S' := S) (by rw [g_first hr, hX])) sX2_first mw_888 mKX2 rfl c37c.1 rfl (Nat.le_of_ble_eq_true rfl) ⟨⟨Nat.le_of_ble_eq_true rfl, Nat.le_of_ble_eq_true rfl⟩, (by simp only [rX2_digest, rX2_many, rX2_rank, rX2_would, rX2_key, rX2_wouldStamp, rX2_stamp, rX2_wrongAt, rX2_runAt, rX2_longest, rX2_after, rX2_wrong, rX2_text, rJ0_isEmpty_aae02, rX2_unlike, rX2_count, rX2_below, rX2_first, rX2_same, rX2_bag, rX2_isSound, rL_isAsked]; omega), (by simp only [rX2_digest, rX2_many, rX2_rank, rX2_would, rX2_key, rX2_wouldStamp, rX2_stamp, rX2_wrongAt, rX2_runAt, rX2_longest, rX2_after, rX2_wrong, rX2_text, rJ0_isEmpty_aae02, rX2_unlike, rX2_count, rX2_below, rX2_first, rX2_same, rX2_bag, rX2_isSound, rL_isAsked]; omega)⟩ (fun v38 h39 n40 c41 => ?_) (fun _ _ _ hx => hx.elim)
    obtain ⟨c41a, c41b, c41c, c41d⟩ := c41
    rw [c41a, c41b]
    show mT _ _ _ _ 216 [.ref 0, .int (nI r), .long (q_digest S), .double 0, .int (nI X.length), .double 0] [.int (q_firstPlaceOf X (nI 0)), .int (q_lastPlaceOf X (nI 0))] _ _ _ _
    refine mt_icmp_lt dL_isAsked_216 (tgt := 257) rfl (fun q9 => absurd q9 (lf_first hL)) (fun q9 => ?_)
    refine mt_aload_n dL_isAsked_219 rfl rfl ?_
    refine mt_iload_n dL_isAsked_220 rfl ?_
    refine mt_iload_n dL_isAsked_221 rfl ?_
    refine mt_callV (N := mX2_same) (Rc := rX2_same) (As := [.int (nI r), .int (nI r)]) (st := []) dL_isAsked_222 ((kX2_same hl c41c).good (v := .int (nI 1)) (S' := S) (by rw [g_sameT (lenOk_of c41c) hr hr (rfl), mb_t])) sX2_same mw_508 mKX2 rfl c41c.1 rfl (Nat.le_of_ble_eq_true rfl) ⟨⟨Nat.le_of_ble_eq_true rfl, Nat.le_of_ble_eq_true rfl⟩, (by simp only [rX2_digest, rX2_many, rX2_rank, rX2_would, rX2_key, rX2_wouldStamp, rX2_stamp, rX2_wrongAt, rX2_runAt, rX2_longest, rX2_after, rX2_wrong, rX2_text, rJ0_isEmpty_aae02, rX2_unlike, rX2_count, rX2_below, rX2_first, rX2_same, rX2_bag, rX2_isSound, rL_isAsked]; omega), (by simp only [rX2_digest, rX2_many, rX2_rank, rX2_would, rX2_key, rX2_wouldStamp, rX2_stamp, rX2_wrongAt, rX2_runAt, rX2_longest, rX2_after, rX2_wrong, rX2_text, rJ0_isEmpty_aae02, rX2_unlike, rX2_count, rX2_below, rX2_first, rX2_same, rX2_bag, rX2_isSound, rL_isAsked]; omega)⟩ (fun v42 h43 n44 c45 => ?_) (fun _ _ _ hx => hx.elim)
    obtain ⟨c45a, c45b, c45c, c45d⟩ := c45
    rw [c45a, c45b]
    show mT _ _ _ _ 225 [.ref 0, .int (nI r), .long (q_digest S), .double 0, .int (nI X.length), .double 0] [.int (nI 1)] _ _ _ _
    refine mt_if_eq dL_isAsked_225 (tgt := 257) rfl (fun q46 => ?_) (fun q46 => ?_)
    · have q46 := (mI_eq0 (by omega)).mp q46
      exact absurd q46 (by decide)
    · have q46 := (not_congr (mI_eq0 (by omega))).mp q46
      refine mt_aload_n dL_isAsked_228 rfl rfl ?_
      refine mt_iload_n dL_isAsked_229 rfl ?_
      refine mt_iload_n dL_isAsked_230 rfl ?_
      refine mt_callV (N := mX2_bag) (Rc := rX2_bag) (As := [.int (nI r), .int (nI r)]) (st := []) dL_isAsked_231 ((kX2_bag hl c45c).good (v := .int (nI 1)) (S' := S) (by rw [g_bagT (lenOk_of c45c) hr hr (List.Perm.refl _), mb_t])) sX2_bag mw_500 mKX2 rfl c45c.1 rfl (Nat.le_of_ble_eq_true rfl) ⟨⟨Nat.le_of_ble_eq_true rfl, Nat.le_of_ble_eq_true rfl⟩, (by simp only [rX2_digest, rX2_many, rX2_rank, rX2_would, rX2_key, rX2_wouldStamp, rX2_stamp, rX2_wrongAt, rX2_runAt, rX2_longest, rX2_after, rX2_wrong, rX2_text, rJ0_isEmpty_aae02, rX2_unlike, rX2_count, rX2_below, rX2_first, rX2_same, rX2_bag, rX2_isSound, rL_isAsked]; omega), (by simp only [rX2_digest, rX2_many, rX2_rank, rX2_would, rX2_key, rX2_wouldStamp, rX2_stamp, rX2_wrongAt, rX2_runAt, rX2_longest, rX2_after, rX2_wrong, rX2_text, rJ0_isEmpty_aae02, rX2_unlike, rX2_count, rX2_below, rX2_first, rX2_same, rX2_bag, rX2_isSound, rL_isAsked]; omega)⟩ (fun v47 h48 n49 c50 => ?_) (fun _ _ _ hx => hx.elim)
      obtain ⟨c50a, c50b, c50c, c50d⟩ := c50
      rw [c50a, c50b]
      show mT _ _ _ _ 234 [.ref 0, .int (nI r), .long (q_digest S), .double 0, .int (nI X.length), .double 0] [.int (nI 1)] _ _ _ _
      refine mt_if_eq dL_isAsked_234 (tgt := 257) rfl (fun q51 => ?_) (fun q51 => ?_)
      · have q51 := (mI_eq0 (by omega)).mp q51
        exact absurd q51 (by decide)
      · have q51 := (not_congr (mI_eq0 (by omega))).mp q51
        refine mt_aload_n dL_isAsked_237 rfl rfl ?_
        refine mt_callV (N := mX2_isSound) (Rc := rX2_isSound) (As := []) (st := []) dL_isAsked_238 (kX2_isSound hl c50c) sX2_isSound mw_114 mKX2 rfl c50c.1 rfl (Nat.le_of_ble_eq_true rfl) ⟨⟨Nat.le_of_ble_eq_true rfl, Nat.le_of_ble_eq_true rfl⟩, (by simp only [rX2_digest, rX2_many, rX2_rank, rX2_would, rX2_key, rX2_wouldStamp, rX2_stamp, rX2_wrongAt, rX2_runAt, rX2_longest, rX2_after, rX2_wrong, rX2_text, rJ0_isEmpty_aae02, rX2_unlike, rX2_count, rX2_below, rX2_first, rX2_same, rX2_bag, rX2_isSound, rL_isAsked]; omega), (by simp only [rX2_digest, rX2_many, rX2_rank, rX2_would, rX2_key, rX2_wouldStamp, rX2_stamp, rX2_wrongAt, rX2_runAt, rX2_longest, rX2_after, rX2_wrong, rX2_text, rJ0_isEmpty_aae02, rX2_unlike, rX2_count, rX2_below, rX2_first, rX2_same, rX2_bag, rX2_isSound, rL_isAsked]; omega)⟩ (fun v52 h53 n54 c55 => ?_) (fun _ _ _ hx => hx.elim)
        obtain ⟨c550, c55a, c55b, c55c, c55d⟩ := c55
        have c55v : v52 = some (.int (mb (q_sound S))) := c55a
        rw [c55v, c55b, sound_eq c50c]
        rw [mb_t]
        show mT _ _ _ _ 241 [.ref 0, .int (nI r), .long (q_digest S), .double 0, .int (nI X.length), .double 0] [.int (nI 1)] _ _ _ _
        refine mt_if_eq dL_isAsked_241 (tgt := 257) rfl (fun q56 => ?_) (fun q56 => ?_)
        · have q56 := (mI_eq0 (by omega)).mp q56
          exact absurd q56 (by decide)
        · have q56 := (not_congr (mI_eq0 (by omega))).mp q56
          refine mt_aload_n dL_isAsked_244 rfl rfl ?_
          refine mt_callV (N := mX2_digest) (Rc := rX2_digest) (As := []) (st := []) dL_isAsked_245 (kX2_digest hl c55c) sX2_digest mw_522 mKX2 rfl c55c.1 rfl (Nat.le_of_ble_eq_true rfl) ⟨⟨Nat.le_of_ble_eq_true rfl, Nat.le_of_ble_eq_true rfl⟩, (by simp only [rX2_digest, rX2_many, rX2_rank, rX2_would, rX2_key, rX2_wouldStamp, rX2_stamp, rX2_wrongAt, rX2_runAt, rX2_longest, rX2_after, rX2_wrong, rX2_text, rJ0_isEmpty_aae02, rX2_unlike, rX2_count, rX2_below, rX2_first, rX2_same, rX2_bag, rX2_isSound, rL_isAsked]; omega), (by simp only [rX2_digest, rX2_many, rX2_rank, rX2_would, rX2_key, rX2_wouldStamp, rX2_stamp, rX2_wrongAt, rX2_runAt, rX2_longest, rX2_after, rX2_wrong, rX2_text, rJ0_isEmpty_aae02, rX2_unlike, rX2_count, rX2_below, rX2_first, rX2_same, rX2_bag, rX2_isSound, rL_isAsked]; omega)⟩ (fun v57 h58 n59 c60 => ?_) (fun _ _ _ hx => hx.elim)
          obtain ⟨c600, c60a, c60b, c60c, c60d⟩ := c60
          have c60v : v57 = some (.long (q_digest S)) := c60a
          rw [c60v, c60b]
          show mT _ _ _ _ 248 [.ref 0, .int (nI r), .long (q_digest S), .double 0, .int (nI X.length), .double 0] [.long (q_digest S)] _ _ _ _
          refine mt_lload_n dL_isAsked_248 rfl ?_
          refine mt_lcmpE dL_isAsked_249 ?_
          refine mt_if_ne dL_isAsked_250 (tgt := 257) rfl (fun q61 => ?_) (fun q61 => ?_)
          · have q61 := (not_congr (mI_eq0 (by omega))).mp q61
            exact absurd q61 (by decide)
          · have q61 := (mI_eq0 (by omega)).mp q61
            refine mt_iconst dL_isAsked_253 (v := nI 1) rfl ?_
            refine mt_goto dL_isAsked_254 (tgt := 258) rfl ?_
            refine mt_ireturn dL_isAsked_258 rfl rfl (by simp only [rX2_digest, rX2_many, rX2_rank, rX2_would, rX2_key, rX2_wouldStamp, rX2_stamp, rX2_wrongAt, rX2_runAt, rX2_longest, rX2_after, rX2_wrong, rX2_text, rJ0_isEmpty_aae02, rX2_unlike, rX2_count, rX2_below, rX2_first, rX2_same, rX2_bag, rX2_isSound, rL_isAsked]; omega) (by simp only [rX2_digest, rX2_many, rX2_rank, rX2_would, rX2_key, rX2_wouldStamp, rX2_stamp, rX2_wrongAt, rX2_runAt, rX2_longest, rX2_after, rX2_wrong, rX2_text, rJ0_isEmpty_aae02, rX2_unlike, rX2_count, rX2_below, rX2_first, rX2_same, rX2_bag, rX2_isSound, rL_isAsked]; omega) ?_
            exact ⟨rfl, by omega, _, c60c⟩
