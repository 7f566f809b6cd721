/-! ===== the class: its small methods ===== -/
abbrev rX2_rowOf : Room := { frames := 6, cells := 1, slots := 6, locals := 90 }
set_option maxRecDepth 100000 in
set_option maxHeartbeats 2000000 in
theorem kX2_rowOf {l : Launch} (hl : l.stackTraces = false) {h : mH} {n : Nat} {S : cS} {row : Int32} (C : cAt h S) : mC l mX2_rowOf rX2_rowOf [.ref 0, .int row] h n (fun v h' n' => ∃ r, r < 4 ∧ row = nI r ∧ v = some (.ref (2 + 3 * r)) ∧ h' = h ∧ n' = n) (fun E h' n' => E = eI ∧ inN 4 row = none ∧ h' = h ∧ n' = n) := by
  obtain ⟨C0, ⟨cg, C1, C1g⟩, C14, CR, ⟨zs15, H15⟩, ⟨zs18, H18⟩, ⟨zs21, H21⟩, ⟨zs24, H24⟩⟩ := id C
  refine mm_enter hl (by decide +kernel) rfl rfl rfl (Nat.le_of_ble_eq_true rfl) ?_
  show mT _ _ _ _ 0 [.ref 0, .int row] [] _ _ 0 0
  refine mt_iload_n dX2_rowOf_0 rfl ?_
  refine mt_if_lt dX2_rowOf_1 (tgt := 13) rfl (fun q1 => ?_) (fun q1 => ?_)
  · refine mt_throwSW (by decide +kernel) mX_fit mw_234 mw_39 (fun G U t => ⟨_, t.1⟩) mX_at289 mX_ot289 dX2_rowOf_13 dX2_rowOf_16 dX2_rowOf_17 dX2_rowOf_20 dX2_rowOf_23 rfl ⟨Nat.le_of_ble_eq_true rfl, Nat.le_of_ble_eq_true rfl⟩ (Nat.le_of_ble_eq_true rfl) (Nat.le_of_ble_eq_true rfl) (Nat.le_of_ble_eq_true rfl) ?_
    exact ⟨rfl, by first | exact inN_neg (by assumption) | exact inN_big (by assumption), rfl, rfl⟩
  · refine mt_iload_n dX2_rowOf_4 rfl ?_
    refine mt_aload_n dX2_rowOf_5 rfl rfl ?_
    refine mt_getfield mKX2 (i := 0) (by decide) mw_112 dX2_rowOf_6 C0 rfl ?_
    refine mt_alenq dX2_rowOf_9 C1 (fun _ => rfl) ?_
    refine mt_icmp_lt dX2_rowOf_10 (tgt := 24) rfl (fun q2 => ?_) (fun q2 => ?_)
    · obtain ⟨r, hr, rfl⟩ := inN_mid (k := 4) (by assumption) (by assumption) (by decide)
      refine mt_aload_n dX2_rowOf_24 rfl rfl ?_
      refine mt_getfield mKX2 (i := 0) (by decide) mw_112 dX2_rowOf_25 C0 rfl ?_
      refine mt_iload_n dX2_rowOf_28 rfl ?_
      refine mp_aaload dX2_rowOf_29 C1 (fun _ => rfl) rfl rfl (by omega) (by omega) (v := .ref (2 + 3 * r)) (by rw [C1g _ (by omega)]; rfl) ?_
      refine mt_areturn dX2_rowOf_30 rfl (by first | exact Or.inl ⟨_, rfl⟩ | exact Or.inr ⟨_, rfl⟩) rfl (Nat.le_of_ble_eq_true rfl) (Nat.le_of_ble_eq_true rfl) ?_
      exact ⟨r, hr, rfl, rfl, rfl, rfl⟩
    · refine mt_throwSW (by decide +kernel) mX_fit mw_234 mw_39 (fun G U t => ⟨_, t.1⟩) mX_at289 mX_ot289 dX2_rowOf_13 dX2_rowOf_16 dX2_rowOf_17 dX2_rowOf_20 dX2_rowOf_23 rfl ⟨Nat.le_of_ble_eq_true rfl, Nat.le_of_ble_eq_true rfl⟩ (Nat.le_of_ble_eq_true rfl) (Nat.le_of_ble_eq_true rfl) (Nat.le_of_ble_eq_true rfl) ?_
      exact ⟨rfl, by first | exact inN_neg (by assumption) | exact inN_big (by assumption), rfl, rfl⟩
abbrev rX2_demand : Room := { frames := 6, cells := 1, slots := 6, locals := 90 }
set_option maxRecDepth 100000 in
set_option maxHeartbeats 2000000 in
theorem kX2_demand_t {l : Launch} (hl : l.stackTraces = false) {h : mH} {n : Nat}  : mC l mX2_demand rX2_demand [.int (nI 1)] h n (fun v h' n' => v = none ∧ h' = h ∧ n' = n) (mNX) := by
  refine mm_enter hl (by decide +kernel) rfl rfl rfl (Nat.le_of_ble_eq_true rfl) ?_
  show mT _ _ _ _ 0 [.int (nI 1)] [] _ _ 0 0
  refine mt_iload_n dX2_demand_0 rfl ?_
  refine mt_if_ne dX2_demand_1 (tgt := 15) rfl (fun q1 => ?_) (fun q1 => ?_)
  · have q1 := (not_congr (mI_eq0 (by omega))).mp q1
    refine mt_return dX2_demand_15 rfl (Nat.le_of_ble_eq_true rfl) (Nat.le_of_ble_eq_true rfl) ?_
    exact ⟨rfl, rfl, rfl⟩
  · have q1 := (mI_eq0 (by omega)).mp q1
    exact absurd q1 (by decide)
set_option maxRecDepth 100000 in
set_option maxHeartbeats 2000000 in
theorem kX2_demand_f {l : Launch} (hl : l.stackTraces = false) {h : mH} {n : Nat}  : mC l mX2_demand rX2_demand [.int (nI 0)] h n (fun _ _ _ => False) (fun E h' n' => E = eA ∧ h' = h ∧ n' = n) := by
  refine mm_enter hl (by decide +kernel) rfl rfl rfl (Nat.le_of_ble_eq_true rfl) ?_
  show mT _ _ _ _ 0 [.int (nI 0)] [] _ _ 0 0
  refine mt_iload_n dX2_demand_0 rfl ?_
  refine mt_if_ne dX2_demand_1 (tgt := 15) rfl (fun q1 => ?_) (fun q1 => ?_)
  · have q1 := (not_congr (mI_eq0 (by omega))).mp q1
    exact absurd q1 (by decide)
  · have q1 := (mI_eq0 (by omega)).mp q1
    refine mt_throwSW (by decide +kernel) mX_fit mw_312 mw_40 (fun G U t => ⟨_, t.2.1⟩) mX_at239 mX_ot239 dX2_demand_4 dX2_demand_7 dX2_demand_8 dX2_demand_11 dX2_demand_14 rfl ⟨Nat.le_of_ble_eq_true rfl, Nat.le_of_ble_eq_true rfl⟩ (Nat.le_of_ble_eq_true rfl) (Nat.le_of_ble_eq_true rfl) (Nat.le_of_ble_eq_true rfl) ?_
    exact ⟨rfl, rfl, rfl⟩
abbrev rX2_demandWithin : Room := { frames := 6, cells := 1, slots := 6, locals := 90 }
set_option maxRecDepth 100000 in
set_option maxHeartbeats 2000000 in
theorem kX2_demandWithin_t {l : Launch} (hl : l.stackTraces = false) {h : mH} {n : Nat}  : mC l mX2_demandWithin rX2_demandWithin [.int (nI 1)] h n (fun v h' n' => v = none ∧ h' = h ∧ n' = n) (mNX) := by
  refine mm_enter hl (by decide +kernel) rfl rfl rfl (Nat.le_of_ble_eq_true rfl) ?_
  show mT _ _ _ _ 0 [.int (nI 1)] [] _ _ 0 0
  refine mt_iload_n dX2_demandWithin_0 rfl ?_
  refine mt_if_ne dX2_demandWithin_1 (tgt := 15) rfl (fun q1 => ?_) (fun q1 => ?_)
  · have q1 := (not_congr (mI_eq0 (by omega))).mp q1
    refine mt_return dX2_demandWithin_15 rfl (Nat.le_of_ble_eq_true rfl) (Nat.le_of_ble_eq_true rfl) ?_
    exact ⟨rfl, rfl, rfl⟩
  · have q1 := (mI_eq0 (by omega)).mp q1
    exact absurd q1 (by decide)
set_option maxRecDepth 100000 in
set_option maxHeartbeats 2000000 in
theorem kX2_demandWithin_f {l : Launch} (hl : l.stackTraces = false) {h : mH} {n : Nat}  : mC l mX2_demandWithin rX2_demandWithin [.int (nI 0)] h n (fun _ _ _ => False) (fun E h' n' => E = eI ∧ h' = h ∧ n' = n) := by
  refine mm_enter hl (by decide +kernel) rfl rfl rfl (Nat.le_of_ble_eq_true rfl) ?_
  show mT _ _ _ _ 0 [.int (nI 0)] [] _ _ 0 0
  refine mt_iload_n dX2_demandWithin_0 rfl ?_
  refine mt_if_ne dX2_demandWithin_1 (tgt := 15) rfl (fun q1 => ?_) (fun q1 => ?_)
  · have q1 := (not_congr (mI_eq0 (by omega))).mp q1
    exact absurd q1 (by decide)
  · have q1 := (mI_eq0 (by omega)).mp q1
    refine mt_throwSW (by decide +kernel) mX_fit mw_234 mw_39 (fun G U t => ⟨_, t.2.2.2.1⟩) mX_at289 mX_ot289 dX2_demandWithin_4 dX2_demandWithin_7 dX2_demandWithin_8 dX2_demandWithin_11 dX2_demandWithin_14 rfl ⟨Nat.le_of_ble_eq_true rfl, Nat.le_of_ble_eq_true rfl⟩ (Nat.le_of_ble_eq_true rfl) (Nat.le_of_ble_eq_true rfl) (Nat.le_of_ble_eq_true rfl) ?_
    exact ⟨rfl, rfl, rfl⟩
abbrev rX2_demandKey : Room := { frames := 7, cells := 1, slots := 6, locals := 110 }
set_option maxRecDepth 100000 in
set_option maxHeartbeats 2000000 in
theorem kX2_demandKey {l : Launch} (hl : l.stackTraces = false) {h : mH} {n : Nat} {key : Int32}  : mC l mX2_demandKey rX2_demandKey [.int key] h n (fun v h' n' => v = none ∧ keyOk key = true ∧ h' = h ∧ n' = n) (fun E h' n' => E = eA ∧ keyOk key = false ∧ h' = h ∧ n' = n) := by
  refine mm_enter hl (by decide +kernel) rfl rfl rfl (Nat.le_of_ble_eq_true rfl) ?_
  show mT _ _ _ _ 0 [.int key] [] _ _ 0 0
  refine mt_iload_n dX2_demandKey_0 rfl ?_
  refine mt_ldcw (v := (-99999)) dX2_demandKey_1 mw_444 ?_
  refine mt_icmp_lt dX2_demandKey_4 (tgt := 18) rfl (fun q1 => ?_) (fun q1 => ?_)
  · refine mt_iconst dX2_demandKey_18 (v := nI 0) rfl ?_
    refine mt_callS (N := mX2_demand) (Rc := rX2_demand) (As := [.int (nI 0)]) (st := []) dX2_demandKey_19 (kX2_demand_f hl) sX2_demand mw_309 rfl (Nat.le_of_ble_eq_true rfl) ⟨⟨Nat.le_of_ble_eq_true rfl, Nat.le_of_ble_eq_true rfl⟩, Nat.le_of_ble_eq_true rfl, Nat.le_of_ble_eq_true rfl⟩ (fun _ _ _ hv => hv.elim) (fun E h9 n9 hx => ?_)
    obtain ⟨rfl, rfl, rfl⟩ := hx
    refine mt_out rfl ?_ (Nat.le_of_ble_eq_true rfl) (Nat.le_of_ble_eq_true rfl)
    exact ⟨rfl, by simp [keyOk, q1], rfl, rfl⟩
  · refine mt_iload_n dX2_demandKey_7 rfl ?_
    refine mt_ldcw (v := nI 99999) dX2_demandKey_8 mw_445 ?_
    refine mt_icmp_gt dX2_demandKey_11 (tgt := 18) rfl (fun q6 => ?_) (fun q6 => ?_)
    · refine mt_iconst dX2_demandKey_18 (v := nI 0) rfl ?_
      refine mt_callS (N := mX2_demand) (Rc := rX2_demand) (As := [.int (nI 0)]) (st := []) dX2_demandKey_19 (kX2_demand_f hl) sX2_demand mw_309 rfl (Nat.le_of_ble_eq_true rfl) ⟨⟨Nat.le_of_ble_eq_true rfl, Nat.le_of_ble_eq_true rfl⟩, Nat.le_of_ble_eq_true rfl, Nat.le_of_ble_eq_true rfl⟩ (fun _ _ _ hv => hv.elim) (fun E h9 n9 hx => ?_)
      obtain ⟨rfl, rfl, rfl⟩ := hx
      refine mt_out rfl ?_ (Nat.le_of_ble_eq_true rfl) (Nat.le_of_ble_eq_true rfl)
      exact ⟨rfl, by simp [keyOk, q1, q6], rfl, rfl⟩
    · refine mt_iconst dX2_demandKey_14 (v := nI 1) rfl ?_
      refine mt_goto dX2_demandKey_15 (tgt := 19) rfl ?_
      refine mt_callS (N := mX2_demand) (Rc := rX2_demand) (As := [.int (nI 1)]) (st := []) dX2_demandKey_19 (kX2_demand_t hl) sX2_demand mw_309 rfl (Nat.le_of_ble_eq_true rfl) ⟨⟨Nat.le_of_ble_eq_true rfl, Nat.le_of_ble_eq_true rfl⟩, Nat.le_of_ble_eq_true rfl, Nat.le_of_ble_eq_true rfl⟩ (fun v11 h12 n13 c14 => ?_) (fun _ _ _ hx => hx.elim)
      obtain ⟨c14a, c14b, c14c⟩ := c14
      rw [c14a, c14b, c14c]
      show mT _ _ _ _ 22 [.int key] [] _ _ _ _
      refine mt_return dX2_demandKey_22 rfl (Nat.le_of_ble_eq_true rfl) (Nat.le_of_ble_eq_true rfl) ?_
      exact ⟨rfl, by simp [keyOk, q1, q6], rfl, rfl⟩
abbrev rX2_demandPlace : Room := { frames := 7, cells := 1, slots := 6, locals := 110 }
set_option maxRecDepth 100000 in
set_option maxHeartbeats 2000000 in
theorem kX2_demandPlace {l : Launch} (hl : l.stackTraces = false) {h : mH} {n a room : Nat} {fl : Int32} {xs : List mIt} {place : Int32} (H : rowAt h a room fl xs) : mC l mX2_demandPlace rX2_demandPlace [.ref a, .int place] h n (fun v h' n' => ∃ p, p < xs.length ∧ place = nI p ∧ v = none ∧ h' = h ∧ n' = n) (fun E h' n' => E = eI ∧ inN xs.length place = none ∧ h' = h ∧ n' = n) := by
  obtain ⟨f_1, g_1, ea_1, ek_1, es_1, ql_1, qr_1, qk_1, qt_1⟩ := id H
  refine mm_enter hl (by decide +kernel) rfl rfl rfl (Nat.le_of_ble_eq_true rfl) ?_
  show mT _ _ _ _ 0 [.ref a, .int place] [] _ _ 0 0
  refine mt_iload_n dX2_demandPlace_0 rfl ?_
  refine mt_if_lt dX2_demandPlace_1 (tgt := 16) rfl (fun q2 => ?_) (fun q2 => ?_)
  · refine mt_iconst dX2_demandPlace_16 (v := nI 0) rfl ?_
    refine mt_callS (N := mX2_demandWithin) (Rc := rX2_demandWithin) (As := [.int (nI 0)]) (st := []) dX2_demandPlace_17 (kX2_demandWithin_f hl) sX2_demandWithin mw_460 rfl (Nat.le_of_ble_eq_true rfl) ⟨⟨Nat.le_of_ble_eq_true rfl, Nat.le_of_ble_eq_true rfl⟩, Nat.le_of_ble_eq_true rfl, Nat.le_of_ble_eq_true rfl⟩ (fun _ _ _ hv => hv.elim) (fun E h9 n9 hx => ?_)
    obtain ⟨rfl, rfl, rfl⟩ := hx
    refine mt_out rfl ?_ (Nat.le_of_ble_eq_true rfl) (Nat.le_of_ble_eq_true rfl)
    exact ⟨rfl, by first | exact inN_neg (by assumption) | exact inN_big (by assumption) | (rw [q0]; exact inN_0), rfl, rfl⟩
  · refine mt_iload_n dX2_demandPlace_4 rfl ?_
    refine mt_aload_n dX2_demandPlace_5 rfl rfl ?_
    refine mt_getfield mKX1 (i := 3) (by decide) mw_76 dX2_demandPlace_6 ea_1 rfl ?_
    refine mt_icmp_ge dX2_demandPlace_9 (tgt := 16) rfl (fun q7 => ?_) (fun q7 => ?_)
    · have q7 := Int32.not_lt.mpr q7
      refine mt_iconst dX2_demandPlace_16 (v := nI 0) rfl ?_
      refine mt_callS (N := mX2_demandWithin) (Rc := rX2_demandWithin) (As := [.int (nI 0)]) (st := []) dX2_demandPlace_17 (kX2_demandWithin_f hl) sX2_demandWithin mw_460 rfl (Nat.le_of_ble_eq_true rfl) ⟨⟨Nat.le_of_ble_eq_true rfl, Nat.le_of_ble_eq_true rfl⟩, Nat.le_of_ble_eq_true rfl, Nat.le_of_ble_eq_true rfl⟩ (fun _ _ _ hv => hv.elim) (fun E h9 n9 hx => ?_)
      obtain ⟨rfl, rfl, rfl⟩ := hx
      refine mt_out rfl ?_ (Nat.le_of_ble_eq_true rfl) (Nat.le_of_ble_eq_true rfl)
      exact ⟨rfl, by first | exact inN_neg (by assumption) | exact inN_big (by assumption) | (rw [q0]; exact inN_0), rfl, rfl⟩
    · have q7 := Int32.not_le.mp q7
      refine mt_iconst dX2_demandPlace_12 (v := nI 1) rfl ?_
      refine mt_goto dX2_demandPlace_13 (tgt := 17) rfl ?_
      refine mt_callS (N := mX2_demandWithin) (Rc := rX2_demandWithin) (As := [.int (nI 1)]) (st := []) dX2_demandPlace_17 (kX2_demandWithin_t hl) sX2_demandWithin mw_460 rfl (Nat.le_of_ble_eq_true rfl) ⟨⟨Nat.le_of_ble_eq_true rfl, Nat.le_of_ble_eq_true rfl⟩, Nat.le_of_ble_eq_true rfl, Nat.le_of_ble_eq_true rfl⟩ (fun v12 h13 n14 c15 => ?_) (fun _ _ _ hx => hx.elim)
      obtain ⟨c15a, c15b, c15c⟩ := c15
      rw [c15a, c15b, c15c]
      show mT _ _ _ _ 20 [.ref a, .int place] [] _ _ _ _
      refine mt_return dX2_demandPlace_20 rfl (Nat.le_of_ble_eq_true rfl) (Nat.le_of_ble_eq_true rfl) ?_
      obtain ⟨p, hp, rfl⟩ := inN_mid (k := xs.length) (by assumption) (by assumption) (by omega)
      exact ⟨p, hp, rfl, rfl, rfl, rfl⟩
abbrev rX2_demandPlaceWithNext : Room := { frames := 7, cells := 1, slots := 6, locals := 110 }
set_option maxRecDepth 100000 in
set_option maxHeartbeats 2000000 in
theorem kX2_demandPlaceWithNext {l : Launch} (hl : l.stackTraces = false) {h : mH} {n a room : Nat} {fl : Int32} {xs : List mIt} {place : Int32} (H : rowAt h a room fl xs) : mC l mX2_demandPlaceWithNext rX2_demandPlaceWithNext [.ref a, .int place] h n (fun v h' n' => ∃ p, p < (xs.length - 1) ∧ place = nI p ∧ v = none ∧ h' = h ∧ n' = n) (fun E h' n' => E = eI ∧ inN (xs.length - 1) place = none ∧ h' = h ∧ n' = n) := by
  obtain ⟨f_1, g_1, ea_1, ek_1, es_1, ql_1, qr_1, qk_1, qt_1⟩ := id H
  refine mm_enter hl (by decide +kernel) rfl rfl rfl (Nat.le_of_ble_eq_true rfl) ?_
  show mT _ _ _ _ 0 [.ref a, .int place] [] _ _ 0 0
  refine mt_iload_n dX2_demandPlaceWithNext_0 rfl ?_
  refine mt_if_lt dX2_demandPlaceWithNext_1 (tgt := 18) rfl (fun q2 => ?_) (fun q2 => ?_)
  · refine mt_iconst dX2_demandPlaceWithNext_18 (v := nI 0) rfl ?_
    refine mt_callS (N := mX2_demandWithin) (Rc := rX2_demandWithin) (As := [.int (nI 0)]) (st := []) dX2_demandPlaceWithNext_19 (kX2_demandWithin_f hl) sX2_demandWithin mw_460 rfl (Nat.le_of_ble_eq_true rfl) ⟨⟨Nat.le_of_ble_eq_true rfl, Nat.le_of_ble_eq_true rfl⟩, Nat.le_of_ble_eq_true rfl, Nat.le_of_ble_eq_true rfl⟩ (fun _ _ _ hv => hv.elim) (fun E h9 n9 hx => ?_)
    obtain ⟨rfl, rfl, rfl⟩ := hx
    refine mt_out rfl ?_ (Nat.le_of_ble_eq_true rfl) (Nat.le_of_ble_eq_true rfl)
    exact ⟨rfl, by first | exact inN_neg (by assumption) | exact inN_big (by assumption) | (rw [q0]; exact inN_0), rfl, rfl⟩
  · refine mt_iload_n dX2_demandPlaceWithNext_4 rfl ?_
    refine mt_aload_n dX2_demandPlaceWithNext_5 rfl rfl ?_
    refine mt_getfield mKX1 (i := 3) (by decide) mw_76 dX2_demandPlaceWithNext_6 ea_1 rfl ?_
    by_cases q0 : xs.length = 0
    · refine mt_iconst dX2_demandPlaceWithNext_9 (v := nI 1) rfl ?_
      refine mp_isub dX2_demandPlaceWithNext_10 (v := -1) (by rw [q0]; rfl) ?_
      refine mt_icmp_ge dX2_demandPlaceWithNext_11 (tgt := 18) rfl (fun q7 => ?_) (fun q7 => ?_)
      · have q7 := Int32.not_lt.mpr q7
        refine mt_iconst dX2_demandPlaceWithNext_18 (v := nI 0) rfl ?_
        refine mt_callS (N := mX2_demandWithin) (Rc := rX2_demandWithin) (As := [.int (nI 0)]) (st := []) dX2_demandPlaceWithNext_19 (kX2_demandWithin_f hl) sX2_demandWithin mw_460 rfl (Nat.le_of_ble_eq_true rfl) ⟨⟨Nat.le_of_ble_eq_true rfl, Nat.le_of_ble_eq_true rfl⟩, Nat.le_of_ble_eq_true rfl, Nat.le_of_ble_eq_true rfl⟩ (fun _ _ _ hv => hv.elim) (fun E h9 n9 hx => ?_)
        obtain ⟨rfl, rfl, rfl⟩ := hx
        refine mt_out rfl ?_ (Nat.le_of_ble_eq_true rfl) (Nat.le_of_ble_eq_true rfl)
        exact ⟨rfl, by first | exact inN_neg (by assumption) | exact inN_big (by assumption) | (rw [q0]; exact inN_0), rfl, rfl⟩
      · have q7 := Int32.not_le.mp q7
        refine mt_iconst dX2_demandPlaceWithNext_14 (v := nI 1) rfl ?_
        refine mt_goto dX2_demandPlaceWithNext_15 (tgt := 19) rfl ?_
        refine mt_callS (N := mX2_demandWithin) (Rc := rX2_demandWithin) (As := [.int (nI 1)]) (st := []) dX2_demandPlaceWithNext_19 (kX2_demandWithin_t hl) sX2_demandWithin mw_460 rfl (Nat.le_of_ble_eq_true rfl) ⟨⟨Nat.le_of_ble_eq_true rfl, Nat.le_of_ble_eq_true rfl⟩, Nat.le_of_ble_eq_true rfl, Nat.le_of_ble_eq_true rfl⟩ (fun v12 h13 n14 c15 => ?_) (fun _ _ _ hx => hx.elim)
        obtain ⟨c15a, c15b, c15c⟩ := c15
        rw [c15a, c15b, c15c]
        show mT _ _ _ _ 22 [.ref a, .int place] [] _ _ _ _
        refine mt_return dX2_demandPlaceWithNext_22 rfl (Nat.le_of_ble_eq_true rfl) (Nat.le_of_ble_eq_true rfl) ?_
        exact (no_m1 q2 q7).elim
    · refine mt_iconst dX2_demandPlaceWithNext_9 (v := nI 1) rfl ?_
      refine mp_isub dX2_demandPlaceWithNext_10 (v := nI (xs.length - 1)) (pk_sub (by omega)) ?_
      refine mt_icmp_ge dX2_demandPlaceWithNext_11 (tgt := 18) rfl (fun q16 => ?_) (fun q16 => ?_)
      · have q16 := Int32.not_lt.mpr q16
        refine mt_iconst dX2_demandPlaceWithNext_18 (v := nI 0) rfl ?_
        refine mt_callS (N := mX2_demandWithin) (Rc := rX2_demandWithin) (As := [.int (nI 0)]) (st := []) dX2_demandPlaceWithNext_19 (kX2_demandWithin_f hl) sX2_demandWithin mw_460 rfl (Nat.le_of_ble_eq_true rfl) ⟨⟨Nat.le_of_ble_eq_true rfl, Nat.le_of_ble_eq_true rfl⟩, Nat.le_of_ble_eq_true rfl, Nat.le_of_ble_eq_true rfl⟩ (fun _ _ _ hv => hv.elim) (fun E h9 n9 hx => ?_)
        obtain ⟨rfl, rfl, rfl⟩ := hx
        refine mt_out rfl ?_ (Nat.le_of_ble_eq_true rfl) (Nat.le_of_ble_eq_true rfl)
        exact ⟨rfl, by first | exact inN_neg (by assumption) | exact inN_big (by assumption) | (rw [q0]; exact inN_0), rfl, rfl⟩
      · have q16 := Int32.not_le.mp q16
        refine mt_iconst dX2_demandPlaceWithNext_14 (v := nI 1) rfl ?_
        refine mt_goto dX2_demandPlaceWithNext_15 (tgt := 19) rfl ?_
        refine mt_callS (N := mX2_demandWithin) (Rc := rX2_demandWithin) (As := [.int (nI 1)]) (st := []) dX2_demandPlaceWithNext_19 (kX2_demandWithin_t hl) sX2_demandWithin mw_460 rfl (Nat.le_of_ble_eq_true rfl) ⟨⟨Nat.le_of_ble_eq_true rfl, Nat.le_of_ble_eq_true rfl⟩, Nat.le_of_ble_eq_true rfl, Nat.le_of_ble_eq_true rfl⟩ (fun v21 h22 n23 c24 => ?_) (fun _ _ _ hx => hx.elim)
        obtain ⟨c24a, c24b, c24c⟩ := c24
        rw [c24a, c24b, c24c]
        show mT _ _ _ _ 22 [.ref a, .int place] [] _ _ _ _
        refine mt_return dX2_demandPlaceWithNext_22 rfl (Nat.le_of_ble_eq_true rfl) (Nat.le_of_ble_eq_true rfl) ?_
        obtain ⟨p, hp, rfl⟩ := inN_mid (k := (xs.length - 1)) (by assumption) (by assumption) (by omega)
        exact ⟨p, hp, rfl, rfl, rfl, rfl⟩
abbrev rX2_done : Room := { frames := 0, cells := 0, slots := 0, locals := 0 }
set_option maxRecDepth 100000 in
set_option maxHeartbeats 2000000 in
theorem kX2_done {l : Launch} (hl : l.stackTraces = false) {h : mH} {n r1 r14 : Nat} {g ac rf kn : Int32} {x : Int32} (C0 : h 0 = .inr (.inr (4, [.ref r1, .ref r14, .int g, .int ac, .int rf, .int kn]))) : mC l mX2_done rX2_done [.ref 0, .int x] h n (fun v h' n' => v = some (.int (x)) ∧ n' = n ∧ h' 0 = .inr (.inr (4, [.ref r1, .ref r14, .int g, .int (ac + nI 1), .int rf, .int kn])) ∧ ∀ j, j ≠ 0 → h' j = h j) (mNX) := by
  refine mm_enter hl (by decide +kernel) rfl rfl rfl (Nat.le_of_ble_eq_true rfl) ?_
  show mT _ _ _ _ 0 [.ref 0, .int x] [] _ _ 0 0
  refine mt_aload_n dX2_done_0 rfl rfl ?_
  refine mt_dup dX2_done_1 rfl ?_
  refine mt_getfield mKX2 (i := 3) (by decide) mw_115 dX2_done_2 C0 rfl ?_
  refine mt_iconst dX2_done_5 (v := nI 1) rfl ?_
  refine mp_iadd dX2_done_6 (v := ac + (nI 1)) rfl ?_
  refine mp_putfield mKX2 (i := 3) (fs' := [.ref r1, .ref r14, .int g, .int (ac + (nI 1)), .int rf, .int kn]) (by decide) mw_115 rfl dX2_done_7 C0 (Nat.le_of_ble_eq_true rfl) rfl rfl (fun h1 e2 f3 => ?_)
  refine mt_iload_n dX2_done_10 rfl ?_
  refine mt_ireturn dX2_done_11 rfl rfl (Nat.le_of_ble_eq_true rfl) (Nat.le_of_ble_eq_true rfl) ?_
  exact ⟨rfl, rfl, e2, fun j hj => f3 j (by omega)⟩
abbrev rX2_refused : Room := { frames := 0, cells := 0, slots := 0, locals := 0 }
set_option maxRecDepth 100000 in
set_option maxHeartbeats 2000000 in
theorem kX2_refused {l : Launch} (hl : l.stackTraces = false) {h : mH} {n r1 r14 : Nat} {g ac rf kn : Int32} (C0 : h 0 = .inr (.inr (4, [.ref r1, .ref r14, .int g, .int ac, .int rf, .int kn]))) : mC l mX2_refused rX2_refused [.ref 0] h n (fun v h' n' => v = some (.int (-9)) ∧ n' = n ∧ h' 0 = .inr (.inr (4, [.ref r1, .ref r14, .int g, .int ac, .int (rf + nI 1), .int kn])) ∧ ∀ j, j ≠ 0 → h' j = h j) (mNX) := by
  refine mm_enter hl (by decide +kernel) rfl rfl rfl (Nat.le_of_ble_eq_true rfl) ?_
  show mT _ _ _ _ 0 [.ref 0] [] _ _ 0 0
  refine mt_aload_n dX2_refused_0 rfl rfl ?_
  refine mt_dup dX2_refused_1 rfl ?_
  refine mt_getfield mKX2 (i := 4) (by decide) mw_116 dX2_refused_2 C0 rfl ?_
  refine mt_iconst dX2_refused_5 (v := nI 1) rfl ?_
  refine mp_iadd dX2_refused_6 (v := rf + (nI 1)) rfl ?_
  refine mp_putfield mKX2 (i := 4) (fs' := [.ref r1, .ref r14, .int g, .int ac, .int (rf + (nI 1)), .int kn]) (by decide) mw_116 rfl dX2_refused_7 C0 (Nat.le_of_ble_eq_true rfl) rfl rfl (fun h1 e2 f3 => ?_)
  refine mt_bipush dX2_refused_10 (v := -9) (by decide) ?_
  refine mt_ireturn dX2_refused_12 rfl rfl (Nat.le_of_ble_eq_true rfl) (Nat.le_of_ble_eq_true rfl) ?_
  exact ⟨rfl, rfl, e2, fun j hj => f3 j (by omega)⟩
abbrev rX2_nextStamp : Room := { frames := 0, cells := 0, slots := 0, locals := 0 }
set_option maxRecDepth 100000 in
set_option maxHeartbeats 2000000 in
theorem kX2_nextStamp {l : Launch} (hl : l.stackTraces = false) {h : mH} {n r1 r14 : Nat} {g ac rf kn : Int32} (C0 : h 0 = .inr (.inr (4, [.ref r1, .ref r14, .int g, .int ac, .int rf, .int kn]))) : mC l mX2_nextStamp rX2_nextStamp [.ref 0] h n (fun v h' n' => v = some (.int (g)) ∧ n' = n ∧ h' 0 = .inr (.inr (4, [.ref r1, .ref r14, .int (g + nI 1), .int ac, .int rf, .int kn])) ∧ ∀ j, j ≠ 0 → h' j = h j) (mNX) := by
  refine mm_enter hl (by decide +kernel) rfl rfl rfl (Nat.le_of_ble_eq_true rfl) ?_
  show mT _ _ _ _ 0 [.ref 0, .double 0] [] _ _ 0 0
  refine mt_aload_n dX2_nextStamp_0 rfl rfl ?_
  refine mt_getfield mKX2 (i := 2) (by decide) mw_114 dX2_nextStamp_1 C0 rfl ?_
  refine mp_istore_n dX2_nextStamp_4 (ls' := [.ref 0, .int g]) rfl (by decide) rfl ?_
  refine mt_aload_n dX2_nextStamp_5 rfl rfl ?_
  refine mt_dup dX2_nextStamp_6 rfl ?_
  refine mt_getfield mKX2 (i := 2) (by decide) mw_114 dX2_nextStamp_7 C0 rfl ?_
  refine mt_iconst dX2_nextStamp_10 (v := nI 1) rfl ?_
  refine mp_iadd dX2_nextStamp_11 (v := g + (nI 1)) rfl ?_
  refine mp_putfield mKX2 (i := 2) (fs' := [.ref r1, .ref r14, .int (g + (nI 1)), .int ac, .int rf, .int kn]) (by decide) mw_114 rfl dX2_nextStamp_12 C0 (Nat.le_of_ble_eq_true rfl) rfl rfl (fun h1 e2 f3 => ?_)
  refine mt_iload_n dX2_nextStamp_15 rfl ?_
  refine mt_ireturn dX2_nextStamp_16 rfl rfl (Nat.le_of_ble_eq_true rfl) (Nat.le_of_ble_eq_true rfl) ?_
  exact ⟨rfl, rfl, e2, fun j hj => f3 j (by omega)⟩
abbrev rX2_stampOfNew : Room := { frames := 1, cells := 0, slots := 0, locals := 21 }
set_option maxRecDepth 100000 in
set_option maxHeartbeats 2000000 in
theorem kX2_stampOfNew {l : Launch} (hl : l.stackTraces = false) {h : mH} {n r1 r14 : Nat} {g ac rf kn : Int32} {a k s : Nat} {b : Bool} {z : Int32} (C0 : h 0 = .inr (.inr (4, [.ref r1, .ref r14, .int g, .int ac, .int rf, .int kn]))) (H : h a = .inr (.inr (3, [.ref k, .ref s, .int (mb b), .int z]))) : mC l mX2_stampOfNew rX2_stampOfNew [.ref 0, .ref a] h n (fun v h' n' => v = some (.int (nst b g)) ∧ n' = n ∧ h' 0 = .inr (.inr (4, [.ref r1, .ref r14, .int (ngv b g), .int ac, .int rf, .int kn])) ∧ ∀ j, j ≠ 0 → h' j = h j) (mNX) := by
  refine mm_enter hl (by decide +kernel) rfl rfl rfl (Nat.le_of_ble_eq_true rfl) ?_
  show mT _ _ _ _ 0 [.ref 0, .ref a] [] _ _ 0 0
  refine mt_aload_n dX2_stampOfNew_0 rfl rfl ?_
  refine mt_getfield mKX1 (i := 2) (by decide) mw_74 dX2_stampOfNew_1 H rfl ?_
  refine mt_if_eq dX2_stampOfNew_4 (tgt := 14) rfl (fun q1 => ?_) (fun q1 => ?_)
  · have q1 : b = false := mb_0.mp q1
    refine mt_iconst dX2_stampOfNew_14 (v := -1) rfl ?_
    refine mt_ireturn dX2_stampOfNew_15 rfl rfl (Nat.le_of_ble_eq_true rfl) (Nat.le_of_ble_eq_true rfl) ?_
    exact ⟨by rw [q1]; rfl, rfl, by rw [q1]; exact C0, fun _ _ => rfl⟩
  · have q1 : b = true := mb_1.mp q1
    refine mt_aload_n dX2_stampOfNew_7 rfl rfl ?_
    refine mt_callV (N := mX2_nextStamp) (Rc := rX2_nextStamp) (As := []) (st := []) dX2_stampOfNew_8 (kX2_nextStamp hl C0) sX2_nextStamp mw_417 mKX2 rfl C0 rfl (Nat.le_of_ble_eq_true rfl) ⟨⟨Nat.le_of_ble_eq_true rfl, Nat.le_of_ble_eq_true rfl⟩, Nat.le_of_ble_eq_true rfl, Nat.le_of_ble_eq_true rfl⟩ (fun v2 h3 n4 c5 => ?_) (fun _ _ _ hx => hx.elim)
    obtain ⟨c5a, c5b, c5c, c5d⟩ := c5
    rw [c5a, c5b]
    show mT _ _ _ _ 11 [.ref 0, .ref a] [.int g] _ _ _ _
    refine mt_goto dX2_stampOfNew_11 (tgt := 15) rfl ?_
    refine mt_ireturn dX2_stampOfNew_15 rfl rfl (Nat.le_of_ble_eq_true rfl) (Nat.le_of_ble_eq_true rfl) ?_
    exact ⟨by rw [q1]; rfl, rfl, by rw [q1]; exact c5c, fun j hj => c5d j (by omega)⟩
