/-! ===== text: the law ===== -/
theorem mAt.frN {h h' : mH} {n n' : Nat} {S : cS} {th : Int32} (H : mAt h n S th) (hn : n ≤ n') (hf : ∀ j, 27 ≤ j → j ≠ 38 → j < n → h' j = h j) : mAt h' n' S th := by
  obtain ⟨c1, c2, kx, sx, c3⟩ := H
  exact ⟨(hf 27 (by omega) (by omega) (by omega)).trans c1, by omega, kx, sx, mRows.fr c3 hn (fun j j1 j2 j3 => hf j (by omega) j2 j3) c2⟩
abbrev rL_text : Room := { frames := 8, cells := 60, slots := 29000, locals := 171 }
set_option maxRecDepth 100000 in
theorem tL_text_x {l : Launch} {h : mH} {n : Nat} {row from_ many : Int32} {y : Int64} {s : Value} (O : h 38 = .inr (.inr (5, [.long y, s]))) {E : String} {h1 : mH} {n1 : Nat} (hx : (E = eI ∨ E = eA) ∧ h1 = h ∧ n1 = n) : mTX l mL_text rL_text (mKo rL_text (fun v h' n' => ∃ c s', v = some (.int (nI c)) ∧ n ≤ n' ∧ h' 38 = .inr (.inr (5, [.long y, s'])) ∧ ∀ j, j < n → j ≠ 38 → h' j = h j) mNX) 6 [.ref 0, .int row, .int from_, .int many, .ref 38, .double 0] E h1 n1 (0 + rX2_text.cells) (0 + rX2_text.slots) := by
  obtain ⟨hE, rfl, rfl⟩ := hx
  rcases hE with rfl | rfl
  · refine mt_catch (nm := "java/lang/IndexOutOfBoundsException") (pre := []) (suf := [(0, 12, 19, 21)]) (x := (0, 12, 15, 19)) rfl (fun z hz => by cases hz) _ rfl rfl (by decide) mw_397 mw_236 ?_
    show mT _ _ _ _ 15 [.ref 0, .int row, .int from_, .int many, .ref 38, .double 0] [.float 0] _ _ _ _
    refine mp_astore dL_text_15 (ls' := [.ref 0, .int row, .int from_, .int many, .ref 38, .float 0]) rfl rfl (by decide) rfl ?_
    refine mt_iconst dL_text_17 (v := nI 1) rfl ?_
    refine mt_ireturn dL_text_18 rfl rfl (by simp only [rX2_text, rL_text]; omega) (by simp only [rX2_text, rL_text]; omega) ?_
    exact ⟨1, _, rfl, Nat.le_refl _, O, fun _ _ _ => rfl⟩
  · refine mt_catch (nm := "java/lang/IllegalArgumentException") (pre := [(0, 12, 15, 19)]) (suf := []) (x := (0, 12, 19, 21)) rfl (fun z hz => by rw [List.mem_singleton.mp hz]; exact Or.inr ⟨by decide, mw_397, rfl⟩) _ rfl rfl (by decide) mw_398 mw_314 ?_
    show mT _ _ _ _ 19 [.ref 0, .int row, .int from_, .int many, .ref 38, .double 0] [.float 0] _ _ _ _
    refine mp_astore dL_text_19 (ls' := [.ref 0, .int row, .int from_, .int many, .ref 38, .float 0]) rfl rfl (by decide) rfl ?_
    refine mt_iconst dL_text_21 (v := nI 2) rfl ?_
    refine mt_ireturn dL_text_22 rfl rfl (by simp only [rX2_text, rL_text]; omega) (by simp only [rX2_text, rL_text]; omega) ?_
    exact ⟨2, _, rfl, Nat.le_refl _, O, fun _ _ _ => rfl⟩
set_option maxRecDepth 100000 in
theorem kL_text {l : Launch} (hl : l.stackTraces = false) {h : mH} {n : Nat} {S : cS} {row from_ many : Int32} {y : Int64} {s : Value} (C : cAt h S) (O : h 38 = .inr (.inr (5, [.long y, s]))) (hn : 39 ≤ n) : mC l mL_text rL_text [.ref 0, .int row, .int from_, .int many, .ref 38] h n (fun v h' n' => ∃ c s', v = some (.int (nI c)) ∧ n ≤ n' ∧ h' 38 = .inr (.inr (5, [.long y, s'])) ∧ ∀ j, j < n → j ≠ 38 → h' j = h j) mNX := by
  refine mm_enterH hl (by decide +kernel) (by intro hh; cases hh) rfl rfl (Nat.le_of_ble_eq_true rfl) ?_
  show mT _ _ _ _ 0 [.ref 0, .int row, .int from_, .int many, .ref 38, .double 0] [] _ _ 0 0
  refine mt_aload dL_text_0 rfl rfl ?_
  refine mt_aload_n dL_text_2 rfl rfl ?_
  refine mt_iload_n dL_text_3 rfl ?_
  refine mt_iload_n dL_text_4 rfl ?_
  refine mt_iload_n dL_text_5 rfl ?_
  refine mt_callV (N := mX2_text) (Rc := rX2_text) (As := [.int row, .int from_, .int many]) (st := [.ref 38]) dL_text_6 (kX2_text hl C (by omega)) sX2_text mw_636 mKX2 rfl C.1 rfl (Nat.le_of_ble_eq_true rfl) ⟨⟨Nat.le_of_ble_eq_true rfl, Nat.le_of_ble_eq_true rfl⟩, (by simp only [rX2_text, rL_text]; omega), (by simp only [rX2_text, rL_text]; omega)⟩ (fun v1 h2 n3 c4 => ?_) (fun E h9 n9 hx => tL_text_x O hx)
  obtain ⟨k, c4a, c4b, c4d⟩ := c4
  rw [c4a]
  show mT _ _ _ _ 9 [.ref 0, .int row, .int from_, .int many, .ref 38, .double 0] [.ref k, .ref 38] _ _ _ _
  refine mp_putfieldN mKX3 (i := 1) (fs' := [.long y, .ref k]) (by decide) mw_388 rfl dL_text_9 ((c4d 38 (by omega)).trans O) (Nat.le_of_ble_eq_true rfl) rfl rfl (fun h5 e6 f7 => ?_)
  refine mt_goto dL_text_12 (tgt := 23) rfl ?_
  refine mt_iconst dL_text_23 (v := nI 0) rfl ?_
  refine mt_ireturn dL_text_24 rfl rfl (by simp only [rX2_text, rL_text]; omega) (by simp only [rX2_text, rL_text]; omega) ?_
  exact ⟨0, _, rfl, by omega, e6, fun j hj j2 => (f7 j (by omega)).trans (c4d j (by omega))⟩
set_option maxRecDepth 100000 in
set_option maxHeartbeats 2000000 in
theorem tL_c23 {l : Launch} (hl : l.stackTraces = false) {L : Nat} {xs : Nat → Int32} : lawCase l L xs 1188 := by
  intro i h n S th y s cc sc hi6 hL C M O hcc hsc kk
  show mT _ _ _ _ 1188 [.retAddr 0, .ref 0, .ref 27, .ref 38, .int (nI i), .double 0, .double 0] [] _ _ _ _
  refine mt_aload_n dL_law_1188 rfl rfl ?_
  refine mt_aload_n dL_law_1189 rfl rfl ?_
  refine mt_iload dL_law_1190 rfl ?_
  refine mt_iconst dL_law_1192 (v := nI 1) rfl ?_
  refine mp_iadd dL_law_1193 (v := nI (i + 1)) (nI_add _ _) ?_
  refine mx_ld dL_law_1194 rfl (j := i + 1) (by omega) (by omega) ?_
  refine mt_aload_n dL_law_1195 rfl rfl ?_
  refine mt_iload dL_law_1196 rfl ?_
  refine mt_iconst dL_law_1198 (v := nI 2) rfl ?_
  refine mp_iadd dL_law_1199 (v := nI (i + 2)) (nI_add _ _) ?_
  refine mx_ld dL_law_1200 rfl (j := i + 2) (by omega) (by omega) ?_
  refine mt_aload_n dL_law_1201 rfl rfl ?_
  refine mt_iload dL_law_1202 rfl ?_
  refine mt_iconst dL_law_1204 (v := nI 3) rfl ?_
  refine mp_iadd dL_law_1205 (v := nI (i + 3)) (nI_add _ _) ?_
  refine mx_ld dL_law_1206 rfl (j := i + 3) (by omega) (by omega) ?_
  refine mt_aload_n dL_law_1207 rfl rfl ?_
  have h39 := M.2.1
  refine mt_callSW (N := mL_text) (Rc := rL_text) (As := [.ref 0, .int (xs (i + 1)), .int (xs (i + 2)), .int (xs (i + 3)), .ref 38]) (st := []) dL_law_1208 (kL_text hl C O (by omega)) sL_text mw_633 rfl (Nat.le_of_ble_eq_true rfl) ⟨⟨Nat.le_of_ble_eq_true rfl, Nat.le_of_ble_eq_true rfl⟩, (by simp only [rL_text, rX4_text, room_1]; omega), (by simp only [rL_text, rX4_text, room_1]; omega)⟩ (fun v1 h2 n3 c4 => ?_) (fun _ _ _ hx => hx.elim)
  obtain ⟨kc4, sc4, c4a, c4b, c4d, c4e⟩ := c4
  rw [c4a]
  have Cc4 := cAt.fr2 C (fun j hj => c4e j (by omega) (by omega))
  have Mc4 := mAt.frN M c4b (fun j j1 j2 j3 => c4e j j3 j2)
  show mT _ _ _ _ 1211 [.retAddr 0, .ref 0, .ref 27, .ref 38, .int (nI i), .double 0, .double 0] [.int (nI kc4)] _ _ _ _
  refine mp_istore dL_law_1211 (ls' := [.retAddr 0, .ref 0, .ref 27, .ref 38, .int (nI i), .int (nI kc4), .double 0]) rfl (by decide) rfl ?_
  refine mt_aload_n dL_law_1213 rfl rfl ?_
  refine mt_aload_n dL_law_1214 rfl rfl ?_
  refine mt_iload dL_law_1215 rfl ?_
  refine mt_iconst dL_law_1217 (v := nI 1) rfl ?_
  refine mp_iadd dL_law_1218 (v := nI (i + 1)) (nI_add _ _) ?_
  refine mx_ld dL_law_1219 rfl (j := i + 1) (by omega) (by omega) ?_
  refine mt_aload_n dL_law_1220 rfl rfl ?_
  refine mt_iload dL_law_1221 rfl ?_
  refine mt_iconst dL_law_1223 (v := nI 2) rfl ?_
  refine mp_iadd dL_law_1224 (v := nI (i + 2)) (nI_add _ _) ?_
  refine mx_ld dL_law_1225 rfl (j := i + 2) (by omega) (by omega) ?_
  refine mt_aload_n dL_law_1226 rfl rfl ?_
  refine mt_iload dL_law_1227 rfl ?_
  refine mt_iconst dL_law_1229 (v := nI 3) rfl ?_
  refine mp_iadd dL_law_1230 (v := nI (i + 3)) (nI_add _ _) ?_
  refine mx_ld dL_law_1231 rfl (j := i + 3) (by omega) (by omega) ?_
  refine mt_callV (N := mX4_text) (Rc := rX4_text) (As := [.int (xs (i + 1)), .int (xs (i + 2)), .int (xs (i + 3))]) (st := []) dL_law_1232 (kX4_text hl Mc4) sX4_text mw_1251 mKX4 rfl Mc4.1 rfl (Nat.le_of_ble_eq_true rfl) ⟨⟨Nat.le_of_ble_eq_true rfl, Nat.le_of_ble_eq_true rfl⟩, (by simp only [rL_text, rX4_text, room_1]; omega), (by simp only [rL_text, rX4_text, room_1]; omega)⟩ (fun v5 h6 n7 c8 => ?_) (fun _ _ _ hx => hx.elim)
  obtain ⟨t9, hw9, hn9, M9, hf9⟩ := c8
  have C9 := cAt.fr2 Cc4 (fun j hj => hf9 j (Or.inl hj))
  have O9 := (hf9 38 (Or.inr rfl)).trans c4d
  rcases hw9 with hw9 | ⟨k9, hw9⟩
  · rw [hw9]
    show mT _ _ _ _ 1235 [.retAddr 0, .ref 0, .ref 27, .ref 38, .int (nI i), .int (nI kc4), .double 0] [.float 0] _ _ _ _
    refine mp_astore dL_law_1235 (ls' := [.retAddr 0, .ref 0, .ref 27, .ref 38, .int (nI i), .int (nI kc4), .float 0]) rfl rfl (by decide) rfl ?_
    refine mt_goto dL_law_1237 (tgt := 2003) rfl ?_
    refine mt_drop 5 (ls' := [.retAddr 0, .ref 0, .ref 27, .ref 38, .int (nI i), .double 0, .float 0]) rfl ?_
    refine mt_drop 6 (ls' := [.retAddr 0, .ref 0, .ref 27, .ref 38, .int (nI i), .double 0, .double 0]) rfl ?_
    refine mt_widen (cc' := cc + 9000) (sc' := sc + 62000) (by simp only [rL_text, rX4_text]; omega) (by simp only [rL_text, rX4_text]; omega) ?_
    exact kk _ _ _ _ _ _ C9 M9 O9
  · rw [hw9]
    show mT _ _ _ _ 1235 [.retAddr 0, .ref 0, .ref 27, .ref 38, .int (nI i), .int (nI kc4), .double 0] [.ref k9] _ _ _ _
    refine mp_astore dL_law_1235 (ls' := [.retAddr 0, .ref 0, .ref 27, .ref 38, .int (nI i), .int (nI kc4), .ref k9]) rfl rfl (by decide) rfl ?_
    refine mt_goto dL_law_1237 (tgt := 2003) rfl ?_
    refine mt_drop 5 (ls' := [.retAddr 0, .ref 0, .ref 27, .ref 38, .int (nI i), .double 0, .ref k9]) rfl ?_
    refine mt_drop 6 (ls' := [.retAddr 0, .ref 0, .ref 27, .ref 38, .int (nI i), .double 0, .double 0]) rfl ?_
    refine mt_widen (cc' := cc + 9000) (sc' := sc + 62000) (by simp only [rL_text, rX4_text]; omega) (by simp only [rL_text, rX4_text]; omega) ?_
    exact kk _ _ _ _ _ _ C9 M9 O9
