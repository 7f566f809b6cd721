/-! ===== the law: its cases ===== -/
theorem mOk.gs {o : Nat × Value × cS} {S : cS} {h h' : mH} {n n' : Nat} {v : Option Value} (hi : oI vI true true o) (hc : mOk o (.int (nI 0)) h n v h' n') : ∃ (x : Int32) (th : Int32), v = some (.int x) ∧ n ≤ n' ∧ mAt h' n' o.2.2 th ∧ ∀ j, (j < 27 ∨ j = 38) → h' j = h j := by
  obtain ⟨c1, c2, c3, c4⟩ := hc
  rcases hi with ⟨z, x, zx⟩ | ⟨z, -⟩ | ⟨z, -⟩
  · exact ⟨x, _, by rw [c1, if_pos z, zx], c2, c3, c4⟩
  · exact ⟨_, _, by rw [c1, if_neg (by rw [z]; decide)], c2, c3, c4⟩
  · exact ⟨_, _, by rw [c1, if_neg (by rw [z]; decide)], c2, c3, c4⟩
theorem oI.lt {v : Value → Prop} {a b : Bool} {o : Nat × Value × cS} (h : oI v a b o) : o.1 < 3 := by
  rcases h with ⟨z, -⟩ | ⟨z, -⟩ | ⟨z, -⟩ <;> omega
theorem oI.int {v : Value → Prop} {a b : Bool} {o : Nat × Value × cS} (h : oI v a b o) (hv : v (.int (nI 0))) : v (if o.1 = 0 then o.2.1 else .int (nI 0)) := by
  rcases h with ⟨z, zx⟩ | ⟨z, -⟩ | ⟨z, -⟩
  · rw [if_pos z]; exact zx
  · rw [if_neg (by omega)]; exact hv
  · rw [if_neg (by omega)]; exact hv
theorem mAt.fr {h h' : mH} {n n' : Nat} {S : cS} {th : Int32} (H : mAt h n S th) (hn : n ≤ n') (hf : ∀ j, 27 ≤ j → j ≠ 38 → h' j = h j) : mAt h' n' S th := by
  obtain ⟨c1, c2, kx, sx, c3⟩ := H
  exact ⟨(hf 27 (by omega) (by omega)).trans c1, by omega, kx, sx, mRows.fr c3 hn (fun j j1 j2 j3 => hf j (by omega) j2) c2⟩
theorem oim_mp_fill {S : cS} {row : Int32} {many : Int32} {pattern : Int32} {a : Int32} {b : Int32} : oI vI true true (mp_fill S row many pattern a b) := by
  unfold mp_fill
  repeat' first | exact Or.inl ⟨rfl, _, rfl⟩ | exact Or.inr (Or.inr ⟨rfl, rfl⟩) | exact Or.inr (Or.inl ⟨rfl, rfl⟩) | refine dAt_o (fun r => ?_) | refine dArg_o (fun r => ?_) | refine dFit_o ?_ | refine dB_o (fun r => ?_) | refine dKeep_o (fun p t => ?_) | split
set_option maxRecDepth 100000 in
set_option maxHeartbeats 2000000 in
theorem tL_c0 {l : Launch} (hl : l.stackTraces = false) {L : Nat} {xs : Nat → Int32} : lawCase l L xs 244 := by
  intro i h n S th y s cc sc hi6 hL C M O hcc hsc kk
  have hS := lenOk_of C
  show mT _ _ _ _ 244 [.retAddr 0, .ref 0, .ref 27, .ref 38, .int (nI i), .double 0, .double 0] [] _ _ _ _
  refine mt_aload_n dL_law_244 rfl rfl ?_
  refine mt_aload_n dL_law_245 rfl rfl ?_
  refine mt_iload dL_law_246 rfl ?_
  refine mt_iconst dL_law_248 (v := nI 1) rfl ?_
  refine mp_iadd dL_law_249 (v := nI (i + 1)) (nI_add _ _) ?_
  refine mx_ld dL_law_250 rfl (j := i + 1) (by omega) (by omega) ?_
  refine mt_aload_n dL_law_251 rfl rfl ?_
  refine mt_iload dL_law_252 rfl ?_
  refine mt_iconst dL_law_254 (v := nI 2) rfl ?_
  refine mp_iadd dL_law_255 (v := nI (i + 2)) (nI_add _ _) ?_
  refine mx_ld dL_law_256 rfl (j := i + 2) (by omega) (by omega) ?_
  refine mt_aload_n dL_law_257 rfl rfl ?_
  refine mt_iload dL_law_258 rfl ?_
  refine mt_iconst dL_law_260 (v := nI 3) rfl ?_
  refine mp_iadd dL_law_261 (v := nI (i + 3)) (nI_add _ _) ?_
  refine mx_ld dL_law_262 rfl (j := i + 3) (by omega) (by omega) ?_
  refine mt_aload_n dL_law_263 rfl rfl ?_
  refine mt_iload dL_law_264 rfl ?_
  refine mt_iconst dL_law_266 (v := nI 4) rfl ?_
  refine mp_iadd dL_law_267 (v := nI (i + 4)) (nI_add _ _) ?_
  refine mx_ld dL_law_268 rfl (j := i + 4) (by omega) (by omega) ?_
  refine mt_aload_n dL_law_269 rfl rfl ?_
  refine mt_iload dL_law_270 rfl ?_
  refine mt_iconst dL_law_272 (v := nI 5) rfl ?_
  refine mp_iadd dL_law_273 (v := nI (i + 5)) (nI_add _ _) ?_
  refine mx_ld dL_law_274 rfl (j := i + 5) (by omega) (by omega) ?_
  refine mt_aload_n dL_law_275 rfl rfl ?_
  refine mt_callSW (N := mL_fill) (Rc := rL_fill) (As := [.ref 0, .int (xs (i + 1)), .int (xs (i + 2)), .int (xs (i + 3)), .int (xs (i + 4)), .int (xs (i + 5)), .ref 38]) (st := []) dL_law_276 (kL_fill hl C O) sL_fill mw_394 rfl (Nat.le_of_ble_eq_true rfl) ⟨⟨Nat.le_of_ble_eq_true rfl, Nat.le_of_ble_eq_true rfl⟩, (by simp only [rL_fill, rX4_fill, room_1]; omega), (by simp only [rL_fill, rX4_fill, room_1]; omega)⟩ (fun v1 h2 n3 c4 => ?_) (fun _ _ _ hx => hx.elim)
  obtain ⟨c4a, c4b, c4c, ⟨yc4, c4d, c4z⟩, c4e⟩ := c4
  rw [c4a, c4b]
  have Cc4 : cAt h2 (stOf S (sp_fill S (xs (i + 1)) (xs (i + 2)) (xs (i + 3)) (xs (i + 4)) (xs (i + 5)))) := c4c
  have Mc4 := mAt.fr M (Nat.le_refl _) c4e
  show mT _ _ _ _ 279 [.retAddr 0, .ref 0, .ref 27, .ref 38, .int (nI i), .double 0, .double 0] [.int (nI ((sp_fill S (xs (i + 1)) (xs (i + 2)) (xs (i + 3)) (xs (i + 4)) (xs (i + 5))).1))] _ _ _ _
  refine mp_istore dL_law_279 (ls' := [.retAddr 0, .ref 0, .ref 27, .ref 38, .int (nI i), .int (nI ((sp_fill S (xs (i + 1)) (xs (i + 2)) (xs (i + 3)) (xs (i + 4)) (xs (i + 5))).1)), .double 0]) rfl (by decide) rfl ?_
  refine mt_aload_n dL_law_281 rfl rfl ?_
  refine mt_aload_n dL_law_282 rfl rfl ?_
  refine mt_iload dL_law_283 rfl ?_
  refine mt_iconst dL_law_285 (v := nI 1) rfl ?_
  refine mp_iadd dL_law_286 (v := nI (i + 1)) (nI_add _ _) ?_
  refine mx_ld dL_law_287 rfl (j := i + 1) (by omega) (by omega) ?_
  refine mt_aload_n dL_law_288 rfl rfl ?_
  refine mt_iload dL_law_289 rfl ?_
  refine mt_iconst dL_law_291 (v := nI 2) rfl ?_
  refine mp_iadd dL_law_292 (v := nI (i + 2)) (nI_add _ _) ?_
  refine mx_ld dL_law_293 rfl (j := i + 2) (by omega) (by omega) ?_
  refine mt_aload_n dL_law_294 rfl rfl ?_
  refine mt_iload dL_law_295 rfl ?_
  refine mt_iconst dL_law_297 (v := nI 3) rfl ?_
  refine mp_iadd dL_law_298 (v := nI (i + 3)) (nI_add _ _) ?_
  refine mx_ld dL_law_299 rfl (j := i + 3) (by omega) (by omega) ?_
  refine mt_aload_n dL_law_300 rfl rfl ?_
  refine mt_iload dL_law_301 rfl ?_
  refine mt_iconst dL_law_303 (v := nI 4) rfl ?_
  refine mp_iadd dL_law_304 (v := nI (i + 4)) (nI_add _ _) ?_
  refine mx_ld dL_law_305 rfl (j := i + 4) (by omega) (by omega) ?_
  refine mt_aload_n dL_law_306 rfl rfl ?_
  refine mt_iload dL_law_307 rfl ?_
  refine mt_iconst dL_law_309 (v := nI 5) rfl ?_
  refine mp_iadd dL_law_310 (v := nI (i + 5)) (nI_add _ _) ?_
  refine mx_ld dL_law_311 rfl (j := i + 5) (by omega) (by omega) ?_
  refine mt_callV (N := mX4_fill) (Rc := rX4_fill) (As := [.int (xs (i + 1)), .int (xs (i + 2)), .int (xs (i + 3)), .int (xs (i + 4)), .int (xs (i + 5))]) (st := []) dL_law_312 (kX4_fill hl Mc4) sX4_fill mw_1079 mKX4 rfl Mc4.1 rfl (Nat.le_of_ble_eq_true rfl) ⟨⟨Nat.le_of_ble_eq_true rfl, Nat.le_of_ble_eq_true rfl⟩, (by simp only [rL_fill, rX4_fill, room_1]; omega), (by simp only [rL_fill, rX4_fill, room_1]; omega)⟩ (fun v5 h6 n7 c8 => ?_) (fun _ _ _ hx => hx.elim)
  obtain ⟨xc8, tc8, c8a, c8b, c8m, c8e⟩ := mOk.gs (S := S) (oim_mp_fill (S := S)) c8
  have Mc8 : mAt h6 n7 (stOf S (sp_fill S (xs (i + 1)) (xs (i + 2)) (xs (i + 3)) (xs (i + 4)) (xs (i + 5)))) (tc8) := by rw [← eqS_fill]; exact c8m
  have Cc8 := cAt.fr2 Cc4 (fun j hj => c8e j (Or.inl hj))
  have Oc8 := (c8e 38 (Or.inr rfl)).trans c4d
  rw [c8a]
  show mT _ _ _ _ 315 [.retAddr 0, .ref 0, .ref 27, .ref 38, .int (nI i), .int (nI ((sp_fill S (xs (i + 1)) (xs (i + 2)) (xs (i + 3)) (xs (i + 4)) (xs (i + 5))).1)), .double 0] [.int xc8] _ _ _ _
  refine mp_istore dL_law_315 (ls' := [.retAddr 0, .ref 0, .ref 27, .ref 38, .int (nI i), .int (nI ((sp_fill S (xs (i + 1)) (xs (i + 2)) (xs (i + 3)) (xs (i + 4)) (xs (i + 5))).1)), .int xc8]) rfl (by decide) rfl ?_
  refine mt_goto dL_law_317 (tgt := 2003) rfl ?_
  refine mt_drop 5 (ls' := [.retAddr 0, .ref 0, .ref 27, .ref 38, .int (nI i), .double 0, .int xc8]) rfl ?_
  refine mt_drop 6 (ls' := [.retAddr 0, .ref 0, .ref 27, .ref 38, .int (nI i), .double 0, .double 0]) rfl ?_
  refine mt_widen (cc' := cc + 9000) (sc' := sc + 62000) (by simp only [rL_fill, rX4_fill]; omega) (by simp only [rL_fill, rX4_fill]; omega) ?_
  exact kk _ _ _ _ _ _ Cc8 Mc8 Oc8
theorem oim_mp_add {S : cS} {row : Int32} {key : Int32} : oI vI true true (mp_add S row key) := by
  unfold mp_add
  repeat' first | exact Or.inl ⟨rfl, _, rfl⟩ | exact Or.inr (Or.inr ⟨rfl, rfl⟩) | exact Or.inr (Or.inl ⟨rfl, rfl⟩) | refine dAt_o (fun r => ?_) | refine dArg_o (fun r => ?_) | refine dFit_o ?_ | refine dB_o (fun r => ?_) | refine dKeep_o (fun p t => ?_) | split
set_option maxRecDepth 100000 in
set_option maxHeartbeats 2000000 in
theorem tL_c1 {l : Launch} (hl : l.stackTraces = false) {L : Nat} {xs : Nat → Int32} : lawCase l L xs 320 := by
  intro i h n S th y s cc sc hi6 hL C M O hcc hsc kk
  have hS := lenOk_of C
  show mT _ _ _ _ 320 [.retAddr 0, .ref 0, .ref 27, .ref 38, .int (nI i), .double 0, .double 0] [] _ _ _ _
  refine mt_aload_n dL_law_320 rfl rfl ?_
  refine mt_aload_n dL_law_321 rfl rfl ?_
  refine mt_iload dL_law_322 rfl ?_
  refine mt_iconst dL_law_324 (v := nI 1) rfl ?_
  refine mp_iadd dL_law_325 (v := nI (i + 1)) (nI_add _ _) ?_
  refine mx_ld dL_law_326 rfl (j := i + 1) (by omega) (by omega) ?_
  refine mt_aload_n dL_law_327 rfl rfl ?_
  refine mt_iload dL_law_328 rfl ?_
  refine mt_iconst dL_law_330 (v := nI 2) rfl ?_
  refine mp_iadd dL_law_331 (v := nI (i + 2)) (nI_add _ _) ?_
  refine mx_ld dL_law_332 rfl (j := i + 2) (by omega) (by omega) ?_
  refine mt_aload_n dL_law_333 rfl rfl ?_
  refine mt_callSW (N := mL_add) (Rc := rL_add) (As := [.ref 0, .int (xs (i + 1)), .int (xs (i + 2)), .ref 38]) (st := []) dL_law_334 (kL_add hl C O) sL_add mw_434 rfl (Nat.le_of_ble_eq_true rfl) ⟨⟨Nat.le_of_ble_eq_true rfl, Nat.le_of_ble_eq_true rfl⟩, (by simp only [rL_add, rX4_add, room_1]; omega), (by simp only [rL_add, rX4_add, room_1]; omega)⟩ (fun v1 h2 n3 c4 => ?_) (fun _ _ _ hx => hx.elim)
  obtain ⟨c4a, c4b, c4c, ⟨yc4, c4d, c4z⟩, c4e⟩ := c4
  rw [c4a, c4b]
  have Cc4 : cAt h2 (stOf S (sp_add S (xs (i + 1)) (xs (i + 2)))) := c4c
  have Mc4 := mAt.fr M (Nat.le_refl _) c4e
  show mT _ _ _ _ 337 [.retAddr 0, .ref 0, .ref 27, .ref 38, .int (nI i), .double 0, .double 0] [.int (nI ((sp_add S (xs (i + 1)) (xs (i + 2))).1))] _ _ _ _
  refine mp_istore dL_law_337 (ls' := [.retAddr 0, .ref 0, .ref 27, .ref 38, .int (nI i), .int (nI ((sp_add S (xs (i + 1)) (xs (i + 2))).1)), .double 0]) rfl (by decide) rfl ?_
  refine mt_aload_n dL_law_339 rfl rfl ?_
  refine mt_aload_n dL_law_340 rfl rfl ?_
  refine mt_iload dL_law_341 rfl ?_
  refine mt_iconst dL_law_343 (v := nI 1) rfl ?_
  refine mp_iadd dL_law_344 (v := nI (i + 1)) (nI_add _ _) ?_
  refine mx_ld dL_law_345 rfl (j := i + 1) (by omega) (by omega) ?_
  refine mt_aload_n dL_law_346 rfl rfl ?_
  refine mt_iload dL_law_347 rfl ?_
  refine mt_iconst dL_law_349 (v := nI 2) rfl ?_
  refine mp_iadd dL_law_350 (v := nI (i + 2)) (nI_add _ _) ?_
  refine mx_ld dL_law_351 rfl (j := i + 2) (by omega) (by omega) ?_
  refine mt_callV (N := mX4_add) (Rc := rX4_add) (As := [.int (xs (i + 1)), .int (xs (i + 2))]) (st := []) dL_law_352 (kX4_add hl Mc4) sX4_add mw_1109 mKX4 rfl Mc4.1 rfl (Nat.le_of_ble_eq_true rfl) ⟨⟨Nat.le_of_ble_eq_true rfl, Nat.le_of_ble_eq_true rfl⟩, (by simp only [rL_add, rX4_add, room_1]; omega), (by simp only [rL_add, rX4_add, room_1]; omega)⟩ (fun v5 h6 n7 c8 => ?_) (fun _ _ _ hx => hx.elim)
  obtain ⟨xc8, tc8, c8a, c8b, c8m, c8e⟩ := mOk.gs (S := S) (oim_mp_add (S := S)) c8
  have Mc8 : mAt h6 n7 (stOf S (sp_add S (xs (i + 1)) (xs (i + 2)))) (tc8) := by rw [← eqS_add hS]; exact c8m
  have Cc8 := cAt.fr2 Cc4 (fun j hj => c8e j (Or.inl hj))
  have Oc8 := (c8e 38 (Or.inr rfl)).trans c4d
  rw [c8a]
  show mT _ _ _ _ 355 [.retAddr 0, .ref 0, .ref 27, .ref 38, .int (nI i), .int (nI ((sp_add S (xs (i + 1)) (xs (i + 2))).1)), .double 0] [.int xc8] _ _ _ _
  refine mp_istore dL_law_355 (ls' := [.retAddr 0, .ref 0, .ref 27, .ref 38, .int (nI i), .int (nI ((sp_add S (xs (i + 1)) (xs (i + 2))).1)), .int xc8]) rfl (by decide) rfl ?_
  refine mt_goto dL_law_357 (tgt := 2003) rfl ?_
  refine mt_drop 5 (ls' := [.retAddr 0, .ref 0, .ref 27, .ref 38, .int (nI i), .double 0, .int xc8]) rfl ?_
  refine mt_drop 6 (ls' := [.retAddr 0, .ref 0, .ref 27, .ref 38, .int (nI i), .double 0, .double 0]) rfl ?_
  refine mt_widen (cc' := cc + 9000) (sc' := sc + 62000) (by simp only [rL_add, rX4_add]; omega) (by simp only [rL_add, rX4_add]; omega) ?_
  exact kk _ _ _ _ _ _ Cc8 Mc8 Oc8
theorem oim_mp_put {S : cS} {row : Int32} {place : Int32} {key : Int32} : oI vI true true (mp_put S row place key) := by
  unfold mp_put
  repeat' first | exact Or.inl ⟨rfl, _, rfl⟩ | exact Or.inr (Or.inr ⟨rfl, rfl⟩) | exact Or.inr (Or.inl ⟨rfl, rfl⟩) | refine dAt_o (fun r => ?_) | refine dArg_o (fun r => ?_) | refine dFit_o ?_ | refine dB_o (fun r => ?_) | refine dKeep_o (fun p t => ?_) | split
set_option maxRecDepth 100000 in
set_option maxHeartbeats 2000000 in
theorem tL_c2 {l : Launch} (hl : l.stackTraces = false) {L : Nat} {xs : Nat → Int32} : lawCase l L xs 360 := by
  intro i h n S th y s cc sc hi6 hL C M O hcc hsc kk
  have hS := lenOk_of C
  show mT _ _ _ _ 360 [.retAddr 0, .ref 0, .ref 27, .ref 38, .int (nI i), .double 0, .double 0] [] _ _ _ _
  refine mt_aload_n dL_law_360 rfl rfl ?_
  refine mt_aload_n dL_law_361 rfl rfl ?_
  refine mt_iload dL_law_362 rfl ?_
  refine mt_iconst dL_law_364 (v := nI 1) rfl ?_
  refine mp_iadd dL_law_365 (v := nI (i + 1)) (nI_add _ _) ?_
  refine mx_ld dL_law_366 rfl (j := i + 1) (by omega) (by omega) ?_
  refine mt_aload_n dL_law_367 rfl rfl ?_
  refine mt_iload dL_law_368 rfl ?_
  refine mt_iconst dL_law_370 (v := nI 2) rfl ?_
  refine mp_iadd dL_law_371 (v := nI (i + 2)) (nI_add _ _) ?_
  refine mx_ld dL_law_372 rfl (j := i + 2) (by omega) (by omega) ?_
  refine mt_aload_n dL_law_373 rfl rfl ?_
  refine mt_iload dL_law_374 rfl ?_
  refine mt_iconst dL_law_376 (v := nI 3) rfl ?_
  refine mp_iadd dL_law_377 (v := nI (i + 3)) (nI_add _ _) ?_
  refine mx_ld dL_law_378 rfl (j := i + 3) (by omega) (by omega) ?_
  refine mt_aload_n dL_law_379 rfl rfl ?_
  refine mt_callSW (N := mL_put) (Rc := rL_put) (As := [.ref 0, .int (xs (i + 1)), .int (xs (i + 2)), .int (xs (i + 3)), .ref 38]) (st := []) dL_law_380 (kL_put hl C O) sL_put mw_450 rfl (Nat.le_of_ble_eq_true rfl) ⟨⟨Nat.le_of_ble_eq_true rfl, Nat.le_of_ble_eq_true rfl⟩, (by simp only [rL_put, rX4_put, room_1]; omega), (by simp only [rL_put, rX4_put, room_1]; omega)⟩ (fun v1 h2 n3 c4 => ?_) (fun _ _ _ hx => hx.elim)
  obtain ⟨c4a, c4b, c4c, ⟨yc4, c4d, c4z⟩, c4e⟩ := c4
  rw [c4a, c4b]
  have Cc4 : cAt h2 (stOf S (sp_put S (xs (i + 1)) (xs (i + 2)) (xs (i + 3)))) := c4c
  have Mc4 := mAt.fr M (Nat.le_refl _) c4e
  show mT _ _ _ _ 383 [.retAddr 0, .ref 0, .ref 27, .ref 38, .int (nI i), .double 0, .double 0] [.int (nI ((sp_put S (xs (i + 1)) (xs (i + 2)) (xs (i + 3))).1))] _ _ _ _
  refine mp_istore dL_law_383 (ls' := [.retAddr 0, .ref 0, .ref 27, .ref 38, .int (nI i), .int (nI ((sp_put S (xs (i + 1)) (xs (i + 2)) (xs (i + 3))).1)), .double 0]) rfl (by decide) rfl ?_
  refine mt_aload_n dL_law_385 rfl rfl ?_
  refine mt_aload_n dL_law_386 rfl rfl ?_
  refine mt_iload dL_law_387 rfl ?_
  refine mt_iconst dL_law_389 (v := nI 1) rfl ?_
  refine mp_iadd dL_law_390 (v := nI (i + 1)) (nI_add _ _) ?_
  refine mx_ld dL_law_391 rfl (j := i + 1) (by omega) (by omega) ?_
  refine mt_aload_n dL_law_392 rfl rfl ?_
  refine mt_iload dL_law_393 rfl ?_
  refine mt_iconst dL_law_395 (v := nI 2) rfl ?_
  refine mp_iadd dL_law_396 (v := nI (i + 2)) (nI_add _ _) ?_
  refine mx_ld dL_law_397 rfl (j := i + 2) (by omega) (by omega) ?_
  refine mt_aload_n dL_law_398 rfl rfl ?_
  refine mt_iload dL_law_399 rfl ?_
  refine mt_iconst dL_law_401 (v := nI 3) rfl ?_
  refine mp_iadd dL_law_402 (v := nI (i + 3)) (nI_add _ _) ?_
  refine mx_ld dL_law_403 rfl (j := i + 3) (by omega) (by omega) ?_
  refine mt_callV (N := mX4_put) (Rc := rX4_put) (As := [.int (xs (i + 1)), .int (xs (i + 2)), .int (xs (i + 3))]) (st := []) dL_law_404 (kX4_put hl Mc4) sX4_put mw_1122 mKX4 rfl Mc4.1 rfl (Nat.le_of_ble_eq_true rfl) ⟨⟨Nat.le_of_ble_eq_true rfl, Nat.le_of_ble_eq_true rfl⟩, (by simp only [rL_put, rX4_put, room_1]; omega), (by simp only [rL_put, rX4_put, room_1]; omega)⟩ (fun v5 h6 n7 c8 => ?_) (fun _ _ _ hx => hx.elim)
  obtain ⟨xc8, tc8, c8a, c8b, c8m, c8e⟩ := mOk.gs (S := S) (oim_mp_put (S := S)) c8
  have Mc8 : mAt h6 n7 (stOf S (sp_put S (xs (i + 1)) (xs (i + 2)) (xs (i + 3)))) (tc8) := by rw [← eqS_put hS]; exact c8m
  have Cc8 := cAt.fr2 Cc4 (fun j hj => c8e j (Or.inl hj))
  have Oc8 := (c8e 38 (Or.inr rfl)).trans c4d
  rw [c8a]
  show mT _ _ _ _ 407 [.retAddr 0, .ref 0, .ref 27, .ref 38, .int (nI i), .int (nI ((sp_put S (xs (i + 1)) (xs (i + 2)) (xs (i + 3))).1)), .double 0] [.int xc8] _ _ _ _
  refine mp_istore dL_law_407 (ls' := [.retAddr 0, .ref 0, .ref 27, .ref 38, .int (nI i), .int (nI ((sp_put S (xs (i + 1)) (xs (i + 2)) (xs (i + 3))).1)), .int xc8]) rfl (by decide) rfl ?_
  refine mt_goto dL_law_409 (tgt := 2003) rfl ?_
  refine mt_drop 5 (ls' := [.retAddr 0, .ref 0, .ref 27, .ref 38, .int (nI i), .double 0, .int xc8]) rfl ?_
  refine mt_drop 6 (ls' := [.retAddr 0, .ref 0, .ref 27, .ref 38, .int (nI i), .double 0, .double 0]) rfl ?_
  refine mt_widen (cc' := cc + 9000) (sc' := sc + 62000) (by simp only [rL_put, rX4_put]; omega) (by simp only [rL_put, rX4_put]; omega) ?_
  exact kk _ _ _ _ _ _ Cc8 Mc8 Oc8
theorem oim_mp_drop {S : cS} {row : Int32} {place : Int32} : oI vI true true (mp_drop S row place) := by
  unfold mp_drop
  repeat' first | exact Or.inl ⟨rfl, _, rfl⟩ | exact Or.inr (Or.inr ⟨rfl, rfl⟩) | exact Or.inr (Or.inl ⟨rfl, rfl⟩) | refine dAt_o (fun r => ?_) | refine dArg_o (fun r => ?_) | refine dFit_o ?_ | refine dB_o (fun r => ?_) | refine dKeep_o (fun p t => ?_) | split
set_option maxRecDepth 100000 in
set_option maxHeartbeats 2000000 in
theorem tL_c3 {l : Launch} (hl : l.stackTraces = false) {L : Nat} {xs : Nat → Int32} : lawCase l L xs 412 := by
  intro i h n S th y s cc sc hi6 hL C M O hcc hsc kk
  have hS := lenOk_of C
  show mT _ _ _ _ 412 [.retAddr 0, .ref 0, .ref 27, .ref 38, .int (nI i), .double 0, .double 0] [] _ _ _ _
  refine mt_aload_n dL_law_412 rfl rfl ?_
  refine mt_aload_n dL_law_413 rfl rfl ?_
  refine mt_iload dL_law_414 rfl ?_
  refine mt_iconst dL_law_416 (v := nI 1) rfl ?_
  refine mp_iadd dL_law_417 (v := nI (i + 1)) (nI_add _ _) ?_
  refine mx_ld dL_law_418 rfl (j := i + 1) (by omega) (by omega) ?_
  refine mt_aload_n dL_law_419 rfl rfl ?_
  refine mt_iload dL_law_420 rfl ?_
  refine mt_iconst dL_law_422 (v := nI 2) rfl ?_
  refine mp_iadd dL_law_423 (v := nI (i + 2)) (nI_add _ _) ?_
  refine mx_ld dL_law_424 rfl (j := i + 2) (by omega) (by omega) ?_
  refine mt_aload_n dL_law_425 rfl rfl ?_
  refine mt_callSW (N := mL_drop) (Rc := rL_drop) (As := [.ref 0, .int (xs (i + 1)), .int (xs (i + 2)), .ref 38]) (st := []) dL_law_426 (kL_drop hl C O) sL_drop mw_464 rfl (Nat.le_of_ble_eq_true rfl) ⟨⟨Nat.le_of_ble_eq_true rfl, Nat.le_of_ble_eq_true rfl⟩, (by simp only [rL_drop, rX4_drop, room_1]; omega), (by simp only [rL_drop, rX4_drop, room_1]; omega)⟩ (fun v1 h2 n3 c4 => ?_) (fun _ _ _ hx => hx.elim)
  obtain ⟨c4a, c4b, c4c, ⟨yc4, c4d, c4z⟩, c4e⟩ := c4
  rw [c4a, c4b]
  have Cc4 : cAt h2 (stOf S (sp_drop S (xs (i + 1)) (xs (i + 2)))) := c4c
  have Mc4 := mAt.fr M (Nat.le_refl _) c4e
  show mT _ _ _ _ 429 [.retAddr 0, .ref 0, .ref 27, .ref 38, .int (nI i), .double 0, .double 0] [.int (nI ((sp_drop S (xs (i + 1)) (xs (i + 2))).1))] _ _ _ _
  refine mp_istore dL_law_429 (ls' := [.retAddr 0, .ref 0, .ref 27, .ref 38, .int (nI i), .int (nI ((sp_drop S (xs (i + 1)) (xs (i + 2))).1)), .double 0]) rfl (by decide) rfl ?_
  refine mt_aload_n dL_law_431 rfl rfl ?_
  refine mt_aload_n dL_law_432 rfl rfl ?_
  refine mt_iload dL_law_433 rfl ?_
  refine mt_iconst dL_law_435 (v := nI 1) rfl ?_
  refine mp_iadd dL_law_436 (v := nI (i + 1)) (nI_add _ _) ?_
  refine mx_ld dL_law_437 rfl (j := i + 1) (by omega) (by omega) ?_
  refine mt_aload_n dL_law_438 rfl rfl ?_
  refine mt_iload dL_law_439 rfl ?_
  refine mt_iconst dL_law_441 (v := nI 2) rfl ?_
  refine mp_iadd dL_law_442 (v := nI (i + 2)) (nI_add _ _) ?_
  refine mx_ld dL_law_443 rfl (j := i + 2) (by omega) (by omega) ?_
  refine mt_callV (N := mX4_drop) (Rc := rX4_drop) (As := [.int (xs (i + 1)), .int (xs (i + 2))]) (st := []) dL_law_444 (kX4_drop hl Mc4) sX4_drop mw_1130 mKX4 rfl Mc4.1 rfl (Nat.le_of_ble_eq_true rfl) ⟨⟨Nat.le_of_ble_eq_true rfl, Nat.le_of_ble_eq_true rfl⟩, (by simp only [rL_drop, rX4_drop, room_1]; omega), (by simp only [rL_drop, rX4_drop, room_1]; omega)⟩ (fun v5 h6 n7 c8 => ?_) (fun _ _ _ hx => hx.elim)
  obtain ⟨xc8, tc8, c8a, c8b, c8m, c8e⟩ := mOk.gs (S := S) (oim_mp_drop (S := S)) c8
  have Mc8 : mAt h6 n7 (stOf S (sp_drop S (xs (i + 1)) (xs (i + 2)))) (tc8) := by rw [← eqS_drop hS]; exact c8m
  have Cc8 := cAt.fr2 Cc4 (fun j hj => c8e j (Or.inl hj))
  have Oc8 := (c8e 38 (Or.inr rfl)).trans c4d
  rw [c8a]
  show mT _ _ _ _ 447 [.retAddr 0, .ref 0, .ref 27, .ref 38, .int (nI i), .int (nI ((sp_drop S (xs (i + 1)) (xs (i + 2))).1)), .double 0] [.int xc8] _ _ _ _
  refine mp_istore dL_law_447 (ls' := [.retAddr 0, .ref 0, .ref 27, .ref 38, .int (nI i), .int (nI ((sp_drop S (xs (i + 1)) (xs (i + 2))).1)), .int xc8]) rfl (by decide) rfl ?_
  refine mt_goto dL_law_449 (tgt := 2003) rfl ?_
  refine mt_drop 5 (ls' := [.retAddr 0, .ref 0, .ref 27, .ref 38, .int (nI i), .double 0, .int xc8]) rfl ?_
  refine mt_drop 6 (ls' := [.retAddr 0, .ref 0, .ref 27, .ref 38, .int (nI i), .double 0, .double 0]) rfl ?_
  refine mt_widen (cc' := cc + 9000) (sc' := sc + 62000) (by simp only [rL_drop, rX4_drop]; omega) (by simp only [rL_drop, rX4_drop]; omega) ?_
  exact kk _ _ _ _ _ _ Cc8 Mc8 Oc8
theorem oim_mp_clear {S : cS} {row : Int32} : oI vI true true (mp_clear S row) := by
  unfold mp_clear
  repeat' first | exact Or.inl ⟨rfl, _, rfl⟩ | exact Or.inr (Or.inr ⟨rfl, rfl⟩) | exact Or.inr (Or.inl ⟨rfl, rfl⟩) | refine dAt_o (fun r => ?_) | refine dArg_o (fun r => ?_) | refine dFit_o ?_ | refine dB_o (fun r => ?_) | refine dKeep_o (fun p t => ?_) | split
set_option maxRecDepth 100000 in
set_option maxHeartbeats 2000000 in
theorem tL_c4 {l : Launch} (hl : l.stackTraces = false) {L : Nat} {xs : Nat → Int32} : lawCase l L xs 452 := by
  intro i h n S th y s cc sc hi6 hL C M O hcc hsc kk
  have hS := lenOk_of C
  show mT _ _ _ _ 452 [.retAddr 0, .ref 0, .ref 27, .ref 38, .int (nI i), .double 0, .double 0] [] _ _ _ _
  refine mt_aload_n dL_law_452 rfl rfl ?_
  refine mt_aload_n dL_law_453 rfl rfl ?_
  refine mt_iload dL_law_454 rfl ?_
  refine mt_iconst dL_law_456 (v := nI 1) rfl ?_
  refine mp_iadd dL_law_457 (v := nI (i + 1)) (nI_add _ _) ?_
  refine mx_ld dL_law_458 rfl (j := i + 1) (by omega) (by omega) ?_
  refine mt_aload_n dL_law_459 rfl rfl ?_
  refine mt_callSW (N := mL_clear) (Rc := rL_clear) (As := [.ref 0, .int (xs (i + 1)), .ref 38]) (st := []) dL_law_460 (kL_clear hl C O) sL_clear mw_471 rfl (Nat.le_of_ble_eq_true rfl) ⟨⟨Nat.le_of_ble_eq_true rfl, Nat.le_of_ble_eq_true rfl⟩, (by simp only [rL_clear, rX4_clear, room_1]; omega), (by simp only [rL_clear, rX4_clear, room_1]; omega)⟩ (fun v1 h2 n3 c4 => ?_) (fun _ _ _ hx => hx.elim)
  obtain ⟨c4a, c4b, c4c, ⟨yc4, c4d, c4z⟩, c4e⟩ := c4
  rw [c4a, c4b]
  have Cc4 : cAt h2 (stOf S (sp_clear S (xs (i + 1)))) := c4c
  have Mc4 := mAt.fr M (Nat.le_refl _) c4e
  show mT _ _ _ _ 463 [.retAddr 0, .ref 0, .ref 27, .ref 38, .int (nI i), .double 0, .double 0] [.int (nI ((sp_clear S (xs (i + 1))).1))] _ _ _ _
  refine mp_istore dL_law_463 (ls' := [.retAddr 0, .ref 0, .ref 27, .ref 38, .int (nI i), .int (nI ((sp_clear S (xs (i + 1))).1)), .double 0]) rfl (by decide) rfl ?_
  refine mt_aload_n dL_law_465 rfl rfl ?_
  refine mt_aload_n dL_law_466 rfl rfl ?_
  refine mt_iload dL_law_467 rfl ?_
  refine mt_iconst dL_law_469 (v := nI 1) rfl ?_
  refine mp_iadd dL_law_470 (v := nI (i + 1)) (nI_add _ _) ?_
  refine mx_ld dL_law_471 rfl (j := i + 1) (by omega) (by omega) ?_
  refine mt_callV (N := mX4_clear) (Rc := rX4_clear) (As := [.int (xs (i + 1))]) (st := []) dL_law_472 (kX4_clear hl Mc4) sX4_clear mw_1138 mKX4 rfl Mc4.1 rfl (Nat.le_of_ble_eq_true rfl) ⟨⟨Nat.le_of_ble_eq_true rfl, Nat.le_of_ble_eq_true rfl⟩, (by simp only [rL_clear, rX4_clear, room_1]; omega), (by simp only [rL_clear, rX4_clear, room_1]; omega)⟩ (fun v5 h6 n7 c8 => ?_) (fun _ _ _ hx => hx.elim)
  obtain ⟨xc8, tc8, c8a, c8b, c8m, c8e⟩ := mOk.gs (S := S) (oim_mp_clear (S := S)) c8
  have Mc8 : mAt h6 n7 (stOf S (sp_clear S (xs (i + 1)))) (tc8) := by rw [← eqS_clear]; exact c8m
  have Cc8 := cAt.fr2 Cc4 (fun j hj => c8e j (Or.inl hj))
  have Oc8 := (c8e 38 (Or.inr rfl)).trans c4d
  rw [c8a]
  show mT _ _ _ _ 475 [.retAddr 0, .ref 0, .ref 27, .ref 38, .int (nI i), .int (nI ((sp_clear S (xs (i + 1))).1)), .double 0] [.int xc8] _ _ _ _
  refine mp_istore dL_law_475 (ls' := [.retAddr 0, .ref 0, .ref 27, .ref 38, .int (nI i), .int (nI ((sp_clear S (xs (i + 1))).1)), .int xc8]) rfl (by decide) rfl ?_
  refine mt_goto dL_law_477 (tgt := 2003) rfl ?_
  refine mt_drop 5 (ls' := [.retAddr 0, .ref 0, .ref 27, .ref 38, .int (nI i), .double 0, .int xc8]) rfl ?_
  refine mt_drop 6 (ls' := [.retAddr 0, .ref 0, .ref 27, .ref 38, .int (nI i), .double 0, .double 0]) rfl ?_
  refine mt_widen (cc' := cc + 9000) (sc' := sc + 62000) (by simp only [rL_clear, rX4_clear]; omega) (by simp only [rL_clear, rX4_clear]; omega) ?_
  exact kk _ _ _ _ _ _ Cc8 Mc8 Oc8
theorem oim_mp_exchange {S : cS} {row : Int32} {place : Int32} : oI vI true true (mp_exchange S row place) := by
  unfold mp_exchange
  repeat' first | exact Or.inl ⟨rfl, _, rfl⟩ | exact Or.inr (Or.inr ⟨rfl, rfl⟩) | exact Or.inr (Or.inl ⟨rfl, rfl⟩) | refine dAt_o (fun r => ?_) | refine dArg_o (fun r => ?_) | refine dFit_o ?_ | refine dB_o (fun r => ?_) | refine dKeep_o (fun p t => ?_) | split
set_option maxRecDepth 100000 in
set_option maxHeartbeats 2000000 in
theorem tL_c5 {l : Launch} (hl : l.stackTraces = false) {L : Nat} {xs : Nat → Int32} : lawCase l L xs 480 := by
  intro i h n S th y s cc sc hi6 hL C M O hcc hsc kk
  have hS := lenOk_of C
  show mT _ _ _ _ 480 [.retAddr 0, .ref 0, .ref 27, .ref 38, .int (nI i), .double 0, .double 0] [] _ _ _ _
  refine mt_aload_n dL_law_480 rfl rfl ?_
  refine mt_aload_n dL_law_481 rfl rfl ?_
  refine mt_iload dL_law_482 rfl ?_
  refine mt_iconst dL_law_484 (v := nI 1) rfl ?_
  refine mp_iadd dL_law_485 (v := nI (i + 1)) (nI_add _ _) ?_
  refine mx_ld dL_law_486 rfl (j := i + 1) (by omega) (by omega) ?_
  refine mt_aload_n dL_law_487 rfl rfl ?_
  refine mt_iload dL_law_488 rfl ?_
  refine mt_iconst dL_law_490 (v := nI 2) rfl ?_
  refine mp_iadd dL_law_491 (v := nI (i + 2)) (nI_add _ _) ?_
  refine mx_ld dL_law_492 rfl (j := i + 2) (by omega) (by omega) ?_
  refine mt_aload_n dL_law_493 rfl rfl ?_
  refine mt_callSW (N := mL_exchange) (Rc := rL_exchange) (As := [.ref 0, .int (xs (i + 1)), .int (xs (i + 2)), .ref 38]) (st := []) dL_law_494 (kL_exchange hl C O) sL_exchange mw_478 rfl (Nat.le_of_ble_eq_true rfl) ⟨⟨Nat.le_of_ble_eq_true rfl, Nat.le_of_ble_eq_true rfl⟩, (by simp only [rL_exchange, rX4_exchange, room_1]; omega), (by simp only [rL_exchange, rX4_exchange, room_1]; omega)⟩ (fun v1 h2 n3 c4 => ?_) (fun _ _ _ hx => hx.elim)
  obtain ⟨c4a, c4b, c4c, ⟨yc4, c4d, c4z⟩, c4e⟩ := c4
  rw [c4a, c4b]
  have Cc4 : cAt h2 (stOf S (sp_exchange S (xs (i + 1)) (xs (i + 2)))) := c4c
  have Mc4 := mAt.fr M (Nat.le_refl _) c4e
  show mT _ _ _ _ 497 [.retAddr 0, .ref 0, .ref 27, .ref 38, .int (nI i), .double 0, .double 0] [.int (nI ((sp_exchange S (xs (i + 1)) (xs (i + 2))).1))] _ _ _ _
  refine mp_istore dL_law_497 (ls' := [.retAddr 0, .ref 0, .ref 27, .ref 38, .int (nI i), .int (nI ((sp_exchange S (xs (i + 1)) (xs (i + 2))).1)), .double 0]) rfl (by decide) rfl ?_
  refine mt_aload_n dL_law_499 rfl rfl ?_
  refine mt_aload_n dL_law_500 rfl rfl ?_
  refine mt_iload dL_law_501 rfl ?_
  refine mt_iconst dL_law_503 (v := nI 1) rfl ?_
  refine mp_iadd dL_law_504 (v := nI (i + 1)) (nI_add _ _) ?_
  refine mx_ld dL_law_505 rfl (j := i + 1) (by omega) (by omega) ?_
  refine mt_aload_n dL_law_506 rfl rfl ?_
  refine mt_iload dL_law_507 rfl ?_
  refine mt_iconst dL_law_509 (v := nI 2) rfl ?_
  refine mp_iadd dL_law_510 (v := nI (i + 2)) (nI_add _ _) ?_
  refine mx_ld dL_law_511 rfl (j := i + 2) (by omega) (by omega) ?_
  refine mt_callV (N := mX4_exchange) (Rc := rX4_exchange) (As := [.int (xs (i + 1)), .int (xs (i + 2))]) (st := []) dL_law_512 (kX4_exchange hl Mc4) sX4_exchange mw_1142 mKX4 rfl Mc4.1 rfl (Nat.le_of_ble_eq_true rfl) ⟨⟨Nat.le_of_ble_eq_true rfl, Nat.le_of_ble_eq_true rfl⟩, (by simp only [rL_exchange, rX4_exchange, room_1]; omega), (by simp only [rL_exchange, rX4_exchange, room_1]; omega)⟩ (fun v5 h6 n7 c8 => ?_) (fun _ _ _ hx => hx.elim)
  obtain ⟨xc8, tc8, c8a, c8b, c8m, c8e⟩ := mOk.gs (S := S) (oim_mp_exchange (S := S)) c8
  have Mc8 : mAt h6 n7 (stOf S (sp_exchange S (xs (i + 1)) (xs (i + 2)))) (tc8) := by rw [← eqS_exchange hS]; exact c8m
  have Cc8 := cAt.fr2 Cc4 (fun j hj => c8e j (Or.inl hj))
  have Oc8 := (c8e 38 (Or.inr rfl)).trans c4d
  rw [c8a]
  show mT _ _ _ _ 515 [.retAddr 0, .ref 0, .ref 27, .ref 38, .int (nI i), .int (nI ((sp_exchange S (xs (i + 1)) (xs (i + 2))).1)), .double 0] [.int xc8] _ _ _ _
  refine mp_istore dL_law_515 (ls' := [.retAddr 0, .ref 0, .ref 27, .ref 38, .int (nI i), .int (nI ((sp_exchange S (xs (i + 1)) (xs (i + 2))).1)), .int xc8]) rfl (by decide) rfl ?_
  refine mt_goto dL_law_517 (tgt := 2003) rfl ?_
  refine mt_drop 5 (ls' := [.retAddr 0, .ref 0, .ref 27, .ref 38, .int (nI i), .double 0, .int xc8]) rfl ?_
  refine mt_drop 6 (ls' := [.retAddr 0, .ref 0, .ref 27, .ref 38, .int (nI i), .double 0, .double 0]) rfl ?_
  refine mt_widen (cc' := cc + 9000) (sc' := sc + 62000) (by simp only [rL_exchange, rX4_exchange]; omega) (by simp only [rL_exchange, rX4_exchange]; omega) ?_
  exact kk _ _ _ _ _ _ Cc8 Mc8 Oc8
theorem oim_mp_swap {S : cS} {row : Int32} {place : Int32} {other : Int32} : oI vI true true (mp_swap S row place other) := by
  unfold mp_swap
  repeat' first | exact Or.inl ⟨rfl, _, rfl⟩ | exact Or.inr (Or.inr ⟨rfl, rfl⟩) | exact Or.inr (Or.inl ⟨rfl, rfl⟩) | refine dAt_o (fun r => ?_) | refine dArg_o (fun r => ?_) | refine dFit_o ?_ | refine dB_o (fun r => ?_) | refine dKeep_o (fun p t => ?_) | split
set_option maxRecDepth 100000 in
set_option maxHeartbeats 2000000 in
theorem tL_c6 {l : Launch} (hl : l.stackTraces = false) {L : Nat} {xs : Nat → Int32} : lawCase l L xs 520 := by
  intro i h n S th y s cc sc hi6 hL C M O hcc hsc kk
  have hS := lenOk_of C
  show mT _ _ _ _ 520 [.retAddr 0, .ref 0, .ref 27, .ref 38, .int (nI i), .double 0, .double 0] [] _ _ _ _
  refine mt_aload_n dL_law_520 rfl rfl ?_
  refine mt_aload_n dL_law_521 rfl rfl ?_
  refine mt_iload dL_law_522 rfl ?_
  refine mt_iconst dL_law_524 (v := nI 1) rfl ?_
  refine mp_iadd dL_law_525 (v := nI (i + 1)) (nI_add _ _) ?_
  refine mx_ld dL_law_526 rfl (j := i + 1) (by omega) (by omega) ?_
  refine mt_aload_n dL_law_527 rfl rfl ?_
  refine mt_iload dL_law_528 rfl ?_
  refine mt_iconst dL_law_530 (v := nI 2) rfl ?_
  refine mp_iadd dL_law_531 (v := nI (i + 2)) (nI_add _ _) ?_
  refine mx_ld dL_law_532 rfl (j := i + 2) (by omega) (by omega) ?_
  refine mt_aload_n dL_law_533 rfl rfl ?_
  refine mt_iload dL_law_534 rfl ?_
  refine mt_iconst dL_law_536 (v := nI 3) rfl ?_
  refine mp_iadd dL_law_537 (v := nI (i + 3)) (nI_add _ _) ?_
  refine mx_ld dL_law_538 rfl (j := i + 3) (by omega) (by omega) ?_
  refine mt_aload_n dL_law_539 rfl rfl ?_
  refine mt_callSW (N := mL_swap) (Rc := rL_swap) (As := [.ref 0, .int (xs (i + 1)), .int (xs (i + 2)), .int (xs (i + 3)), .ref 38]) (st := []) dL_law_540 (kL_swap hl C O) sL_swap mw_496 rfl (Nat.le_of_ble_eq_true rfl) ⟨⟨Nat.le_of_ble_eq_true rfl, Nat.le_of_ble_eq_true rfl⟩, (by simp only [rL_swap, rX4_swap, room_1]; omega), (by simp only [rL_swap, rX4_swap, room_1]; omega)⟩ (fun v1 h2 n3 c4 => ?_) (fun _ _ _ hx => hx.elim)
  obtain ⟨c4a, c4b, c4c, ⟨yc4, c4d, c4z⟩, c4e⟩ := c4
  rw [c4a, c4b]
  have Cc4 : cAt h2 (stOf S (sp_swap S (xs (i + 1)) (xs (i + 2)) (xs (i + 3)))) := c4c
  have Mc4 := mAt.fr M (Nat.le_refl _) c4e
  show mT _ _ _ _ 543 [.retAddr 0, .ref 0, .ref 27, .ref 38, .int (nI i), .double 0, .double 0] [.int (nI ((sp_swap S (xs (i + 1)) (xs (i + 2)) (xs (i + 3))).1))] _ _ _ _
  refine mp_istore dL_law_543 (ls' := [.retAddr 0, .ref 0, .ref 27, .ref 38, .int (nI i), .int (nI ((sp_swap S (xs (i + 1)) (xs (i + 2)) (xs (i + 3))).1)), .double 0]) rfl (by decide) rfl ?_
  refine mt_aload_n dL_law_545 rfl rfl ?_
  refine mt_aload_n dL_law_546 rfl rfl ?_
  refine mt_iload dL_law_547 rfl ?_
  refine mt_iconst dL_law_549 (v := nI 1) rfl ?_
  refine mp_iadd dL_law_550 (v := nI (i + 1)) (nI_add _ _) ?_
  refine mx_ld dL_law_551 rfl (j := i + 1) (by omega) (by omega) ?_
  refine mt_aload_n dL_law_552 rfl rfl ?_
  refine mt_iload dL_law_553 rfl ?_
  refine mt_iconst dL_law_555 (v := nI 2) rfl ?_
  refine mp_iadd dL_law_556 (v := nI (i + 2)) (nI_add _ _) ?_
  refine mx_ld dL_law_557 rfl (j := i + 2) (by omega) (by omega) ?_
  refine mt_aload_n dL_law_558 rfl rfl ?_
  refine mt_iload dL_law_559 rfl ?_
  refine mt_iconst dL_law_561 (v := nI 3) rfl ?_
  refine mp_iadd dL_law_562 (v := nI (i + 3)) (nI_add _ _) ?_
  refine mx_ld dL_law_563 rfl (j := i + 3) (by omega) (by omega) ?_
  refine mt_callV (N := mX4_swap) (Rc := rX4_swap) (As := [.int (xs (i + 1)), .int (xs (i + 2)), .int (xs (i + 3))]) (st := []) dL_law_564 (kX4_swap hl Mc4) sX4_swap mw_1157 mKX4 rfl Mc4.1 rfl (Nat.le_of_ble_eq_true rfl) ⟨⟨Nat.le_of_ble_eq_true rfl, Nat.le_of_ble_eq_true rfl⟩, (by simp only [rL_swap, rX4_swap, room_1]; omega), (by simp only [rL_swap, rX4_swap, room_1]; omega)⟩ (fun v5 h6 n7 c8 => ?_) (fun _ _ _ hx => hx.elim)
  obtain ⟨xc8, tc8, c8a, c8b, c8m, c8e⟩ := mOk.gs (S := S) (oim_mp_swap (S := S)) c8
  have Mc8 : mAt h6 n7 (stOf S (sp_swap S (xs (i + 1)) (xs (i + 2)) (xs (i + 3)))) (tc8) := by rw [← eqS_swap hS]; exact c8m
  have Cc8 := cAt.fr2 Cc4 (fun j hj => c8e j (Or.inl hj))
  have Oc8 := (c8e 38 (Or.inr rfl)).trans c4d
  rw [c8a]
  show mT _ _ _ _ 567 [.retAddr 0, .ref 0, .ref 27, .ref 38, .int (nI i), .int (nI ((sp_swap S (xs (i + 1)) (xs (i + 2)) (xs (i + 3))).1)), .double 0] [.int xc8] _ _ _ _
  refine mp_istore dL_law_567 (ls' := [.retAddr 0, .ref 0, .ref 27, .ref 38, .int (nI i), .int (nI ((sp_swap S (xs (i + 1)) (xs (i + 2)) (xs (i + 3))).1)), .int xc8]) rfl (by decide) rfl ?_
  refine mt_goto dL_law_569 (tgt := 2003) rfl ?_
  refine mt_drop 5 (ls' := [.retAddr 0, .ref 0, .ref 27, .ref 38, .int (nI i), .double 0, .int xc8]) rfl ?_
  refine mt_drop 6 (ls' := [.retAddr 0, .ref 0, .ref 27, .ref 38, .int (nI i), .double 0, .double 0]) rfl ?_
  refine mt_widen (cc' := cc + 9000) (sc' := sc + 62000) (by simp only [rL_swap, rX4_swap]; omega) (by simp only [rL_swap, rX4_swap]; omega) ?_
  exact kk _ _ _ _ _ _ Cc8 Mc8 Oc8
theorem oim_mp_turn {S : cS} {row : Int32} : oI vI true true (mp_turn S row) := by
  unfold mp_turn
  repeat' first | exact Or.inl ⟨rfl, _, rfl⟩ | exact Or.inr (Or.inr ⟨rfl, rfl⟩) | exact Or.inr (Or.inl ⟨rfl, rfl⟩) | refine dAt_o (fun r => ?_) | refine dArg_o (fun r => ?_) | refine dFit_o ?_ | refine dB_o (fun r => ?_) | refine dKeep_o (fun p t => ?_) | split
set_option maxRecDepth 100000 in
set_option maxHeartbeats 2000000 in
theorem tL_c7 {l : Launch} (hl : l.stackTraces = false) {L : Nat} {xs : Nat → Int32} : lawCase l L xs 572 := by
  intro i h n S th y s cc sc hi6 hL C M O hcc hsc kk
  have hS := lenOk_of C
  show mT _ _ _ _ 572 [.retAddr 0, .ref 0, .ref 27, .ref 38, .int (nI i), .double 0, .double 0] [] _ _ _ _
  refine mt_aload_n dL_law_572 rfl rfl ?_
  refine mt_aload_n dL_law_573 rfl rfl ?_
  refine mt_iload dL_law_574 rfl ?_
  refine mt_iconst dL_law_576 (v := nI 1) rfl ?_
  refine mp_iadd dL_law_577 (v := nI (i + 1)) (nI_add _ _) ?_
  refine mx_ld dL_law_578 rfl (j := i + 1) (by omega) (by omega) ?_
  refine mt_aload_n dL_law_579 rfl rfl ?_
  refine mt_callSW (N := mL_turn) (Rc := rL_turn) (As := [.ref 0, .int (xs (i + 1)), .ref 38]) (st := []) dL_law_580 (kL_turn hl C O) sL_turn mw_503 rfl (Nat.le_of_ble_eq_true rfl) ⟨⟨Nat.le_of_ble_eq_true rfl, Nat.le_of_ble_eq_true rfl⟩, (by simp only [rL_turn, rX4_turn, room_1]; omega), (by simp only [rL_turn, rX4_turn, room_1]; omega)⟩ (fun v1 h2 n3 c4 => ?_) (fun _ _ _ hx => hx.elim)
  obtain ⟨c4a, c4b, c4c, ⟨yc4, c4d, c4z⟩, c4e⟩ := c4
  rw [c4a, c4b]
  have Cc4 : cAt h2 (stOf S (sp_turn S (xs (i + 1)))) := c4c
  have Mc4 := mAt.fr M (Nat.le_refl _) c4e
  show mT _ _ _ _ 583 [.retAddr 0, .ref 0, .ref 27, .ref 38, .int (nI i), .double 0, .double 0] [.int (nI ((sp_turn S (xs (i + 1))).1))] _ _ _ _
  refine mp_istore dL_law_583 (ls' := [.retAddr 0, .ref 0, .ref 27, .ref 38, .int (nI i), .int (nI ((sp_turn S (xs (i + 1))).1)), .double 0]) rfl (by decide) rfl ?_
  refine mt_aload_n dL_law_585 rfl rfl ?_
  refine mt_aload_n dL_law_586 rfl rfl ?_
  refine mt_iload dL_law_587 rfl ?_
  refine mt_iconst dL_law_589 (v := nI 1) rfl ?_
  refine mp_iadd dL_law_590 (v := nI (i + 1)) (nI_add _ _) ?_
  refine mx_ld dL_law_591 rfl (j := i + 1) (by omega) (by omega) ?_
  refine mt_callV (N := mX4_turn) (Rc := rX4_turn) (As := [.int (xs (i + 1))]) (st := []) dL_law_592 (kX4_turn hl Mc4) sX4_turn mw_1161 mKX4 rfl Mc4.1 rfl (Nat.le_of_ble_eq_true rfl) ⟨⟨Nat.le_of_ble_eq_true rfl, Nat.le_of_ble_eq_true rfl⟩, (by simp only [rL_turn, rX4_turn, room_1]; omega), (by simp only [rL_turn, rX4_turn, room_1]; omega)⟩ (fun v5 h6 n7 c8 => ?_) (fun _ _ _ hx => hx.elim)
  obtain ⟨xc8, tc8, c8a, c8b, c8m, c8e⟩ := mOk.gs (S := S) (oim_mp_turn (S := S)) c8
  have Mc8 : mAt h6 n7 (stOf S (sp_turn S (xs (i + 1)))) (tc8) := by rw [← eqS_turn]; exact c8m
  have Cc8 := cAt.fr2 Cc4 (fun j hj => c8e j (Or.inl hj))
  have Oc8 := (c8e 38 (Or.inr rfl)).trans c4d
  rw [c8a]
  show mT _ _ _ _ 595 [.retAddr 0, .ref 0, .ref 27, .ref 38, .int (nI i), .int (nI ((sp_turn S (xs (i + 1))).1)), .double 0] [.int xc8] _ _ _ _
  refine mp_istore dL_law_595 (ls' := [.retAddr 0, .ref 0, .ref 27, .ref 38, .int (nI i), .int (nI ((sp_turn S (xs (i + 1))).1)), .int xc8]) rfl (by decide) rfl ?_
  refine mt_goto dL_law_597 (tgt := 2003) rfl ?_
  refine mt_drop 5 (ls' := [.retAddr 0, .ref 0, .ref 27, .ref 38, .int (nI i), .double 0, .int xc8]) rfl ?_
  refine mt_drop 6 (ls' := [.retAddr 0, .ref 0, .ref 27, .ref 38, .int (nI i), .double 0, .double 0]) rfl ?_
  refine mt_widen (cc' := cc + 9000) (sc' := sc + 62000) (by simp only [rL_turn, rX4_turn]; omega) (by simp only [rL_turn, rX4_turn]; omega) ?_
  exact kk _ _ _ _ _ _ Cc8 Mc8 Oc8
theorem oim_mp_roll {S : cS} {row : Int32} {by_ : Int32} : oI vI true true (mp_roll S row by_) := by
  unfold mp_roll
  repeat' first | exact Or.inl ⟨rfl, _, rfl⟩ | exact Or.inr (Or.inr ⟨rfl, rfl⟩) | exact Or.inr (Or.inl ⟨rfl, rfl⟩) | refine dAt_o (fun r => ?_) | refine dArg_o (fun r => ?_) | refine dFit_o ?_ | refine dB_o (fun r => ?_) | refine dKeep_o (fun p t => ?_) | split
set_option maxRecDepth 100000 in
set_option maxHeartbeats 2000000 in
theorem tL_c8 {l : Launch} (hl : l.stackTraces = false) {L : Nat} {xs : Nat → Int32} : lawCase l L xs 600 := by
  intro i h n S th y s cc sc hi6 hL C M O hcc hsc kk
  have hS := lenOk_of C
  show mT _ _ _ _ 600 [.retAddr 0, .ref 0, .ref 27, .ref 38, .int (nI i), .double 0, .double 0] [] _ _ _ _
  refine mt_aload_n dL_law_600 rfl rfl ?_
  refine mt_aload_n dL_law_601 rfl rfl ?_
  refine mt_iload dL_law_602 rfl ?_
  refine mt_iconst dL_law_604 (v := nI 1) rfl ?_
  refine mp_iadd dL_law_605 (v := nI (i + 1)) (nI_add _ _) ?_
  refine mx_ld dL_law_606 rfl (j := i + 1) (by omega) (by omega) ?_
  refine mt_aload_n dL_law_607 rfl rfl ?_
  refine mt_iload dL_law_608 rfl ?_
  refine mt_iconst dL_law_610 (v := nI 2) rfl ?_
  refine mp_iadd dL_law_611 (v := nI (i + 2)) (nI_add _ _) ?_
  refine mx_ld dL_law_612 rfl (j := i + 2) (by omega) (by omega) ?_
  refine mt_aload_n dL_law_613 rfl rfl ?_
  refine mt_callSW (N := mL_roll) (Rc := rL_roll) (As := [.ref 0, .int (xs (i + 1)), .int (xs (i + 2)), .ref 38]) (st := []) dL_law_614 (kL_roll hl C O) sL_roll mw_514 rfl (Nat.le_of_ble_eq_true rfl) ⟨⟨Nat.le_of_ble_eq_true rfl, Nat.le_of_ble_eq_true rfl⟩, (by simp only [rL_roll, rX4_roll, room_1]; omega), (by simp only [rL_roll, rX4_roll, room_1]; omega)⟩ (fun v1 h2 n3 c4 => ?_) (fun _ _ _ hx => hx.elim)
  obtain ⟨c4a, c4b, c4c, ⟨yc4, c4d, c4z⟩, c4e⟩ := c4
  rw [c4a, c4b]
  have Cc4 : cAt h2 (stOf S (sp_roll S (xs (i + 1)) (xs (i + 2)))) := c4c
  have Mc4 := mAt.fr M (Nat.le_refl _) c4e
  show mT _ _ _ _ 617 [.retAddr 0, .ref 0, .ref 27, .ref 38, .int (nI i), .double 0, .double 0] [.int (nI ((sp_roll S (xs (i + 1)) (xs (i + 2))).1))] _ _ _ _
  refine mp_istore dL_law_617 (ls' := [.retAddr 0, .ref 0, .ref 27, .ref 38, .int (nI i), .int (nI ((sp_roll S (xs (i + 1)) (xs (i + 2))).1)), .double 0]) rfl (by decide) rfl ?_
  refine mt_aload_n dL_law_619 rfl rfl ?_
  refine mt_aload_n dL_law_620 rfl rfl ?_
  refine mt_iload dL_law_621 rfl ?_
  refine mt_iconst dL_law_623 (v := nI 1) rfl ?_
  refine mp_iadd dL_law_624 (v := nI (i + 1)) (nI_add _ _) ?_
  refine mx_ld dL_law_625 rfl (j := i + 1) (by omega) (by omega) ?_
  refine mt_aload_n dL_law_626 rfl rfl ?_
  refine mt_iload dL_law_627 rfl ?_
  refine mt_iconst dL_law_629 (v := nI 2) rfl ?_
  refine mp_iadd dL_law_630 (v := nI (i + 2)) (nI_add _ _) ?_
  refine mx_ld dL_law_631 rfl (j := i + 2) (by omega) (by omega) ?_
  refine mt_callV (N := mX4_roll) (Rc := rX4_roll) (As := [.int (xs (i + 1)), .int (xs (i + 2))]) (st := []) dL_law_632 (kX4_roll hl Mc4) sX4_roll mw_1172 mKX4 rfl Mc4.1 rfl (Nat.le_of_ble_eq_true rfl) ⟨⟨Nat.le_of_ble_eq_true rfl, Nat.le_of_ble_eq_true rfl⟩, (by simp only [rL_roll, rX4_roll, room_1]; omega), (by simp only [rL_roll, rX4_roll, room_1]; omega)⟩ (fun v5 h6 n7 c8 => ?_) (fun _ _ _ hx => hx.elim)
  obtain ⟨xc8, tc8, c8a, c8b, c8m, c8e⟩ := mOk.gs (S := S) (oim_mp_roll (S := S)) c8
  have Mc8 : mAt h6 n7 (stOf S (sp_roll S (xs (i + 1)) (xs (i + 2)))) (tc8) := by rw [← eqS_roll hS]; exact c8m
  have Cc8 := cAt.fr2 Cc4 (fun j hj => c8e j (Or.inl hj))
  have Oc8 := (c8e 38 (Or.inr rfl)).trans c4d
  rw [c8a]
  show mT _ _ _ _ 635 [.retAddr 0, .ref 0, .ref 27, .ref 38, .int (nI i), .int (nI ((sp_roll S (xs (i + 1)) (xs (i + 2))).1)), .double 0] [.int xc8] _ _ _ _
  refine mp_istore dL_law_635 (ls' := [.retAddr 0, .ref 0, .ref 27, .ref 38, .int (nI i), .int (nI ((sp_roll S (xs (i + 1)) (xs (i + 2))).1)), .int xc8]) rfl (by decide) rfl ?_
  refine mt_goto dL_law_637 (tgt := 2003) rfl ?_
  refine mt_drop 5 (ls' := [.retAddr 0, .ref 0, .ref 27, .ref 38, .int (nI i), .double 0, .int xc8]) rfl ?_
  refine mt_drop 6 (ls' := [.retAddr 0, .ref 0, .ref 27, .ref 38, .int (nI i), .double 0, .double 0]) rfl ?_
  refine mt_widen (cc' := cc + 9000) (sc' := sc + 62000) (by simp only [rL_roll, rX4_roll]; omega) (by simp only [rL_roll, rX4_roll]; omega) ?_
  exact kk _ _ _ _ _ _ Cc8 Mc8 Oc8
theorem oim_mp_keep {S : cS} {row : Int32} {from_ : Int32} {to : Int32} : oI vI true true (mp_keep S row from_ to) := by
  unfold mp_keep
  repeat' first | exact Or.inl ⟨rfl, _, rfl⟩ | exact Or.inr (Or.inr ⟨rfl, rfl⟩) | exact Or.inr (Or.inl ⟨rfl, rfl⟩) | refine dAt_o (fun r => ?_) | refine dArg_o (fun r => ?_) | refine dFit_o ?_ | refine dB_o (fun r => ?_) | refine dKeep_o (fun p t => ?_) | split
set_option maxRecDepth 100000 in
set_option maxHeartbeats 2000000 in
theorem tL_c9 {l : Launch} (hl : l.stackTraces = false) {L : Nat} {xs : Nat → Int32} : lawCase l L xs 640 := by
  intro i h n S th y s cc sc hi6 hL C M O hcc hsc kk
  have hS := lenOk_of C
  show mT _ _ _ _ 640 [.retAddr 0, .ref 0, .ref 27, .ref 38, .int (nI i), .double 0, .double 0] [] _ _ _ _
  refine mt_aload_n dL_law_640 rfl rfl ?_
  refine mt_aload_n dL_law_641 rfl rfl ?_
  refine mt_iload dL_law_642 rfl ?_
  refine mt_iconst dL_law_644 (v := nI 1) rfl ?_
  refine mp_iadd dL_law_645 (v := nI (i + 1)) (nI_add _ _) ?_
  refine mx_ld dL_law_646 rfl (j := i + 1) (by omega) (by omega) ?_
  refine mt_aload_n dL_law_647 rfl rfl ?_
  refine mt_iload dL_law_648 rfl ?_
  refine mt_iconst dL_law_650 (v := nI 2) rfl ?_
  refine mp_iadd dL_law_651 (v := nI (i + 2)) (nI_add _ _) ?_
  refine mx_ld dL_law_652 rfl (j := i + 2) (by omega) (by omega) ?_
  refine mt_aload_n dL_law_653 rfl rfl ?_
  refine mt_iload dL_law_654 rfl ?_
  refine mt_iconst dL_law_656 (v := nI 3) rfl ?_
  refine mp_iadd dL_law_657 (v := nI (i + 3)) (nI_add _ _) ?_
  refine mx_ld dL_law_658 rfl (j := i + 3) (by omega) (by omega) ?_
  refine mt_aload_n dL_law_659 rfl rfl ?_
  refine mt_callSW (N := mL_keep) (Rc := rL_keep) (As := [.ref 0, .int (xs (i + 1)), .int (xs (i + 2)), .int (xs (i + 3)), .ref 38]) (st := []) dL_law_660 (kL_keep hl C O) sL_keep mw_521 rfl (Nat.le_of_ble_eq_true rfl) ⟨⟨Nat.le_of_ble_eq_true rfl, Nat.le_of_ble_eq_true rfl⟩, (by simp only [rL_keep, rX4_keep, room_1]; omega), (by simp only [rL_keep, rX4_keep, room_1]; omega)⟩ (fun v1 h2 n3 c4 => ?_) (fun _ _ _ hx => hx.elim)
  obtain ⟨c4a, c4b, c4c, ⟨yc4, c4d, c4z⟩, c4e⟩ := c4
  rw [c4a, c4b]
  have Cc4 : cAt h2 (stOf S (sp_keep S (xs (i + 1)) (xs (i + 2)) (xs (i + 3)))) := c4c
  have Mc4 := mAt.fr M (Nat.le_refl _) c4e
  show mT _ _ _ _ 663 [.retAddr 0, .ref 0, .ref 27, .ref 38, .int (nI i), .double 0, .double 0] [.int (nI ((sp_keep S (xs (i + 1)) (xs (i + 2)) (xs (i + 3))).1))] _ _ _ _
  refine mp_istore dL_law_663 (ls' := [.retAddr 0, .ref 0, .ref 27, .ref 38, .int (nI i), .int (nI ((sp_keep S (xs (i + 1)) (xs (i + 2)) (xs (i + 3))).1)), .double 0]) rfl (by decide) rfl ?_
  refine mt_aload_n dL_law_665 rfl rfl ?_
  refine mt_aload_n dL_law_666 rfl rfl ?_
  refine mt_iload dL_law_667 rfl ?_
  refine mt_iconst dL_law_669 (v := nI 1) rfl ?_
  refine mp_iadd dL_law_670 (v := nI (i + 1)) (nI_add _ _) ?_
  refine mx_ld dL_law_671 rfl (j := i + 1) (by omega) (by omega) ?_
  refine mt_aload_n dL_law_672 rfl rfl ?_
  refine mt_iload dL_law_673 rfl ?_
  refine mt_iconst dL_law_675 (v := nI 2) rfl ?_
  refine mp_iadd dL_law_676 (v := nI (i + 2)) (nI_add _ _) ?_
  refine mx_ld dL_law_677 rfl (j := i + 2) (by omega) (by omega) ?_
  refine mt_aload_n dL_law_678 rfl rfl ?_
  refine mt_iload dL_law_679 rfl ?_
  refine mt_iconst dL_law_681 (v := nI 3) rfl ?_
  refine mp_iadd dL_law_682 (v := nI (i + 3)) (nI_add _ _) ?_
  refine mx_ld dL_law_683 rfl (j := i + 3) (by omega) (by omega) ?_
  refine mt_callV (N := mX4_keep) (Rc := rX4_keep) (As := [.int (xs (i + 1)), .int (xs (i + 2)), .int (xs (i + 3))]) (st := []) dL_law_684 (kX4_keep hl Mc4) sX4_keep mw_1176 mKX4 rfl Mc4.1 rfl (Nat.le_of_ble_eq_true rfl) ⟨⟨Nat.le_of_ble_eq_true rfl, Nat.le_of_ble_eq_true rfl⟩, (by simp only [rL_keep, rX4_keep, room_1]; omega), (by simp only [rL_keep, rX4_keep, room_1]; omega)⟩ (fun v5 h6 n7 c8 => ?_) (fun _ _ _ hx => hx.elim)
  obtain ⟨xc8, tc8, c8a, c8b, c8m, c8e⟩ := mOk.gs (S := S) (oim_mp_keep (S := S)) c8
  have Mc8 : mAt h6 n7 (stOf S (sp_keep S (xs (i + 1)) (xs (i + 2)) (xs (i + 3)))) (tc8) := by rw [← eqS_keep hS]; exact c8m
  have Cc8 := cAt.fr2 Cc4 (fun j hj => c8e j (Or.inl hj))
  have Oc8 := (c8e 38 (Or.inr rfl)).trans c4d
  rw [c8a]
  show mT _ _ _ _ 687 [.retAddr 0, .ref 0, .ref 27, .ref 38, .int (nI i), .int (nI ((sp_keep S (xs (i + 1)) (xs (i + 2)) (xs (i + 3))).1)), .double 0] [.int xc8] _ _ _ _
  refine mp_istore dL_law_687 (ls' := [.retAddr 0, .ref 0, .ref 27, .ref 38, .int (nI i), .int (nI ((sp_keep S (xs (i + 1)) (xs (i + 2)) (xs (i + 3))).1)), .int xc8]) rfl (by decide) rfl ?_
  refine mt_goto dL_law_689 (tgt := 2003) rfl ?_
  refine mt_drop 5 (ls' := [.retAddr 0, .ref 0, .ref 27, .ref 38, .int (nI i), .double 0, .int xc8]) rfl ?_
  refine mt_drop 6 (ls' := [.retAddr 0, .ref 0, .ref 27, .ref 38, .int (nI i), .double 0, .double 0]) rfl ?_
  refine mt_widen (cc' := cc + 9000) (sc' := sc + 62000) (by simp only [rL_keep, rX4_keep]; omega) (by simp only [rL_keep, rX4_keep]; omega) ?_
  exact kk _ _ _ _ _ _ Cc8 Mc8 Oc8
theorem oim_mp_sort {S : cS} {row : Int32} : oI vI true true (mp_sort S row) := by
  unfold mp_sort
  repeat' first | exact Or.inl ⟨rfl, _, rfl⟩ | exact Or.inr (Or.inr ⟨rfl, rfl⟩) | exact Or.inr (Or.inl ⟨rfl, rfl⟩) | refine dAt_o (fun r => ?_) | refine dArg_o (fun r => ?_) | refine dFit_o ?_ | refine dB_o (fun r => ?_) | refine dKeep_o (fun p t => ?_) | split
set_option maxRecDepth 100000 in
set_option maxHeartbeats 2000000 in
theorem tL_c10 {l : Launch} (hl : l.stackTraces = false) {L : Nat} {xs : Nat → Int32} : lawCase l L xs 692 := by
  intro i h n S th y s cc sc hi6 hL C M O hcc hsc kk
  have hS := lenOk_of C
  show mT _ _ _ _ 692 [.retAddr 0, .ref 0, .ref 27, .ref 38, .int (nI i), .double 0, .double 0] [] _ _ _ _
  refine mt_aload_n dL_law_692 rfl rfl ?_
  refine mt_aload_n dL_law_693 rfl rfl ?_
  refine mt_iload dL_law_694 rfl ?_
  refine mt_iconst dL_law_696 (v := nI 1) rfl ?_
  refine mp_iadd dL_law_697 (v := nI (i + 1)) (nI_add _ _) ?_
  refine mx_ld dL_law_698 rfl (j := i + 1) (by omega) (by omega) ?_
  refine mt_aload_n dL_law_699 rfl rfl ?_
  refine mt_callSW (N := mL_sort) (Rc := rL_sort) (As := [.ref 0, .int (xs (i + 1)), .ref 38]) (st := []) dL_law_700 (kL_sort hl C O) sL_sort mw_528 rfl (Nat.le_of_ble_eq_true rfl) ⟨⟨Nat.le_of_ble_eq_true rfl, Nat.le_of_ble_eq_true rfl⟩, (by simp only [rL_sort, rX4_sort, room_1]; omega), (by simp only [rL_sort, rX4_sort, room_1]; omega)⟩ (fun v1 h2 n3 c4 => ?_) (fun _ _ _ hx => hx.elim)
  obtain ⟨c4a, c4b, c4c, ⟨yc4, c4d, c4z⟩, c4e⟩ := c4
  rw [c4a, c4b]
  have Cc4 : cAt h2 (stOf S (sp_sort S (xs (i + 1)))) := c4c
  have Mc4 := mAt.fr M (Nat.le_refl _) c4e
  show mT _ _ _ _ 703 [.retAddr 0, .ref 0, .ref 27, .ref 38, .int (nI i), .double 0, .double 0] [.int (nI ((sp_sort S (xs (i + 1))).1))] _ _ _ _
  refine mp_istore dL_law_703 (ls' := [.retAddr 0, .ref 0, .ref 27, .ref 38, .int (nI i), .int (nI ((sp_sort S (xs (i + 1))).1)), .double 0]) rfl (by decide) rfl ?_
  refine mt_aload_n dL_law_705 rfl rfl ?_
  refine mt_aload_n dL_law_706 rfl rfl ?_
  refine mt_iload dL_law_707 rfl ?_
  refine mt_iconst dL_law_709 (v := nI 1) rfl ?_
  refine mp_iadd dL_law_710 (v := nI (i + 1)) (nI_add _ _) ?_
  refine mx_ld dL_law_711 rfl (j := i + 1) (by omega) (by omega) ?_
  refine mt_callV (N := mX4_sort) (Rc := rX4_sort) (As := [.int (xs (i + 1))]) (st := []) dL_law_712 (kX4_sort hl Mc4) sX4_sort mw_1183 mKX4 rfl Mc4.1 rfl (Nat.le_of_ble_eq_true rfl) ⟨⟨Nat.le_of_ble_eq_true rfl, Nat.le_of_ble_eq_true rfl⟩, (by simp only [rL_sort, rX4_sort, room_1]; omega), (by simp only [rL_sort, rX4_sort, room_1]; omega)⟩ (fun v5 h6 n7 c8 => ?_) (fun _ _ _ hx => hx.elim)
  obtain ⟨xc8, tc8, c8a, c8b, c8m, c8e⟩ := mOk.gs (S := S) (oim_mp_sort (S := S)) c8
  have Mc8 : mAt h6 n7 (stOf S (sp_sort S (xs (i + 1)))) (tc8) := by rw [← eqS_sort]; exact c8m
  have Cc8 := cAt.fr2 Cc4 (fun j hj => c8e j (Or.inl hj))
  have Oc8 := (c8e 38 (Or.inr rfl)).trans c4d
  rw [c8a]
  show mT _ _ _ _ 715 [.retAddr 0, .ref 0, .ref 27, .ref 38, .int (nI i), .int (nI ((sp_sort S (xs (i + 1))).1)), .double 0] [.int xc8] _ _ _ _
  refine mp_istore dL_law_715 (ls' := [.retAddr 0, .ref 0, .ref 27, .ref 38, .int (nI i), .int (nI ((sp_sort S (xs (i + 1))).1)), .int xc8]) rfl (by decide) rfl ?_
  refine mt_goto dL_law_717 (tgt := 2003) rfl ?_
  refine mt_drop 5 (ls' := [.retAddr 0, .ref 0, .ref 27, .ref 38, .int (nI i), .double 0, .int xc8]) rfl ?_
  refine mt_drop 6 (ls' := [.retAddr 0, .ref 0, .ref 27, .ref 38, .int (nI i), .double 0, .double 0]) rfl ?_
  refine mt_widen (cc' := cc + 9000) (sc' := sc + 62000) (by simp only [rL_sort, rX4_sort]; omega) (by simp only [rL_sort, rX4_sort]; omega) ?_
  exact kk _ _ _ _ _ _ Cc8 Mc8 Oc8
theorem oim_mp_copy {S : cS} {row : Int32} {into : Int32} : oI vI true true (mp_copy S row into) := by
  unfold mp_copy
  repeat' first | exact Or.inl ⟨rfl, _, rfl⟩ | exact Or.inr (Or.inr ⟨rfl, rfl⟩) | exact Or.inr (Or.inl ⟨rfl, rfl⟩) | refine dAt_o (fun r => ?_) | refine dArg_o (fun r => ?_) | refine dFit_o ?_ | refine dB_o (fun r => ?_) | refine dKeep_o (fun p t => ?_) | split
set_option maxRecDepth 100000 in
set_option maxHeartbeats 2000000 in
theorem tL_c11 {l : Launch} (hl : l.stackTraces = false) {L : Nat} {xs : Nat → Int32} : lawCase l L xs 720 := by
  intro i h n S th y s cc sc hi6 hL C M O hcc hsc kk
  have hS := lenOk_of C
  show mT _ _ _ _ 720 [.retAddr 0, .ref 0, .ref 27, .ref 38, .int (nI i), .double 0, .double 0] [] _ _ _ _
  refine mt_aload_n dL_law_720 rfl rfl ?_
  refine mt_aload_n dL_law_721 rfl rfl ?_
  refine mt_iload dL_law_722 rfl ?_
  refine mt_iconst dL_law_724 (v := nI 1) rfl ?_
  refine mp_iadd dL_law_725 (v := nI (i + 1)) (nI_add _ _) ?_
  refine mx_ld dL_law_726 rfl (j := i + 1) (by omega) (by omega) ?_
  refine mt_aload_n dL_law_727 rfl rfl ?_
  refine mt_iload dL_law_728 rfl ?_
  refine mt_iconst dL_law_730 (v := nI 2) rfl ?_
  refine mp_iadd dL_law_731 (v := nI (i + 2)) (nI_add _ _) ?_
  refine mx_ld dL_law_732 rfl (j := i + 2) (by omega) (by omega) ?_
  refine mt_aload_n dL_law_733 rfl rfl ?_
  refine mt_callSW (N := mL_copy) (Rc := rL_copy) (As := [.ref 0, .int (xs (i + 1)), .int (xs (i + 2)), .ref 38]) (st := []) dL_law_734 (kL_copy hl C O) sL_copy mw_535 rfl (Nat.le_of_ble_eq_true rfl) ⟨⟨Nat.le_of_ble_eq_true rfl, Nat.le_of_ble_eq_true rfl⟩, (by simp only [rL_copy, rX4_copy, room_1]; omega), (by simp only [rL_copy, rX4_copy, room_1]; omega)⟩ (fun v1 h2 n3 c4 => ?_) (fun _ _ _ hx => hx.elim)
  obtain ⟨c4a, c4b, c4c, ⟨yc4, c4d, c4z⟩, c4e⟩ := c4
  rw [c4a, c4b]
  have Cc4 : cAt h2 (stOf S (sp_copy S (xs (i + 1)) (xs (i + 2)))) := c4c
  have Mc4 := mAt.fr M (Nat.le_refl _) c4e
  show mT _ _ _ _ 737 [.retAddr 0, .ref 0, .ref 27, .ref 38, .int (nI i), .double 0, .double 0] [.int (nI ((sp_copy S (xs (i + 1)) (xs (i + 2))).1))] _ _ _ _
  refine mp_istore dL_law_737 (ls' := [.retAddr 0, .ref 0, .ref 27, .ref 38, .int (nI i), .int (nI ((sp_copy S (xs (i + 1)) (xs (i + 2))).1)), .double 0]) rfl (by decide) rfl ?_
  refine mt_aload_n dL_law_739 rfl rfl ?_
  refine mt_aload_n dL_law_740 rfl rfl ?_
  refine mt_iload dL_law_741 rfl ?_
  refine mt_iconst dL_law_743 (v := nI 1) rfl ?_
  refine mp_iadd dL_law_744 (v := nI (i + 1)) (nI_add _ _) ?_
  refine mx_ld dL_law_745 rfl (j := i + 1) (by omega) (by omega) ?_
  refine mt_aload_n dL_law_746 rfl rfl ?_
  refine mt_iload dL_law_747 rfl ?_
  refine mt_iconst dL_law_749 (v := nI 2) rfl ?_
  refine mp_iadd dL_law_750 (v := nI (i + 2)) (nI_add _ _) ?_
  refine mx_ld dL_law_751 rfl (j := i + 2) (by omega) (by omega) ?_
  refine mt_callV (N := mX4_copy) (Rc := rX4_copy) (As := [.int (xs (i + 1)), .int (xs (i + 2))]) (st := []) dL_law_752 (kX4_copy hl Mc4) sX4_copy mw_1195 mKX4 rfl Mc4.1 rfl (Nat.le_of_ble_eq_true rfl) ⟨⟨Nat.le_of_ble_eq_true rfl, Nat.le_of_ble_eq_true rfl⟩, (by simp only [rL_copy, rX4_copy, room_1]; omega), (by simp only [rL_copy, rX4_copy, room_1]; omega)⟩ (fun v5 h6 n7 c8 => ?_) (fun _ _ _ hx => hx.elim)
  obtain ⟨xc8, tc8, c8a, c8b, c8m, c8e⟩ := mOk.gs (S := S) (oim_mp_copy (S := S)) c8
  have Mc8 : mAt h6 n7 (stOf S (sp_copy S (xs (i + 1)) (xs (i + 2)))) (tc8) := by rw [← eqS_copy hS]; exact c8m
  have Cc8 := cAt.fr2 Cc4 (fun j hj => c8e j (Or.inl hj))
  have Oc8 := (c8e 38 (Or.inr rfl)).trans c4d
  rw [c8a]
  show mT _ _ _ _ 755 [.retAddr 0, .ref 0, .ref 27, .ref 38, .int (nI i), .int (nI ((sp_copy S (xs (i + 1)) (xs (i + 2))).1)), .double 0] [.int xc8] _ _ _ _
  refine mp_istore dL_law_755 (ls' := [.retAddr 0, .ref 0, .ref 27, .ref 38, .int (nI i), .int (nI ((sp_copy S (xs (i + 1)) (xs (i + 2))).1)), .int xc8]) rfl (by decide) rfl ?_
  refine mt_goto dL_law_757 (tgt := 2003) rfl ?_
  refine mt_drop 5 (ls' := [.retAddr 0, .ref 0, .ref 27, .ref 38, .int (nI i), .double 0, .int xc8]) rfl ?_
  refine mt_drop 6 (ls' := [.retAddr 0, .ref 0, .ref 27, .ref 38, .int (nI i), .double 0, .double 0]) rfl ?_
  refine mt_widen (cc' := cc + 9000) (sc' := sc + 62000) (by simp only [rL_copy, rX4_copy]; omega) (by simp only [rL_copy, rX4_copy]; omega) ?_
  exact kk _ _ _ _ _ _ Cc8 Mc8 Oc8
theorem oim_mp_join {S : cS} {row : Int32} {other : Int32} : oI vI true true (mp_join S row other) := by
  unfold mp_join
  repeat' first | exact Or.inl ⟨rfl, _, rfl⟩ | exact Or.inr (Or.inr ⟨rfl, rfl⟩) | exact Or.inr (Or.inl ⟨rfl, rfl⟩) | refine dAt_o (fun r => ?_) | refine dArg_o (fun r => ?_) | refine dFit_o ?_ | refine dB_o (fun r => ?_) | refine dKeep_o (fun p t => ?_) | split
set_option maxRecDepth 100000 in
set_option maxHeartbeats 2000000 in
theorem tL_c12 {l : Launch} (hl : l.stackTraces = false) {L : Nat} {xs : Nat → Int32} : lawCase l L xs 760 := by
  intro i h n S th y s cc sc hi6 hL C M O hcc hsc kk
  have hS := lenOk_of C
  show mT _ _ _ _ 760 [.retAddr 0, .ref 0, .ref 27, .ref 38, .int (nI i), .double 0, .double 0] [] _ _ _ _
  refine mt_aload_n dL_law_760 rfl rfl ?_
  refine mt_aload_n dL_law_761 rfl rfl ?_
  refine mt_iload dL_law_762 rfl ?_
  refine mt_iconst dL_law_764 (v := nI 1) rfl ?_
  refine mp_iadd dL_law_765 (v := nI (i + 1)) (nI_add _ _) ?_
  refine mx_ld dL_law_766 rfl (j := i + 1) (by omega) (by omega) ?_
  refine mt_aload_n dL_law_767 rfl rfl ?_
  refine mt_iload dL_law_768 rfl ?_
  refine mt_iconst dL_law_770 (v := nI 2) rfl ?_
  refine mp_iadd dL_law_771 (v := nI (i + 2)) (nI_add _ _) ?_
  refine mx_ld dL_law_772 rfl (j := i + 2) (by omega) (by omega) ?_
  refine mt_aload_n dL_law_773 rfl rfl ?_
  refine mt_callSW (N := mL_join) (Rc := rL_join) (As := [.ref 0, .int (xs (i + 1)), .int (xs (i + 2)), .ref 38]) (st := []) dL_law_774 (kL_join hl C O) sL_join mw_550 rfl (Nat.le_of_ble_eq_true rfl) ⟨⟨Nat.le_of_ble_eq_true rfl, Nat.le_of_ble_eq_true rfl⟩, (by simp only [rL_join, rX4_join, room_1]; omega), (by simp only [rL_join, rX4_join, room_1]; omega)⟩ (fun v1 h2 n3 c4 => ?_) (fun _ _ _ hx => hx.elim)
  obtain ⟨c4a, c4b, c4c, ⟨yc4, c4d, c4z⟩, c4e⟩ := c4
  rw [c4a, c4b]
  have Cc4 : cAt h2 (stOf S (sp_join S (xs (i + 1)) (xs (i + 2)))) := c4c
  have Mc4 := mAt.fr M (Nat.le_refl _) c4e
  show mT _ _ _ _ 777 [.retAddr 0, .ref 0, .ref 27, .ref 38, .int (nI i), .double 0, .double 0] [.int (nI ((sp_join S (xs (i + 1)) (xs (i + 2))).1))] _ _ _ _
  refine mp_istore dL_law_777 (ls' := [.retAddr 0, .ref 0, .ref 27, .ref 38, .int (nI i), .int (nI ((sp_join S (xs (i + 1)) (xs (i + 2))).1)), .double 0]) rfl (by decide) rfl ?_
  refine mt_aload_n dL_law_779 rfl rfl ?_
  refine mt_aload_n dL_law_780 rfl rfl ?_
  refine mt_iload dL_law_781 rfl ?_
  refine mt_iconst dL_law_783 (v := nI 1) rfl ?_
  refine mp_iadd dL_law_784 (v := nI (i + 1)) (nI_add _ _) ?_
  refine mx_ld dL_law_785 rfl (j := i + 1) (by omega) (by omega) ?_
  refine mt_aload_n dL_law_786 rfl rfl ?_
  refine mt_iload dL_law_787 rfl ?_
  refine mt_iconst dL_law_789 (v := nI 2) rfl ?_
  refine mp_iadd dL_law_790 (v := nI (i + 2)) (nI_add _ _) ?_
  refine mx_ld dL_law_791 rfl (j := i + 2) (by omega) (by omega) ?_
  refine mt_callV (N := mX4_join) (Rc := rX4_join) (As := [.int (xs (i + 1)), .int (xs (i + 2))]) (st := []) dL_law_792 (kX4_join hl Mc4) sX4_join mw_1203 mKX4 rfl Mc4.1 rfl (Nat.le_of_ble_eq_true rfl) ⟨⟨Nat.le_of_ble_eq_true rfl, Nat.le_of_ble_eq_true rfl⟩, (by simp only [rL_join, rX4_join, room_1]; omega), (by simp only [rL_join, rX4_join, room_1]; omega)⟩ (fun v5 h6 n7 c8 => ?_) (fun _ _ _ hx => hx.elim)
  obtain ⟨xc8, tc8, c8a, c8b, c8m, c8e⟩ := mOk.gs (S := S) (oim_mp_join (S := S)) c8
  have Mc8 : mAt h6 n7 (stOf S (sp_join S (xs (i + 1)) (xs (i + 2)))) (tc8) := by rw [← eqS_join hS]; exact c8m
  have Cc8 := cAt.fr2 Cc4 (fun j hj => c8e j (Or.inl hj))
  have Oc8 := (c8e 38 (Or.inr rfl)).trans c4d
  rw [c8a]
  show mT _ _ _ _ 795 [.retAddr 0, .ref 0, .ref 27, .ref 38, .int (nI i), .int (nI ((sp_join S (xs (i + 1)) (xs (i + 2))).1)), .double 0] [.int xc8] _ _ _ _
  refine mp_istore dL_law_795 (ls' := [.retAddr 0, .ref 0, .ref 27, .ref 38, .int (nI i), .int (nI ((sp_join S (xs (i + 1)) (xs (i + 2))).1)), .int xc8]) rfl (by decide) rfl ?_
  refine mt_goto dL_law_797 (tgt := 2003) rfl ?_
  refine mt_drop 5 (ls' := [.retAddr 0, .ref 0, .ref 27, .ref 38, .int (nI i), .double 0, .int xc8]) rfl ?_
  refine mt_drop 6 (ls' := [.retAddr 0, .ref 0, .ref 27, .ref 38, .int (nI i), .double 0, .double 0]) rfl ?_
  refine mt_widen (cc' := cc + 9000) (sc' := sc + 62000) (by simp only [rL_join, rX4_join]; omega) (by simp only [rL_join, rX4_join]; omega) ?_
  exact kk _ _ _ _ _ _ Cc8 Mc8 Oc8
theorem oim_mp_merge {S : cS} {row : Int32} {other : Int32} : oI vI true true (mp_merge S row other) := by
  unfold mp_merge
  repeat' first | exact Or.inl ⟨rfl, _, rfl⟩ | exact Or.inr (Or.inr ⟨rfl, rfl⟩) | exact Or.inr (Or.inl ⟨rfl, rfl⟩) | refine dAt_o (fun r => ?_) | refine dArg_o (fun r => ?_) | refine dFit_o ?_ | refine dB_o (fun r => ?_) | refine dKeep_o (fun p t => ?_) | split
set_option maxRecDepth 100000 in
set_option maxHeartbeats 2000000 in
theorem tL_c13 {l : Launch} (hl : l.stackTraces = false) {L : Nat} {xs : Nat → Int32} : lawCase l L xs 800 := by
  intro i h n S th y s cc sc hi6 hL C M O hcc hsc kk
  have hS := lenOk_of C
  show mT _ _ _ _ 800 [.retAddr 0, .ref 0, .ref 27, .ref 38, .int (nI i), .double 0, .double 0] [] _ _ _ _
  refine mt_aload_n dL_law_800 rfl rfl ?_
  refine mt_aload_n dL_law_801 rfl rfl ?_
  refine mt_iload dL_law_802 rfl ?_
  refine mt_iconst dL_law_804 (v := nI 1) rfl ?_
  refine mp_iadd dL_law_805 (v := nI (i + 1)) (nI_add _ _) ?_
  refine mx_ld dL_law_806 rfl (j := i + 1) (by omega) (by omega) ?_
  refine mt_aload_n dL_law_807 rfl rfl ?_
  refine mt_iload dL_law_808 rfl ?_
  refine mt_iconst dL_law_810 (v := nI 2) rfl ?_
  refine mp_iadd dL_law_811 (v := nI (i + 2)) (nI_add _ _) ?_
  refine mx_ld dL_law_812 rfl (j := i + 2) (by omega) (by omega) ?_
  refine mt_aload_n dL_law_813 rfl rfl ?_
  refine mt_callSW (N := mL_merge) (Rc := rL_merge) (As := [.ref 0, .int (xs (i + 1)), .int (xs (i + 2)), .ref 38]) (st := []) dL_law_814 (kL_merge hl C O) sL_merge mw_557 rfl (Nat.le_of_ble_eq_true rfl) ⟨⟨Nat.le_of_ble_eq_true rfl, Nat.le_of_ble_eq_true rfl⟩, (by simp only [rL_merge, rX4_merge, room_1]; omega), (by simp only [rL_merge, rX4_merge, room_1]; omega)⟩ (fun v1 h2 n3 c4 => ?_) (fun _ _ _ hx => hx.elim)
  obtain ⟨c4a, c4b, c4c, ⟨yc4, c4d, c4z⟩, c4e⟩ := c4
  rw [c4a, c4b]
  have Cc4 : cAt h2 (stOf S (sp_merge S (xs (i + 1)) (xs (i + 2)))) := c4c
  have Mc4 := mAt.fr M (Nat.le_refl _) c4e
  show mT _ _ _ _ 817 [.retAddr 0, .ref 0, .ref 27, .ref 38, .int (nI i), .double 0, .double 0] [.int (nI ((sp_merge S (xs (i + 1)) (xs (i + 2))).1))] _ _ _ _
  refine mp_istore dL_law_817 (ls' := [.retAddr 0, .ref 0, .ref 27, .ref 38, .int (nI i), .int (nI ((sp_merge S (xs (i + 1)) (xs (i + 2))).1)), .double 0]) rfl (by decide) rfl ?_
  refine mt_aload_n dL_law_819 rfl rfl ?_
  refine mt_aload_n dL_law_820 rfl rfl ?_
  refine mt_iload dL_law_821 rfl ?_
  refine mt_iconst dL_law_823 (v := nI 1) rfl ?_
  refine mp_iadd dL_law_824 (v := nI (i + 1)) (nI_add _ _) ?_
  refine mx_ld dL_law_825 rfl (j := i + 1) (by omega) (by omega) ?_
  refine mt_aload_n dL_law_826 rfl rfl ?_
  refine mt_iload dL_law_827 rfl ?_
  refine mt_iconst dL_law_829 (v := nI 2) rfl ?_
  refine mp_iadd dL_law_830 (v := nI (i + 2)) (nI_add _ _) ?_
  refine mx_ld dL_law_831 rfl (j := i + 2) (by omega) (by omega) ?_
  refine mt_callV (N := mX4_merge) (Rc := rX4_merge) (As := [.int (xs (i + 1)), .int (xs (i + 2))]) (st := []) dL_law_832 (kX4_merge hl Mc4) sX4_merge mw_1207 mKX4 rfl Mc4.1 rfl (Nat.le_of_ble_eq_true rfl) ⟨⟨Nat.le_of_ble_eq_true rfl, Nat.le_of_ble_eq_true rfl⟩, (by simp only [rL_merge, rX4_merge, room_1]; omega), (by simp only [rL_merge, rX4_merge, room_1]; omega)⟩ (fun v5 h6 n7 c8 => ?_) (fun _ _ _ hx => hx.elim)
  obtain ⟨xc8, tc8, c8a, c8b, c8m, c8e⟩ := mOk.gs (S := S) (oim_mp_merge (S := S)) c8
  have Mc8 : mAt h6 n7 (stOf S (sp_merge S (xs (i + 1)) (xs (i + 2)))) (tc8) := by rw [← eqS_merge hS]; exact c8m
  have Cc8 := cAt.fr2 Cc4 (fun j hj => c8e j (Or.inl hj))
  have Oc8 := (c8e 38 (Or.inr rfl)).trans c4d
  rw [c8a]
  show mT _ _ _ _ 835 [.retAddr 0, .ref 0, .ref 27, .ref 38, .int (nI i), .int (nI ((sp_merge S (xs (i + 1)) (xs (i + 2))).1)), .double 0] [.int xc8] _ _ _ _
  refine mp_istore dL_law_835 (ls' := [.retAddr 0, .ref 0, .ref 27, .ref 38, .int (nI i), .int (nI ((sp_merge S (xs (i + 1)) (xs (i + 2))).1)), .int xc8]) rfl (by decide) rfl ?_
  refine mt_goto dL_law_837 (tgt := 2003) rfl ?_
  refine mt_drop 5 (ls' := [.retAddr 0, .ref 0, .ref 27, .ref 38, .int (nI i), .double 0, .int xc8]) rfl ?_
  refine mt_drop 6 (ls' := [.retAddr 0, .ref 0, .ref 27, .ref 38, .int (nI i), .double 0, .double 0]) rfl ?_
  refine mt_widen (cc' := cc + 9000) (sc' := sc + 62000) (by simp only [rL_merge, rX4_merge]; omega) (by simp only [rL_merge, rX4_merge]; omega) ?_
  exact kk _ _ _ _ _ _ Cc8 Mc8 Oc8
theorem oim_sp_many {S : cS} {row : Int32} : oI vI true true (sp_many S row) := by
  unfold sp_many
  repeat' first | exact Or.inl ⟨rfl, _, rfl⟩ | exact Or.inr (Or.inr ⟨rfl, rfl⟩) | exact Or.inr (Or.inl ⟨rfl, rfl⟩) | refine dAt_o (fun r => ?_) | refine dArg_o (fun r => ?_) | refine dFit_o ?_ | refine dB_o (fun r => ?_) | refine dKeep_o (fun p t => ?_) | split
set_option maxRecDepth 100000 in
set_option maxHeartbeats 2000000 in
theorem tL_c14 {l : Launch} (hl : l.stackTraces = false) {L : Nat} {xs : Nat → Int32} : lawCase l L xs 840 := by
  intro i h n S th y s cc sc hi6 hL C M O hcc hsc kk
  have hS := lenOk_of C
  show mT _ _ _ _ 840 [.retAddr 0, .ref 0, .ref 27, .ref 38, .int (nI i), .double 0, .double 0] [] _ _ _ _
  refine mt_aload_n dL_law_840 rfl rfl ?_
  refine mt_aload_n dL_law_841 rfl rfl ?_
  refine mt_iload dL_law_842 rfl ?_
  refine mt_iconst dL_law_844 (v := nI 1) rfl ?_
  refine mp_iadd dL_law_845 (v := nI (i + 1)) (nI_add _ _) ?_
  refine mx_ld dL_law_846 rfl (j := i + 1) (by omega) (by omega) ?_
  refine mt_aload_n dL_law_847 rfl rfl ?_
  refine mt_callSW (N := mL_many) (Rc := rL_many) (As := [.ref 0, .int (xs (i + 1)), .ref 38]) (st := []) dL_law_848 (kL_many hl C O) sL_many mw_564 rfl (Nat.le_of_ble_eq_true rfl) ⟨⟨Nat.le_of_ble_eq_true rfl, Nat.le_of_ble_eq_true rfl⟩, (by simp only [rL_many, rX4_many, room_1]; omega), (by simp only [rL_many, rX4_many, room_1]; omega)⟩ (fun v1 h2 n3 c4 => ?_) (fun _ _ _ hx => hx.elim)
  obtain ⟨c4a, c4b, c4c, ⟨yc4, c4d, c4z⟩, c4e⟩ := c4
  rw [c4a, c4b]
  have Cc4 : cAt h2 (stOf S (sp_many S (xs (i + 1)))) := c4c
  have Mc4 := mAt.fr M (Nat.le_refl _) c4e
  show mT _ _ _ _ 851 [.retAddr 0, .ref 0, .ref 27, .ref 38, .int (nI i), .double 0, .double 0] [.int (nI ((sp_many S (xs (i + 1))).1))] _ _ _ _
  refine mp_istore dL_law_851 (ls' := [.retAddr 0, .ref 0, .ref 27, .ref 38, .int (nI i), .int (nI ((sp_many S (xs (i + 1))).1)), .double 0]) rfl (by decide) rfl ?_
  refine mt_aload_n dL_law_853 rfl rfl ?_
  refine mt_aload_n dL_law_854 rfl rfl ?_
  refine mt_iload dL_law_855 rfl ?_
  refine mt_iconst dL_law_857 (v := nI 1) rfl ?_
  refine mp_iadd dL_law_858 (v := nI (i + 1)) (nI_add _ _) ?_
  refine mx_ld dL_law_859 rfl (j := i + 1) (by omega) (by omega) ?_
  refine mt_callV (N := mX4_many) (Rc := rX4_many) (As := [.int (xs (i + 1))]) (st := []) dL_law_860 (kX4_many hl Mc4) sX4_many mw_1211 mKX4 rfl Mc4.1 rfl (Nat.le_of_ble_eq_true rfl) ⟨⟨Nat.le_of_ble_eq_true rfl, Nat.le_of_ble_eq_true rfl⟩, (by simp only [rL_many, rX4_many, room_1]; omega), (by simp only [rL_many, rX4_many, room_1]; omega)⟩ (fun v5 h6 n7 c8 => ?_) (fun _ _ _ hx => hx.elim)
  obtain ⟨xc8, tc8, c8a, c8b, c8m, c8e⟩ := mOk.gs (S := S) (oim_sp_many (S := S)) (c8.ok Mc4.2.1)
  have Mc8 : mAt h6 n7 (stOf S (sp_many S (xs (i + 1)))) (tc8) := by rw [stOf_q qst_sp_many]; rw [show (sp_many S (xs (i + 1))).2.2 = S from qst_sp_many] at c8m; exact c8m
  have Cc8 := cAt.fr2 Cc4 (fun j hj => c8e j (Or.inl hj))
  have Oc8 := (c8e 38 (Or.inr rfl)).trans c4d
  rw [c8a]
  show mT _ _ _ _ 863 [.retAddr 0, .ref 0, .ref 27, .ref 38, .int (nI i), .int (nI ((sp_many S (xs (i + 1))).1)), .double 0] [.int xc8] _ _ _ _
  refine mp_istore dL_law_863 (ls' := [.retAddr 0, .ref 0, .ref 27, .ref 38, .int (nI i), .int (nI ((sp_many S (xs (i + 1))).1)), .int xc8]) rfl (by decide) rfl ?_
  refine mt_goto dL_law_865 (tgt := 2003) rfl ?_
  refine mt_drop 5 (ls' := [.retAddr 0, .ref 0, .ref 27, .ref 38, .int (nI i), .double 0, .int xc8]) rfl ?_
  refine mt_drop 6 (ls' := [.retAddr 0, .ref 0, .ref 27, .ref 38, .int (nI i), .double 0, .double 0]) rfl ?_
  refine mt_widen (cc' := cc + 9000) (sc' := sc + 62000) (by simp only [rL_many, rX4_many]; omega) (by simp only [rL_many, rX4_many]; omega) ?_
  exact kk _ _ _ _ _ _ Cc8 Mc8 Oc8
theorem oim_sp_key {S : cS} {row : Int32} {place : Int32} : oI vI true true (sp_key S row place) := by
  unfold sp_key
  repeat' first | exact Or.inl ⟨rfl, _, rfl⟩ | exact Or.inr (Or.inr ⟨rfl, rfl⟩) | exact Or.inr (Or.inl ⟨rfl, rfl⟩) | refine dAt_o (fun r => ?_) | refine dArg_o (fun r => ?_) | refine dFit_o ?_ | refine dB_o (fun r => ?_) | refine dKeep_o (fun p t => ?_) | split
set_option maxRecDepth 100000 in
set_option maxHeartbeats 2000000 in
theorem tL_c15 {l : Launch} (hl : l.stackTraces = false) {L : Nat} {xs : Nat → Int32} : lawCase l L xs 868 := by
  intro i h n S th y s cc sc hi6 hL C M O hcc hsc kk
  have hS := lenOk_of C
  show mT _ _ _ _ 868 [.retAddr 0, .ref 0, .ref 27, .ref 38, .int (nI i), .double 0, .double 0] [] _ _ _ _
  refine mt_aload_n dL_law_868 rfl rfl ?_
  refine mt_aload_n dL_law_869 rfl rfl ?_
  refine mt_iload dL_law_870 rfl ?_
  refine mt_iconst dL_law_872 (v := nI 1) rfl ?_
  refine mp_iadd dL_law_873 (v := nI (i + 1)) (nI_add _ _) ?_
  refine mx_ld dL_law_874 rfl (j := i + 1) (by omega) (by omega) ?_
  refine mt_aload_n dL_law_875 rfl rfl ?_
  refine mt_iload dL_law_876 rfl ?_
  refine mt_iconst dL_law_878 (v := nI 2) rfl ?_
  refine mp_iadd dL_law_879 (v := nI (i + 2)) (nI_add _ _) ?_
  refine mx_ld dL_law_880 rfl (j := i + 2) (by omega) (by omega) ?_
  refine mt_aload_n dL_law_881 rfl rfl ?_
  refine mt_callSW (N := mL_key) (Rc := rL_key) (As := [.ref 0, .int (xs (i + 1)), .int (xs (i + 2)), .ref 38]) (st := []) dL_law_882 (kL_key hl C O) sL_key mw_568 rfl (Nat.le_of_ble_eq_true rfl) ⟨⟨Nat.le_of_ble_eq_true rfl, Nat.le_of_ble_eq_true rfl⟩, (by simp only [rL_key, rX4_key, room_1]; omega), (by simp only [rL_key, rX4_key, room_1]; omega)⟩ (fun v1 h2 n3 c4 => ?_) (fun _ _ _ hx => hx.elim)
  obtain ⟨c4a, c4b, c4c, ⟨yc4, c4d, c4z⟩, c4e⟩ := c4
  rw [c4a, c4b]
  have Cc4 : cAt h2 (stOf S (sp_key S (xs (i + 1)) (xs (i + 2)))) := c4c
  have Mc4 := mAt.fr M (Nat.le_refl _) c4e
  show mT _ _ _ _ 885 [.retAddr 0, .ref 0, .ref 27, .ref 38, .int (nI i), .double 0, .double 0] [.int (nI ((sp_key S (xs (i + 1)) (xs (i + 2))).1))] _ _ _ _
  refine mp_istore dL_law_885 (ls' := [.retAddr 0, .ref 0, .ref 27, .ref 38, .int (nI i), .int (nI ((sp_key S (xs (i + 1)) (xs (i + 2))).1)), .double 0]) rfl (by decide) rfl ?_
  refine mt_aload_n dL_law_887 rfl rfl ?_
  refine mt_aload_n dL_law_888 rfl rfl ?_
  refine mt_iload dL_law_889 rfl ?_
  refine mt_iconst dL_law_891 (v := nI 1) rfl ?_
  refine mp_iadd dL_law_892 (v := nI (i + 1)) (nI_add _ _) ?_
  refine mx_ld dL_law_893 rfl (j := i + 1) (by omega) (by omega) ?_
  refine mt_aload_n dL_law_894 rfl rfl ?_
  refine mt_iload dL_law_895 rfl ?_
  refine mt_iconst dL_law_897 (v := nI 2) rfl ?_
  refine mp_iadd dL_law_898 (v := nI (i + 2)) (nI_add _ _) ?_
  refine mx_ld dL_law_899 rfl (j := i + 2) (by omega) (by omega) ?_
  refine mt_callV (N := mX4_key) (Rc := rX4_key) (As := [.int (xs (i + 1)), .int (xs (i + 2))]) (st := []) dL_law_900 (kX4_key hl Mc4) sX4_key mw_1215 mKX4 rfl Mc4.1 rfl (Nat.le_of_ble_eq_true rfl) ⟨⟨Nat.le_of_ble_eq_true rfl, Nat.le_of_ble_eq_true rfl⟩, (by simp only [rL_key, rX4_key, room_1]; omega), (by simp only [rL_key, rX4_key, room_1]; omega)⟩ (fun v5 h6 n7 c8 => ?_) (fun _ _ _ hx => hx.elim)
  obtain ⟨xc8, tc8, c8a, c8b, c8m, c8e⟩ := mOk.gs (S := S) (oim_sp_key (S := S)) (c8.ok Mc4.2.1)
  have Mc8 : mAt h6 n7 (stOf S (sp_key S (xs (i + 1)) (xs (i + 2)))) (tc8) := by rw [stOf_q qst_sp_key]; rw [show (sp_key S (xs (i + 1)) (xs (i + 2))).2.2 = S from qst_sp_key] at c8m; exact c8m
  have Cc8 := cAt.fr2 Cc4 (fun j hj => c8e j (Or.inl hj))
  have Oc8 := (c8e 38 (Or.inr rfl)).trans c4d
  rw [c8a]
  show mT _ _ _ _ 903 [.retAddr 0, .ref 0, .ref 27, .ref 38, .int (nI i), .int (nI ((sp_key S (xs (i + 1)) (xs (i + 2))).1)), .double 0] [.int xc8] _ _ _ _
  refine mp_istore dL_law_903 (ls' := [.retAddr 0, .ref 0, .ref 27, .ref 38, .int (nI i), .int (nI ((sp_key S (xs (i + 1)) (xs (i + 2))).1)), .int xc8]) rfl (by decide) rfl ?_
  refine mt_goto dL_law_905 (tgt := 2003) rfl ?_
  refine mt_drop 5 (ls' := [.retAddr 0, .ref 0, .ref 27, .ref 38, .int (nI i), .double 0, .int xc8]) rfl ?_
  refine mt_drop 6 (ls' := [.retAddr 0, .ref 0, .ref 27, .ref 38, .int (nI i), .double 0, .double 0]) rfl ?_
  refine mt_widen (cc' := cc + 9000) (sc' := sc + 62000) (by simp only [rL_key, rX4_key]; omega) (by simp only [rL_key, rX4_key]; omega) ?_
  exact kk _ _ _ _ _ _ Cc8 Mc8 Oc8
theorem oim_sp_stamp {S : cS} {row : Int32} {place : Int32} : oI vI true true (sp_stamp S row place) := by
  unfold sp_stamp
  repeat' first | exact Or.inl ⟨rfl, _, rfl⟩ | exact Or.inr (Or.inr ⟨rfl, rfl⟩) | exact Or.inr (Or.inl ⟨rfl, rfl⟩) | refine dAt_o (fun r => ?_) | refine dArg_o (fun r => ?_) | refine dFit_o ?_ | refine dB_o (fun r => ?_) | refine dKeep_o (fun p t => ?_) | split
set_option maxRecDepth 100000 in
set_option maxHeartbeats 2000000 in
theorem tL_c16 {l : Launch} (hl : l.stackTraces = false) {L : Nat} {xs : Nat → Int32} : lawCase l L xs 908 := by
  intro i h n S th y s cc sc hi6 hL C M O hcc hsc kk
  have hS := lenOk_of C
  show mT _ _ _ _ 908 [.retAddr 0, .ref 0, .ref 27, .ref 38, .int (nI i), .double 0, .double 0] [] _ _ _ _
  refine mt_aload_n dL_law_908 rfl rfl ?_
  refine mt_aload_n dL_law_909 rfl rfl ?_
  refine mt_iload dL_law_910 rfl ?_
  refine mt_iconst dL_law_912 (v := nI 1) rfl ?_
  refine mp_iadd dL_law_913 (v := nI (i + 1)) (nI_add _ _) ?_
  refine mx_ld dL_law_914 rfl (j := i + 1) (by omega) (by omega) ?_
  refine mt_aload_n dL_law_915 rfl rfl ?_
  refine mt_iload dL_law_916 rfl ?_
  refine mt_iconst dL_law_918 (v := nI 2) rfl ?_
  refine mp_iadd dL_law_919 (v := nI (i + 2)) (nI_add _ _) ?_
  refine mx_ld dL_law_920 rfl (j := i + 2) (by omega) (by omega) ?_
  refine mt_aload_n dL_law_921 rfl rfl ?_
  refine mt_callSW (N := mL_stamp) (Rc := rL_stamp) (As := [.ref 0, .int (xs (i + 1)), .int (xs (i + 2)), .ref 38]) (st := []) dL_law_922 (kL_stamp hl C O) sL_stamp mw_575 rfl (Nat.le_of_ble_eq_true rfl) ⟨⟨Nat.le_of_ble_eq_true rfl, Nat.le_of_ble_eq_true rfl⟩, (by simp only [rL_stamp, rX4_stamp, room_1]; omega), (by simp only [rL_stamp, rX4_stamp, room_1]; omega)⟩ (fun v1 h2 n3 c4 => ?_) (fun _ _ _ hx => hx.elim)
  obtain ⟨c4a, c4b, c4c, ⟨yc4, c4d, c4z⟩, c4e⟩ := c4
  rw [c4a, c4b]
  have Cc4 : cAt h2 (stOf S (sp_stamp S (xs (i + 1)) (xs (i + 2)))) := c4c
  have Mc4 := mAt.fr M (Nat.le_refl _) c4e
  show mT _ _ _ _ 925 [.retAddr 0, .ref 0, .ref 27, .ref 38, .int (nI i), .double 0, .double 0] [.int (nI ((sp_stamp S (xs (i + 1)) (xs (i + 2))).1))] _ _ _ _
  refine mp_istore dL_law_925 (ls' := [.retAddr 0, .ref 0, .ref 27, .ref 38, .int (nI i), .int (nI ((sp_stamp S (xs (i + 1)) (xs (i + 2))).1)), .double 0]) rfl (by decide) rfl ?_
  refine mt_aload_n dL_law_927 rfl rfl ?_
  refine mt_aload_n dL_law_928 rfl rfl ?_
  refine mt_iload dL_law_929 rfl ?_
  refine mt_iconst dL_law_931 (v := nI 1) rfl ?_
  refine mp_iadd dL_law_932 (v := nI (i + 1)) (nI_add _ _) ?_
  refine mx_ld dL_law_933 rfl (j := i + 1) (by omega) (by omega) ?_
  refine mt_aload_n dL_law_934 rfl rfl ?_
  refine mt_iload dL_law_935 rfl ?_
  refine mt_iconst dL_law_937 (v := nI 2) rfl ?_
  refine mp_iadd dL_law_938 (v := nI (i + 2)) (nI_add _ _) ?_
  refine mx_ld dL_law_939 rfl (j := i + 2) (by omega) (by omega) ?_
  refine mt_callV (N := mX4_stamp) (Rc := rX4_stamp) (As := [.int (xs (i + 1)), .int (xs (i + 2))]) (st := []) dL_law_940 (kX4_stamp hl Mc4) sX4_stamp mw_1219 mKX4 rfl Mc4.1 rfl (Nat.le_of_ble_eq_true rfl) ⟨⟨Nat.le_of_ble_eq_true rfl, Nat.le_of_ble_eq_true rfl⟩, (by simp only [rL_stamp, rX4_stamp, room_1]; omega), (by simp only [rL_stamp, rX4_stamp, room_1]; omega)⟩ (fun v5 h6 n7 c8 => ?_) (fun _ _ _ hx => hx.elim)
  obtain ⟨xc8, tc8, c8a, c8b, c8m, c8e⟩ := mOk.gs (S := S) (oim_sp_stamp (S := S)) (c8.ok Mc4.2.1)
  have Mc8 : mAt h6 n7 (stOf S (sp_stamp S (xs (i + 1)) (xs (i + 2)))) (tc8) := by rw [stOf_q qst_sp_stamp]; rw [show (sp_stamp S (xs (i + 1)) (xs (i + 2))).2.2 = S from qst_sp_stamp] at c8m; exact c8m
  have Cc8 := cAt.fr2 Cc4 (fun j hj => c8e j (Or.inl hj))
  have Oc8 := (c8e 38 (Or.inr rfl)).trans c4d
  rw [c8a]
  show mT _ _ _ _ 943 [.retAddr 0, .ref 0, .ref 27, .ref 38, .int (nI i), .int (nI ((sp_stamp S (xs (i + 1)) (xs (i + 2))).1)), .double 0] [.int xc8] _ _ _ _
  refine mp_istore dL_law_943 (ls' := [.retAddr 0, .ref 0, .ref 27, .ref 38, .int (nI i), .int (nI ((sp_stamp S (xs (i + 1)) (xs (i + 2))).1)), .int xc8]) rfl (by decide) rfl ?_
  refine mt_goto dL_law_945 (tgt := 2003) rfl ?_
  refine mt_drop 5 (ls' := [.retAddr 0, .ref 0, .ref 27, .ref 38, .int (nI i), .double 0, .int xc8]) rfl ?_
  refine mt_drop 6 (ls' := [.retAddr 0, .ref 0, .ref 27, .ref 38, .int (nI i), .double 0, .double 0]) rfl ?_
  refine mt_widen (cc' := cc + 9000) (sc' := sc + 62000) (by simp only [rL_stamp, rX4_stamp]; omega) (by simp only [rL_stamp, rX4_stamp]; omega) ?_
  exact kk _ _ _ _ _ _ Cc8 Mc8 Oc8
theorem oim_sp_rank {S : cS} {row : Int32} {place : Int32} : oI vI true true (sp_rank S row place) := by
  unfold sp_rank
  repeat' first | exact Or.inl ⟨rfl, _, rfl⟩ | exact Or.inr (Or.inr ⟨rfl, rfl⟩) | exact Or.inr (Or.inl ⟨rfl, rfl⟩) | refine dAt_o (fun r => ?_) | refine dArg_o (fun r => ?_) | refine dFit_o ?_ | refine dB_o (fun r => ?_) | refine dKeep_o (fun p t => ?_) | split
set_option maxRecDepth 100000 in
set_option maxHeartbeats 2000000 in
theorem tL_c17 {l : Launch} (hl : l.stackTraces = false) {L : Nat} {xs : Nat → Int32} : lawCase l L xs 948 := by
  intro i h n S th y s cc sc hi6 hL C M O hcc hsc kk
  have hS := lenOk_of C
  show mT _ _ _ _ 948 [.retAddr 0, .ref 0, .ref 27, .ref 38, .int (nI i), .double 0, .double 0] [] _ _ _ _
  refine mt_aload_n dL_law_948 rfl rfl ?_
  refine mt_aload_n dL_law_949 rfl rfl ?_
  refine mt_iload dL_law_950 rfl ?_
  refine mt_iconst dL_law_952 (v := nI 1) rfl ?_
  refine mp_iadd dL_law_953 (v := nI (i + 1)) (nI_add _ _) ?_
  refine mx_ld dL_law_954 rfl (j := i + 1) (by omega) (by omega) ?_
  refine mt_aload_n dL_law_955 rfl rfl ?_
  refine mt_iload dL_law_956 rfl ?_
  refine mt_iconst dL_law_958 (v := nI 2) rfl ?_
  refine mp_iadd dL_law_959 (v := nI (i + 2)) (nI_add _ _) ?_
  refine mx_ld dL_law_960 rfl (j := i + 2) (by omega) (by omega) ?_
  refine mt_aload_n dL_law_961 rfl rfl ?_
  refine mt_callSW (N := mL_rank) (Rc := rL_rank) (As := [.ref 0, .int (xs (i + 1)), .int (xs (i + 2)), .ref 38]) (st := []) dL_law_962 (kL_rank hl C O) sL_rank mw_582 rfl (Nat.le_of_ble_eq_true rfl) ⟨⟨Nat.le_of_ble_eq_true rfl, Nat.le_of_ble_eq_true rfl⟩, (by simp only [rL_rank, rX4_rank, room_1]; omega), (by simp only [rL_rank, rX4_rank, room_1]; omega)⟩ (fun v1 h2 n3 c4 => ?_) (fun _ _ _ hx => hx.elim)
  obtain ⟨c4a, c4b, c4c, ⟨yc4, c4d, c4z⟩, c4e⟩ := c4
  rw [c4a, c4b]
  have Cc4 : cAt h2 (stOf S (sp_rank S (xs (i + 1)) (xs (i + 2)))) := c4c
  have Mc4 := mAt.fr M (Nat.le_refl _) c4e
  show mT _ _ _ _ 965 [.retAddr 0, .ref 0, .ref 27, .ref 38, .int (nI i), .double 0, .double 0] [.int (nI ((sp_rank S (xs (i + 1)) (xs (i + 2))).1))] _ _ _ _
  refine mp_istore dL_law_965 (ls' := [.retAddr 0, .ref 0, .ref 27, .ref 38, .int (nI i), .int (nI ((sp_rank S (xs (i + 1)) (xs (i + 2))).1)), .double 0]) rfl (by decide) rfl ?_
  refine mt_aload_n dL_law_967 rfl rfl ?_
  refine mt_aload_n dL_law_968 rfl rfl ?_
  refine mt_iload dL_law_969 rfl ?_
  refine mt_iconst dL_law_971 (v := nI 1) rfl ?_
  refine mp_iadd dL_law_972 (v := nI (i + 1)) (nI_add _ _) ?_
  refine mx_ld dL_law_973 rfl (j := i + 1) (by omega) (by omega) ?_
  refine mt_aload_n dL_law_974 rfl rfl ?_
  refine mt_iload dL_law_975 rfl ?_
  refine mt_iconst dL_law_977 (v := nI 2) rfl ?_
  refine mp_iadd dL_law_978 (v := nI (i + 2)) (nI_add _ _) ?_
  refine mx_ld dL_law_979 rfl (j := i + 2) (by omega) (by omega) ?_
  refine mt_callV (N := mX4_rank) (Rc := rX4_rank) (As := [.int (xs (i + 1)), .int (xs (i + 2))]) (st := []) dL_law_980 (kX4_rank hl Mc4) sX4_rank mw_1223 mKX4 rfl Mc4.1 rfl (Nat.le_of_ble_eq_true rfl) ⟨⟨Nat.le_of_ble_eq_true rfl, Nat.le_of_ble_eq_true rfl⟩, (by simp only [rL_rank, rX4_rank, room_1]; omega), (by simp only [rL_rank, rX4_rank, room_1]; omega)⟩ (fun v5 h6 n7 c8 => ?_) (fun _ _ _ hx => hx.elim)
  obtain ⟨xc8, tc8, c8a, c8b, c8m, c8e⟩ := mOk.gs (S := S) (oim_sp_rank (S := S)) (c8.ok Mc4.2.1)
  have Mc8 : mAt h6 n7 (stOf S (sp_rank S (xs (i + 1)) (xs (i + 2)))) (tc8) := by rw [stOf_q qst_sp_rank]; rw [show (sp_rank S (xs (i + 1)) (xs (i + 2))).2.2 = S from qst_sp_rank] at c8m; exact c8m
  have Cc8 := cAt.fr2 Cc4 (fun j hj => c8e j (Or.inl hj))
  have Oc8 := (c8e 38 (Or.inr rfl)).trans c4d
  rw [c8a]
  show mT _ _ _ _ 983 [.retAddr 0, .ref 0, .ref 27, .ref 38, .int (nI i), .int (nI ((sp_rank S (xs (i + 1)) (xs (i + 2))).1)), .double 0] [.int xc8] _ _ _ _
  refine mp_istore dL_law_983 (ls' := [.retAddr 0, .ref 0, .ref 27, .ref 38, .int (nI i), .int (nI ((sp_rank S (xs (i + 1)) (xs (i + 2))).1)), .int xc8]) rfl (by decide) rfl ?_
  refine mt_goto dL_law_985 (tgt := 2003) rfl ?_
  refine mt_drop 5 (ls' := [.retAddr 0, .ref 0, .ref 27, .ref 38, .int (nI i), .double 0, .int xc8]) rfl ?_
  refine mt_drop 6 (ls' := [.retAddr 0, .ref 0, .ref 27, .ref 38, .int (nI i), .double 0, .double 0]) rfl ?_
  refine mt_widen (cc' := cc + 9000) (sc' := sc + 62000) (by simp only [rL_rank, rX4_rank]; omega) (by simp only [rL_rank, rX4_rank]; omega) ?_
  exact kk _ _ _ _ _ _ Cc8 Mc8 Oc8
theorem oim_mp_would {S : cS} {row : Int32} {place : Int32} : oI vI true true (mp_would S row place) := by
  unfold mp_would
  repeat' first | exact Or.inl ⟨rfl, _, rfl⟩ | exact Or.inr (Or.inr ⟨rfl, rfl⟩) | exact Or.inr (Or.inl ⟨rfl, rfl⟩) | refine dAt_o (fun r => ?_) | refine dArg_o (fun r => ?_) | refine dFit_o ?_ | refine dB_o (fun r => ?_) | refine dKeep_o (fun p t => ?_) | split
set_option maxRecDepth 100000 in
set_option maxHeartbeats 2000000 in
theorem tL_c18 {l : Launch} (hl : l.stackTraces = false) {L : Nat} {xs : Nat → Int32} : lawCase l L xs 988 := by
  intro i h n S th y s cc sc hi6 hL C M O hcc hsc kk
  have hS := lenOk_of C
  show mT _ _ _ _ 988 [.retAddr 0, .ref 0, .ref 27, .ref 38, .int (nI i), .double 0, .double 0] [] _ _ _ _
  refine mt_aload_n dL_law_988 rfl rfl ?_
  refine mt_aload_n dL_law_989 rfl rfl ?_
  refine mt_iload dL_law_990 rfl ?_
  refine mt_iconst dL_law_992 (v := nI 1) rfl ?_
  refine mp_iadd dL_law_993 (v := nI (i + 1)) (nI_add _ _) ?_
  refine mx_ld dL_law_994 rfl (j := i + 1) (by omega) (by omega) ?_
  refine mt_aload_n dL_law_995 rfl rfl ?_
  refine mt_iload dL_law_996 rfl ?_
  refine mt_iconst dL_law_998 (v := nI 2) rfl ?_
  refine mp_iadd dL_law_999 (v := nI (i + 2)) (nI_add _ _) ?_
  refine mx_ld dL_law_1000 rfl (j := i + 2) (by omega) (by omega) ?_
  refine mt_aload_n dL_law_1001 rfl rfl ?_
  refine mt_callSW (N := mL_would) (Rc := rL_would) (As := [.ref 0, .int (xs (i + 1)), .int (xs (i + 2)), .ref 38]) (st := []) dL_law_1002 (kL_would hl C O) sL_would mw_590 rfl (Nat.le_of_ble_eq_true rfl) ⟨⟨Nat.le_of_ble_eq_true rfl, Nat.le_of_ble_eq_true rfl⟩, (by simp only [rL_would, rX4_would, room_1]; omega), (by simp only [rL_would, rX4_would, room_1]; omega)⟩ (fun v1 h2 n3 c4 => ?_) (fun _ _ _ hx => hx.elim)
  obtain ⟨c4a, c4b, c4c, ⟨yc4, c4d, c4z⟩, c4e⟩ := c4
  rw [c4a, c4b]
  have Cc4 : cAt h2 (stOf S (sp_would S (xs (i + 1)) (xs (i + 2)))) := c4c
  have Mc4 := mAt.fr M (Nat.le_refl _) c4e
  show mT _ _ _ _ 1005 [.retAddr 0, .ref 0, .ref 27, .ref 38, .int (nI i), .double 0, .double 0] [.int (nI ((sp_would S (xs (i + 1)) (xs (i + 2))).1))] _ _ _ _
  refine mp_istore dL_law_1005 (ls' := [.retAddr 0, .ref 0, .ref 27, .ref 38, .int (nI i), .int (nI ((sp_would S (xs (i + 1)) (xs (i + 2))).1)), .double 0]) rfl (by decide) rfl ?_
  refine mt_aload_n dL_law_1007 rfl rfl ?_
  refine mt_aload_n dL_law_1008 rfl rfl ?_
  refine mt_iload dL_law_1009 rfl ?_
  refine mt_iconst dL_law_1011 (v := nI 1) rfl ?_
  refine mp_iadd dL_law_1012 (v := nI (i + 1)) (nI_add _ _) ?_
  refine mx_ld dL_law_1013 rfl (j := i + 1) (by omega) (by omega) ?_
  refine mt_aload_n dL_law_1014 rfl rfl ?_
  refine mt_iload dL_law_1015 rfl ?_
  refine mt_iconst dL_law_1017 (v := nI 2) rfl ?_
  refine mp_iadd dL_law_1018 (v := nI (i + 2)) (nI_add _ _) ?_
  refine mx_ld dL_law_1019 rfl (j := i + 2) (by omega) (by omega) ?_
  refine mt_callV (N := mX4_would) (Rc := rX4_would) (As := [.int (xs (i + 1)), .int (xs (i + 2))]) (st := []) dL_law_1020 (kX4_would hl Mc4) sX4_would mw_1227 mKX4 rfl Mc4.1 rfl (Nat.le_of_ble_eq_true rfl) ⟨⟨Nat.le_of_ble_eq_true rfl, Nat.le_of_ble_eq_true rfl⟩, (by simp only [rL_would, rX4_would, room_1]; omega), (by simp only [rL_would, rX4_would, room_1]; omega)⟩ (fun v5 h6 n7 c8 => ?_) (fun _ _ _ hx => hx.elim)
  obtain ⟨xc8, tc8, c8a, c8b, c8m, c8e⟩ := mOk.gs (S := S) (oim_mp_would (S := S)) (c8.ok Mc4.2.1)
  have Mc8 : mAt h6 n7 (stOf S (sp_would S (xs (i + 1)) (xs (i + 2)))) (tc8) := by rw [stOf_q qst_sp_would]; rw [show (mp_would S (xs (i + 1)) (xs (i + 2))).2.2 = S from qst_mp_would] at c8m; exact c8m
  have Cc8 := cAt.fr2 Cc4 (fun j hj => c8e j (Or.inl hj))
  have Oc8 := (c8e 38 (Or.inr rfl)).trans c4d
  rw [c8a]
  show mT _ _ _ _ 1023 [.retAddr 0, .ref 0, .ref 27, .ref 38, .int (nI i), .int (nI ((sp_would S (xs (i + 1)) (xs (i + 2))).1)), .double 0] [.int xc8] _ _ _ _
  refine mp_istore dL_law_1023 (ls' := [.retAddr 0, .ref 0, .ref 27, .ref 38, .int (nI i), .int (nI ((sp_would S (xs (i + 1)) (xs (i + 2))).1)), .int xc8]) rfl (by decide) rfl ?_
  refine mt_goto dL_law_1025 (tgt := 2003) rfl ?_
  refine mt_drop 5 (ls' := [.retAddr 0, .ref 0, .ref 27, .ref 38, .int (nI i), .double 0, .int xc8]) rfl ?_
  refine mt_drop 6 (ls' := [.retAddr 0, .ref 0, .ref 27, .ref 38, .int (nI i), .double 0, .double 0]) rfl ?_
  refine mt_widen (cc' := cc + 9000) (sc' := sc + 62000) (by simp only [rL_would, rX4_would]; omega) (by simp only [rL_would, rX4_would]; omega) ?_
  exact kk _ _ _ _ _ _ Cc8 Mc8 Oc8
theorem oim_mp_wouldStamp {S : cS} {row : Int32} {place : Int32} : oI vI true true (mp_wouldStamp S row place) := by
  unfold mp_wouldStamp
  repeat' first | exact Or.inl ⟨rfl, _, rfl⟩ | exact Or.inr (Or.inr ⟨rfl, rfl⟩) | exact Or.inr (Or.inl ⟨rfl, rfl⟩) | refine dAt_o (fun r => ?_) | refine dArg_o (fun r => ?_) | refine dFit_o ?_ | refine dB_o (fun r => ?_) | refine dKeep_o (fun p t => ?_) | split
set_option maxRecDepth 100000 in
set_option maxHeartbeats 2000000 in
theorem tL_c19 {l : Launch} (hl : l.stackTraces = false) {L : Nat} {xs : Nat → Int32} : lawCase l L xs 1028 := by
  intro i h n S th y s cc sc hi6 hL C M O hcc hsc kk
  have hS := lenOk_of C
  show mT _ _ _ _ 1028 [.retAddr 0, .ref 0, .ref 27, .ref 38, .int (nI i), .double 0, .double 0] [] _ _ _ _
  refine mt_aload_n dL_law_1028 rfl rfl ?_
  refine mt_aload_n dL_law_1029 rfl rfl ?_
  refine mt_iload dL_law_1030 rfl ?_
  refine mt_iconst dL_law_1032 (v := nI 1) rfl ?_
  refine mp_iadd dL_law_1033 (v := nI (i + 1)) (nI_add _ _) ?_
  refine mx_ld dL_law_1034 rfl (j := i + 1) (by omega) (by omega) ?_
  refine mt_aload_n dL_law_1035 rfl rfl ?_
  refine mt_iload dL_law_1036 rfl ?_
  refine mt_iconst dL_law_1038 (v := nI 2) rfl ?_
  refine mp_iadd dL_law_1039 (v := nI (i + 2)) (nI_add _ _) ?_
  refine mx_ld dL_law_1040 rfl (j := i + 2) (by omega) (by omega) ?_
  refine mt_aload_n dL_law_1041 rfl rfl ?_
  refine mt_callSW (N := mL_wouldStamp) (Rc := rL_wouldStamp) (As := [.ref 0, .int (xs (i + 1)), .int (xs (i + 2)), .ref 38]) (st := []) dL_law_1042 (kL_wouldStamp hl C O) sL_wouldStamp mw_597 rfl (Nat.le_of_ble_eq_true rfl) ⟨⟨Nat.le_of_ble_eq_true rfl, Nat.le_of_ble_eq_true rfl⟩, (by simp only [rL_wouldStamp, rX4_wouldStamp, room_1]; omega), (by simp only [rL_wouldStamp, rX4_wouldStamp, room_1]; omega)⟩ (fun v1 h2 n3 c4 => ?_) (fun _ _ _ hx => hx.elim)
  obtain ⟨c4a, c4b, c4c, ⟨yc4, c4d, c4z⟩, c4e⟩ := c4
  rw [c4a, c4b]
  have Cc4 : cAt h2 (stOf S (sp_wouldStamp S (xs (i + 1)) (xs (i + 2)))) := c4c
  have Mc4 := mAt.fr M (Nat.le_refl _) c4e
  show mT _ _ _ _ 1045 [.retAddr 0, .ref 0, .ref 27, .ref 38, .int (nI i), .double 0, .double 0] [.int (nI ((sp_wouldStamp S (xs (i + 1)) (xs (i + 2))).1))] _ _ _ _
  refine mp_istore dL_law_1045 (ls' := [.retAddr 0, .ref 0, .ref 27, .ref 38, .int (nI i), .int (nI ((sp_wouldStamp S (xs (i + 1)) (xs (i + 2))).1)), .double 0]) rfl (by decide) rfl ?_
  refine mt_aload_n dL_law_1047 rfl rfl ?_
  refine mt_aload_n dL_law_1048 rfl rfl ?_
  refine mt_iload dL_law_1049 rfl ?_
  refine mt_iconst dL_law_1051 (v := nI 1) rfl ?_
  refine mp_iadd dL_law_1052 (v := nI (i + 1)) (nI_add _ _) ?_
  refine mx_ld dL_law_1053 rfl (j := i + 1) (by omega) (by omega) ?_
  refine mt_aload_n dL_law_1054 rfl rfl ?_
  refine mt_iload dL_law_1055 rfl ?_
  refine mt_iconst dL_law_1057 (v := nI 2) rfl ?_
  refine mp_iadd dL_law_1058 (v := nI (i + 2)) (nI_add _ _) ?_
  refine mx_ld dL_law_1059 rfl (j := i + 2) (by omega) (by omega) ?_
  refine mt_callV (N := mX4_wouldStamp) (Rc := rX4_wouldStamp) (As := [.int (xs (i + 1)), .int (xs (i + 2))]) (st := []) dL_law_1060 (kX4_wouldStamp hl Mc4) sX4_wouldStamp mw_1231 mKX4 rfl Mc4.1 rfl (Nat.le_of_ble_eq_true rfl) ⟨⟨Nat.le_of_ble_eq_true rfl, Nat.le_of_ble_eq_true rfl⟩, (by simp only [rL_wouldStamp, rX4_wouldStamp, room_1]; omega), (by simp only [rL_wouldStamp, rX4_wouldStamp, room_1]; omega)⟩ (fun v5 h6 n7 c8 => ?_) (fun _ _ _ hx => hx.elim)
  obtain ⟨xc8, tc8, c8a, c8b, c8m, c8e⟩ := mOk.gs (S := S) (oim_mp_wouldStamp (S := S)) (c8.ok Mc4.2.1)
  have Mc8 : mAt h6 n7 (stOf S (sp_wouldStamp S (xs (i + 1)) (xs (i + 2)))) (tc8) := by rw [stOf_q qst_sp_wouldStamp]; rw [show (mp_wouldStamp S (xs (i + 1)) (xs (i + 2))).2.2 = S from qst_mp_wouldStamp] at c8m; exact c8m
  have Cc8 := cAt.fr2 Cc4 (fun j hj => c8e j (Or.inl hj))
  have Oc8 := (c8e 38 (Or.inr rfl)).trans c4d
  rw [c8a]
  show mT _ _ _ _ 1063 [.retAddr 0, .ref 0, .ref 27, .ref 38, .int (nI i), .int (nI ((sp_wouldStamp S (xs (i + 1)) (xs (i + 2))).1)), .double 0] [.int xc8] _ _ _ _
  refine mp_istore dL_law_1063 (ls' := [.retAddr 0, .ref 0, .ref 27, .ref 38, .int (nI i), .int (nI ((sp_wouldStamp S (xs (i + 1)) (xs (i + 2))).1)), .int xc8]) rfl (by decide) rfl ?_
  refine mt_goto dL_law_1065 (tgt := 2003) rfl ?_
  refine mt_drop 5 (ls' := [.retAddr 0, .ref 0, .ref 27, .ref 38, .int (nI i), .double 0, .int xc8]) rfl ?_
  refine mt_drop 6 (ls' := [.retAddr 0, .ref 0, .ref 27, .ref 38, .int (nI i), .double 0, .double 0]) rfl ?_
  refine mt_widen (cc' := cc + 9000) (sc' := sc + 62000) (by simp only [rL_wouldStamp, rX4_wouldStamp]; omega) (by simp only [rL_wouldStamp, rX4_wouldStamp]; omega) ?_
  exact kk _ _ _ _ _ _ Cc8 Mc8 Oc8
theorem oim_mp_wrongAt {S : cS} {row : Int32} {place : Int32} : oI vI true true (mp_wrongAt S row place) := by
  unfold mp_wrongAt
  repeat' first | exact Or.inl ⟨rfl, _, rfl⟩ | exact Or.inr (Or.inr ⟨rfl, rfl⟩) | exact Or.inr (Or.inl ⟨rfl, rfl⟩) | refine dAt_o (fun r => ?_) | refine dArg_o (fun r => ?_) | refine dFit_o ?_ | refine dB_o (fun r => ?_) | refine dKeep_o (fun p t => ?_) | split
set_option maxRecDepth 100000 in
set_option maxHeartbeats 2000000 in
theorem tL_c20 {l : Launch} (hl : l.stackTraces = false) {L : Nat} {xs : Nat → Int32} : lawCase l L xs 1068 := by
  intro i h n S th y s cc sc hi6 hL C M O hcc hsc kk
  have hS := lenOk_of C
  show mT _ _ _ _ 1068 [.retAddr 0, .ref 0, .ref 27, .ref 38, .int (nI i), .double 0, .double 0] [] _ _ _ _
  refine mt_aload_n dL_law_1068 rfl rfl ?_
  refine mt_aload_n dL_law_1069 rfl rfl ?_
  refine mt_iload dL_law_1070 rfl ?_
  refine mt_iconst dL_law_1072 (v := nI 1) rfl ?_
  refine mp_iadd dL_law_1073 (v := nI (i + 1)) (nI_add _ _) ?_
  refine mx_ld dL_law_1074 rfl (j := i + 1) (by omega) (by omega) ?_
  refine mt_aload_n dL_law_1075 rfl rfl ?_
  refine mt_iload dL_law_1076 rfl ?_
  refine mt_iconst dL_law_1078 (v := nI 2) rfl ?_
  refine mp_iadd dL_law_1079 (v := nI (i + 2)) (nI_add _ _) ?_
  refine mx_ld dL_law_1080 rfl (j := i + 2) (by omega) (by omega) ?_
  refine mt_aload_n dL_law_1081 rfl rfl ?_
  refine mt_callSW (N := mL_wrongAt) (Rc := rL_wrongAt) (As := [.ref 0, .int (xs (i + 1)), .int (xs (i + 2)), .ref 38]) (st := []) dL_law_1082 (kL_wrongAt hl C O) sL_wrongAt mw_604 rfl (Nat.le_of_ble_eq_true rfl) ⟨⟨Nat.le_of_ble_eq_true rfl, Nat.le_of_ble_eq_true rfl⟩, (by simp only [rL_wrongAt, rX4_wrongAt, room_1]; omega), (by simp only [rL_wrongAt, rX4_wrongAt, room_1]; omega)⟩ (fun v1 h2 n3 c4 => ?_) (fun _ _ _ hx => hx.elim)
  obtain ⟨c4a, c4b, c4c, ⟨yc4, c4d, c4z⟩, c4e⟩ := c4
  rw [c4a, c4b]
  have Cc4 : cAt h2 (stOf S (sp_wrongAt S (xs (i + 1)) (xs (i + 2)))) := c4c
  have Mc4 := mAt.fr M (Nat.le_refl _) c4e
  show mT _ _ _ _ 1085 [.retAddr 0, .ref 0, .ref 27, .ref 38, .int (nI i), .double 0, .double 0] [.int (nI ((sp_wrongAt S (xs (i + 1)) (xs (i + 2))).1))] _ _ _ _
  refine mp_istore dL_law_1085 (ls' := [.retAddr 0, .ref 0, .ref 27, .ref 38, .int (nI i), .int (nI ((sp_wrongAt S (xs (i + 1)) (xs (i + 2))).1)), .double 0]) rfl (by decide) rfl ?_
  refine mt_aload_n dL_law_1087 rfl rfl ?_
  refine mt_aload_n dL_law_1088 rfl rfl ?_
  refine mt_iload dL_law_1089 rfl ?_
  refine mt_iconst dL_law_1091 (v := nI 1) rfl ?_
  refine mp_iadd dL_law_1092 (v := nI (i + 1)) (nI_add _ _) ?_
  refine mx_ld dL_law_1093 rfl (j := i + 1) (by omega) (by omega) ?_
  refine mt_aload_n dL_law_1094 rfl rfl ?_
  refine mt_iload dL_law_1095 rfl ?_
  refine mt_iconst dL_law_1097 (v := nI 2) rfl ?_
  refine mp_iadd dL_law_1098 (v := nI (i + 2)) (nI_add _ _) ?_
  refine mx_ld dL_law_1099 rfl (j := i + 2) (by omega) (by omega) ?_
  refine mt_callV (N := mX4_wrongAt) (Rc := rX4_wrongAt) (As := [.int (xs (i + 1)), .int (xs (i + 2))]) (st := []) dL_law_1100 (kX4_wrongAt hl Mc4) sX4_wrongAt mw_1235 mKX4 rfl Mc4.1 rfl (Nat.le_of_ble_eq_true rfl) ⟨⟨Nat.le_of_ble_eq_true rfl, Nat.le_of_ble_eq_true rfl⟩, (by simp only [rL_wrongAt, rX4_wrongAt, room_1]; omega), (by simp only [rL_wrongAt, rX4_wrongAt, room_1]; omega)⟩ (fun v5 h6 n7 c8 => ?_) (fun _ _ _ hx => hx.elim)
  obtain ⟨xc8, tc8, c8a, c8b, c8m, c8e⟩ := mOk.gs (S := S) (oim_mp_wrongAt (S := S)) (c8.ok Mc4.2.1)
  have Mc8 : mAt h6 n7 (stOf S (sp_wrongAt S (xs (i + 1)) (xs (i + 2)))) (tc8) := by rw [stOf_q qst_sp_wrongAt]; rw [show (mp_wrongAt S (xs (i + 1)) (xs (i + 2))).2.2 = S from qst_mp_wrongAt] at c8m; exact c8m
  have Cc8 := cAt.fr2 Cc4 (fun j hj => c8e j (Or.inl hj))
  have Oc8 := (c8e 38 (Or.inr rfl)).trans c4d
  rw [c8a]
  show mT _ _ _ _ 1103 [.retAddr 0, .ref 0, .ref 27, .ref 38, .int (nI i), .int (nI ((sp_wrongAt S (xs (i + 1)) (xs (i + 2))).1)), .double 0] [.int xc8] _ _ _ _
  refine mp_istore dL_law_1103 (ls' := [.retAddr 0, .ref 0, .ref 27, .ref 38, .int (nI i), .int (nI ((sp_wrongAt S (xs (i + 1)) (xs (i + 2))).1)), .int xc8]) rfl (by decide) rfl ?_
  refine mt_goto dL_law_1105 (tgt := 2003) rfl ?_
  refine mt_drop 5 (ls' := [.retAddr 0, .ref 0, .ref 27, .ref 38, .int (nI i), .double 0, .int xc8]) rfl ?_
  refine mt_drop 6 (ls' := [.retAddr 0, .ref 0, .ref 27, .ref 38, .int (nI i), .double 0, .double 0]) rfl ?_
  refine mt_widen (cc' := cc + 9000) (sc' := sc + 62000) (by simp only [rL_wrongAt, rX4_wrongAt]; omega) (by simp only [rL_wrongAt, rX4_wrongAt]; omega) ?_
  exact kk _ _ _ _ _ _ Cc8 Mc8 Oc8
theorem oim_mp_after {S : cS} {row : Int32} {place : Int32} : oI vI true true (mp_after S row place) := by
  unfold mp_after
  repeat' first | exact Or.inl ⟨rfl, _, rfl⟩ | exact Or.inr (Or.inr ⟨rfl, rfl⟩) | exact Or.inr (Or.inl ⟨rfl, rfl⟩) | refine dAt_o (fun r => ?_) | refine dArg_o (fun r => ?_) | refine dFit_o ?_ | refine dB_o (fun r => ?_) | refine dKeep_o (fun p t => ?_) | split
set_option maxRecDepth 100000 in
set_option maxHeartbeats 2000000 in
theorem tL_c21 {l : Launch} (hl : l.stackTraces = false) {L : Nat} {xs : Nat → Int32} : lawCase l L xs 1108 := by
  intro i h n S th y s cc sc hi6 hL C M O hcc hsc kk
  have hS := lenOk_of C
  show mT _ _ _ _ 1108 [.retAddr 0, .ref 0, .ref 27, .ref 38, .int (nI i), .double 0, .double 0] [] _ _ _ _
  refine mt_aload_n dL_law_1108 rfl rfl ?_
  refine mt_aload_n dL_law_1109 rfl rfl ?_
  refine mt_iload dL_law_1110 rfl ?_
  refine mt_iconst dL_law_1112 (v := nI 1) rfl ?_
  refine mp_iadd dL_law_1113 (v := nI (i + 1)) (nI_add _ _) ?_
  refine mx_ld dL_law_1114 rfl (j := i + 1) (by omega) (by omega) ?_
  refine mt_aload_n dL_law_1115 rfl rfl ?_
  refine mt_iload dL_law_1116 rfl ?_
  refine mt_iconst dL_law_1118 (v := nI 2) rfl ?_
  refine mp_iadd dL_law_1119 (v := nI (i + 2)) (nI_add _ _) ?_
  refine mx_ld dL_law_1120 rfl (j := i + 2) (by omega) (by omega) ?_
  refine mt_aload_n dL_law_1121 rfl rfl ?_
  refine mt_callSW (N := mL_after) (Rc := rL_after) (As := [.ref 0, .int (xs (i + 1)), .int (xs (i + 2)), .ref 38]) (st := []) dL_law_1122 (kL_after hl C O) sL_after mw_615 rfl (Nat.le_of_ble_eq_true rfl) ⟨⟨Nat.le_of_ble_eq_true rfl, Nat.le_of_ble_eq_true rfl⟩, (by simp only [rL_after, rX4_after, room_1]; omega), (by simp only [rL_after, rX4_after, room_1]; omega)⟩ (fun v1 h2 n3 c4 => ?_) (fun _ _ _ hx => hx.elim)
  obtain ⟨c4a, c4b, c4c, ⟨yc4, c4d, c4z⟩, c4e⟩ := c4
  rw [c4a, c4b]
  have Cc4 : cAt h2 (stOf S (sp_after S (xs (i + 1)) (xs (i + 2)))) := c4c
  have Mc4 := mAt.fr M (Nat.le_refl _) c4e
  show mT _ _ _ _ 1125 [.retAddr 0, .ref 0, .ref 27, .ref 38, .int (nI i), .double 0, .double 0] [.int (nI ((sp_after S (xs (i + 1)) (xs (i + 2))).1))] _ _ _ _
  refine mp_istore dL_law_1125 (ls' := [.retAddr 0, .ref 0, .ref 27, .ref 38, .int (nI i), .int (nI ((sp_after S (xs (i + 1)) (xs (i + 2))).1)), .double 0]) rfl (by decide) rfl ?_
  refine mt_aload_n dL_law_1127 rfl rfl ?_
  refine mt_aload_n dL_law_1128 rfl rfl ?_
  refine mt_iload dL_law_1129 rfl ?_
  refine mt_iconst dL_law_1131 (v := nI 1) rfl ?_
  refine mp_iadd dL_law_1132 (v := nI (i + 1)) (nI_add _ _) ?_
  refine mx_ld dL_law_1133 rfl (j := i + 1) (by omega) (by omega) ?_
  refine mt_aload_n dL_law_1134 rfl rfl ?_
  refine mt_iload dL_law_1135 rfl ?_
  refine mt_iconst dL_law_1137 (v := nI 2) rfl ?_
  refine mp_iadd dL_law_1138 (v := nI (i + 2)) (nI_add _ _) ?_
  refine mx_ld dL_law_1139 rfl (j := i + 2) (by omega) (by omega) ?_
  refine mt_callV (N := mX4_after) (Rc := rX4_after) (As := [.int (xs (i + 1)), .int (xs (i + 2))]) (st := []) dL_law_1140 (kX4_after hl Mc4) sX4_after mw_1239 mKX4 rfl Mc4.1 rfl (Nat.le_of_ble_eq_true rfl) ⟨⟨Nat.le_of_ble_eq_true rfl, Nat.le_of_ble_eq_true rfl⟩, (by simp only [rL_after, rX4_after, room_1]; omega), (by simp only [rL_after, rX4_after, room_1]; omega)⟩ (fun v5 h6 n7 c8 => ?_) (fun _ _ _ hx => hx.elim)
  obtain ⟨xc8, tc8, c8a, c8b, c8m, c8e⟩ := mOk.gs (S := S) (oim_mp_after (S := S)) (c8.ok Mc4.2.1)
  have Mc8 : mAt h6 n7 (stOf S (sp_after S (xs (i + 1)) (xs (i + 2)))) (tc8) := by rw [stOf_q qst_sp_after]; rw [show (mp_after S (xs (i + 1)) (xs (i + 2))).2.2 = S from qst_mp_after] at c8m; exact c8m
  have Cc8 := cAt.fr2 Cc4 (fun j hj => c8e j (Or.inl hj))
  have Oc8 := (c8e 38 (Or.inr rfl)).trans c4d
  rw [c8a]
  show mT _ _ _ _ 1143 [.retAddr 0, .ref 0, .ref 27, .ref 38, .int (nI i), .int (nI ((sp_after S (xs (i + 1)) (xs (i + 2))).1)), .double 0] [.int xc8] _ _ _ _
  refine mp_istore dL_law_1143 (ls' := [.retAddr 0, .ref 0, .ref 27, .ref 38, .int (nI i), .int (nI ((sp_after S (xs (i + 1)) (xs (i + 2))).1)), .int xc8]) rfl (by decide) rfl ?_
  refine mt_goto dL_law_1145 (tgt := 2003) rfl ?_
  refine mt_drop 5 (ls' := [.retAddr 0, .ref 0, .ref 27, .ref 38, .int (nI i), .double 0, .int xc8]) rfl ?_
  refine mt_drop 6 (ls' := [.retAddr 0, .ref 0, .ref 27, .ref 38, .int (nI i), .double 0, .double 0]) rfl ?_
  refine mt_widen (cc' := cc + 9000) (sc' := sc + 62000) (by simp only [rL_after, rX4_after]; omega) (by simp only [rL_after, rX4_after]; omega) ?_
  exact kk _ _ _ _ _ _ Cc8 Mc8 Oc8
theorem oim_sp_runAt {S : cS} {row : Int32} {place : Int32} : oI vI true true (sp_runAt S row place) := by
  unfold sp_runAt
  repeat' first | exact Or.inl ⟨rfl, _, rfl⟩ | exact Or.inr (Or.inr ⟨rfl, rfl⟩) | exact Or.inr (Or.inl ⟨rfl, rfl⟩) | refine dAt_o (fun r => ?_) | refine dArg_o (fun r => ?_) | refine dFit_o ?_ | refine dB_o (fun r => ?_) | refine dKeep_o (fun p t => ?_) | split
set_option maxRecDepth 100000 in
set_option maxHeartbeats 2000000 in
theorem tL_c22 {l : Launch} (hl : l.stackTraces = false) {L : Nat} {xs : Nat → Int32} : lawCase l L xs 1148 := by
  intro i h n S th y s cc sc hi6 hL C M O hcc hsc kk
  have hS := lenOk_of C
  show mT _ _ _ _ 1148 [.retAddr 0, .ref 0, .ref 27, .ref 38, .int (nI i), .double 0, .double 0] [] _ _ _ _
  refine mt_aload_n dL_law_1148 rfl rfl ?_
  refine mt_aload_n dL_law_1149 rfl rfl ?_
  refine mt_iload dL_law_1150 rfl ?_
  refine mt_iconst dL_law_1152 (v := nI 1) rfl ?_
  refine mp_iadd dL_law_1153 (v := nI (i + 1)) (nI_add _ _) ?_
  refine mx_ld dL_law_1154 rfl (j := i + 1) (by omega) (by omega) ?_
  refine mt_aload_n dL_law_1155 rfl rfl ?_
  refine mt_iload dL_law_1156 rfl ?_
  refine mt_iconst dL_law_1158 (v := nI 2) rfl ?_
  refine mp_iadd dL_law_1159 (v := nI (i + 2)) (nI_add _ _) ?_
  refine mx_ld dL_law_1160 rfl (j := i + 2) (by omega) (by omega) ?_
  refine mt_aload_n dL_law_1161 rfl rfl ?_
  refine mt_callSW (N := mL_runAt) (Rc := rL_runAt) (As := [.ref 0, .int (xs (i + 1)), .int (xs (i + 2)), .ref 38]) (st := []) dL_law_1162 (kL_runAt hl C O) sL_runAt mw_622 rfl (Nat.le_of_ble_eq_true rfl) ⟨⟨Nat.le_of_ble_eq_true rfl, Nat.le_of_ble_eq_true rfl⟩, (by simp only [rL_runAt, rX4_runAt, room_1]; omega), (by simp only [rL_runAt, rX4_runAt, room_1]; omega)⟩ (fun v1 h2 n3 c4 => ?_) (fun _ _ _ hx => hx.elim)
  obtain ⟨c4a, c4b, c4c, ⟨yc4, c4d, c4z⟩, c4e⟩ := c4
  rw [c4a, c4b]
  have Cc4 : cAt h2 (stOf S (sp_runAt S (xs (i + 1)) (xs (i + 2)))) := c4c
  have Mc4 := mAt.fr M (Nat.le_refl _) c4e
  show mT _ _ _ _ 1165 [.retAddr 0, .ref 0, .ref 27, .ref 38, .int (nI i), .double 0, .double 0] [.int (nI ((sp_runAt S (xs (i + 1)) (xs (i + 2))).1))] _ _ _ _
  refine mp_istore dL_law_1165 (ls' := [.retAddr 0, .ref 0, .ref 27, .ref 38, .int (nI i), .int (nI ((sp_runAt S (xs (i + 1)) (xs (i + 2))).1)), .double 0]) rfl (by decide) rfl ?_
  refine mt_aload_n dL_law_1167 rfl rfl ?_
  refine mt_aload_n dL_law_1168 rfl rfl ?_
  refine mt_iload dL_law_1169 rfl ?_
  refine mt_iconst dL_law_1171 (v := nI 1) rfl ?_
  refine mp_iadd dL_law_1172 (v := nI (i + 1)) (nI_add _ _) ?_
  refine mx_ld dL_law_1173 rfl (j := i + 1) (by omega) (by omega) ?_
  refine mt_aload_n dL_law_1174 rfl rfl ?_
  refine mt_iload dL_law_1175 rfl ?_
  refine mt_iconst dL_law_1177 (v := nI 2) rfl ?_
  refine mp_iadd dL_law_1178 (v := nI (i + 2)) (nI_add _ _) ?_
  refine mx_ld dL_law_1179 rfl (j := i + 2) (by omega) (by omega) ?_
  refine mt_callV (N := mX4_runAt) (Rc := rX4_runAt) (As := [.int (xs (i + 1)), .int (xs (i + 2))]) (st := []) dL_law_1180 (kX4_runAt hl Mc4) sX4_runAt mw_1243 mKX4 rfl Mc4.1 rfl (Nat.le_of_ble_eq_true rfl) ⟨⟨Nat.le_of_ble_eq_true rfl, Nat.le_of_ble_eq_true rfl⟩, (by simp only [rL_runAt, rX4_runAt, room_1]; omega), (by simp only [rL_runAt, rX4_runAt, room_1]; omega)⟩ (fun v5 h6 n7 c8 => ?_) (fun _ _ _ hx => hx.elim)
  obtain ⟨xc8, tc8, c8a, c8b, c8m, c8e⟩ := mOk.gs (S := S) (oim_sp_runAt (S := S)) (c8.ok Mc4.2.1)
  have Mc8 : mAt h6 n7 (stOf S (sp_runAt S (xs (i + 1)) (xs (i + 2)))) (tc8) := by rw [stOf_q qst_sp_runAt]; rw [show (sp_runAt S (xs (i + 1)) (xs (i + 2))).2.2 = S from qst_sp_runAt] at c8m; exact c8m
  have Cc8 := cAt.fr2 Cc4 (fun j hj => c8e j (Or.inl hj))
  have Oc8 := (c8e 38 (Or.inr rfl)).trans c4d
  rw [c8a]
  show mT _ _ _ _ 1183 [.retAddr 0, .ref 0, .ref 27, .ref 38, .int (nI i), .int (nI ((sp_runAt S (xs (i + 1)) (xs (i + 2))).1)), .double 0] [.int xc8] _ _ _ _
  refine mp_istore dL_law_1183 (ls' := [.retAddr 0, .ref 0, .ref 27, .ref 38, .int (nI i), .int (nI ((sp_runAt S (xs (i + 1)) (xs (i + 2))).1)), .int xc8]) rfl (by decide) rfl ?_
  refine mt_goto dL_law_1185 (tgt := 2003) rfl ?_
  refine mt_drop 5 (ls' := [.retAddr 0, .ref 0, .ref 27, .ref 38, .int (nI i), .double 0, .int xc8]) rfl ?_
  refine mt_drop 6 (ls' := [.retAddr 0, .ref 0, .ref 27, .ref 38, .int (nI i), .double 0, .double 0]) rfl ?_
  refine mt_widen (cc' := cc + 9000) (sc' := sc + 62000) (by simp only [rL_runAt, rX4_runAt]; omega) (by simp only [rL_runAt, rX4_runAt]; omega) ?_
  exact kk _ _ _ _ _ _ Cc8 Mc8 Oc8
theorem oim_mp_isSorted {S : cS} {row : Int32} : oI vI true true (mp_isSorted S row) := by
  unfold mp_isSorted
  repeat' first | exact Or.inl ⟨rfl, _, rfl⟩ | exact Or.inr (Or.inr ⟨rfl, rfl⟩) | exact Or.inr (Or.inl ⟨rfl, rfl⟩) | refine dAt_o (fun r => ?_) | refine dArg_o (fun r => ?_) | refine dFit_o ?_ | refine dB_o (fun r => ?_) | refine dKeep_o (fun p t => ?_) | split
set_option maxRecDepth 100000 in
set_option maxHeartbeats 2000000 in
theorem tL_c24 {l : Launch} (hl : l.stackTraces = false) {L : Nat} {xs : Nat → Int32} : lawCase l L xs 1240 := by
  intro i h n S th y s cc sc hi6 hL C M O hcc hsc kk
  have hS := lenOk_of C
  show mT _ _ _ _ 1240 [.retAddr 0, .ref 0, .ref 27, .ref 38, .int (nI i), .double 0, .double 0] [] _ _ _ _
  refine mt_aload_n dL_law_1240 rfl rfl ?_
  refine mt_aload_n dL_law_1241 rfl rfl ?_
  refine mt_iload dL_law_1242 rfl ?_
  refine mt_iconst dL_law_1244 (v := nI 1) rfl ?_
  refine mp_iadd dL_law_1245 (v := nI (i + 1)) (nI_add _ _) ?_
  refine mx_ld dL_law_1246 rfl (j := i + 1) (by omega) (by omega) ?_
  refine mt_aload_n dL_law_1247 rfl rfl ?_
  refine mt_callSW (N := mL_isSorted) (Rc := rL_isSorted) (As := [.ref 0, .int (xs (i + 1)), .ref 38]) (st := []) dL_law_1248 (kL_isSorted hl C O) sL_isSorted mw_899 rfl (Nat.le_of_ble_eq_true rfl) ⟨⟨Nat.le_of_ble_eq_true rfl, Nat.le_of_ble_eq_true rfl⟩, (by simp only [rL_isSorted, rX4_isSorted, room_1]; omega), (by simp only [rL_isSorted, rX4_isSorted, room_1]; omega)⟩ (fun v1 h2 n3 c4 => ?_) (fun _ _ _ hx => hx.elim)
  obtain ⟨c4a, c4b, c4c, ⟨yc4, c4d, c4z⟩, c4e⟩ := c4
  rw [c4a, c4b]
  have Cc4 : cAt h2 (stOf S (sp_isSorted S (xs (i + 1)))) := c4c
  have Mc4 := mAt.fr M (Nat.le_refl _) c4e
  show mT _ _ _ _ 1251 [.retAddr 0, .ref 0, .ref 27, .ref 38, .int (nI i), .double 0, .double 0] [.int (nI ((sp_isSorted S (xs (i + 1))).1))] _ _ _ _
  refine mp_istore dL_law_1251 (ls' := [.retAddr 0, .ref 0, .ref 27, .ref 38, .int (nI i), .int (nI ((sp_isSorted S (xs (i + 1))).1)), .double 0]) rfl (by decide) rfl ?_
  refine mt_aload_n dL_law_1253 rfl rfl ?_
  refine mt_aload_n dL_law_1254 rfl rfl ?_
  refine mt_iload dL_law_1255 rfl ?_
  refine mt_iconst dL_law_1257 (v := nI 1) rfl ?_
  refine mp_iadd dL_law_1258 (v := nI (i + 1)) (nI_add _ _) ?_
  refine mx_ld dL_law_1259 rfl (j := i + 1) (by omega) (by omega) ?_
  refine mt_callV (N := mX4_isSorted) (Rc := rX4_isSorted) (As := [.int (xs (i + 1))]) (st := []) dL_law_1260 (kX4_isSorted hl Mc4) sX4_isSorted mw_1262 mKX4 rfl Mc4.1 rfl (Nat.le_of_ble_eq_true rfl) ⟨⟨Nat.le_of_ble_eq_true rfl, Nat.le_of_ble_eq_true rfl⟩, (by simp only [rL_isSorted, rX4_isSorted, room_1]; omega), (by simp only [rL_isSorted, rX4_isSorted, room_1]; omega)⟩ (fun v5 h6 n7 c8 => ?_) (fun _ _ _ hx => hx.elim)
  obtain ⟨xc8, tc8, c8a, c8b, c8m, c8e⟩ := mOk.gs (S := S) (oim_mp_isSorted (S := S)) (c8.ok Mc4.2.1)
  have Mc8 : mAt h6 n7 (stOf S (sp_isSorted S (xs (i + 1)))) (tc8) := by rw [stOf_q qst_sp_isSorted]; rw [show (mp_isSorted S (xs (i + 1))).2.2 = S from qst_mp_isSorted] at c8m; exact c8m
  have Cc8 := cAt.fr2 Cc4 (fun j hj => c8e j (Or.inl hj))
  have Oc8 := (c8e 38 (Or.inr rfl)).trans c4d
  rw [c8a]
  show mT _ _ _ _ 1263 [.retAddr 0, .ref 0, .ref 27, .ref 38, .int (nI i), .int (nI ((sp_isSorted S (xs (i + 1))).1)), .double 0] [.int xc8] _ _ _ _
  refine mp_istore dL_law_1263 (ls' := [.retAddr 0, .ref 0, .ref 27, .ref 38, .int (nI i), .int (nI ((sp_isSorted S (xs (i + 1))).1)), .int xc8]) rfl (by decide) rfl ?_
  refine mt_goto dL_law_1265 (tgt := 2003) rfl ?_
  refine mt_drop 5 (ls' := [.retAddr 0, .ref 0, .ref 27, .ref 38, .int (nI i), .double 0, .int xc8]) rfl ?_
  refine mt_drop 6 (ls' := [.retAddr 0, .ref 0, .ref 27, .ref 38, .int (nI i), .double 0, .double 0]) rfl ?_
  refine mt_widen (cc' := cc + 9000) (sc' := sc + 62000) (by simp only [rL_isSorted, rX4_isSorted]; omega) (by simp only [rL_isSorted, rX4_isSorted]; omega) ?_
  exact kk _ _ _ _ _ _ Cc8 Mc8 Oc8
theorem oim_mp_isFalling {S : cS} {row : Int32} : oI vI true true (mp_isFalling S row) := by
  unfold mp_isFalling
  repeat' first | exact Or.inl ⟨rfl, _, rfl⟩ | exact Or.inr (Or.inr ⟨rfl, rfl⟩) | exact Or.inr (Or.inl ⟨rfl, rfl⟩) | refine dAt_o (fun r => ?_) | refine dArg_o (fun r => ?_) | refine dFit_o ?_ | refine dB_o (fun r => ?_) | refine dKeep_o (fun p t => ?_) | split
set_option maxRecDepth 100000 in
set_option maxHeartbeats 2000000 in
theorem tL_c25 {l : Launch} (hl : l.stackTraces = false) {L : Nat} {xs : Nat → Int32} : lawCase l L xs 1268 := by
  intro i h n S th y s cc sc hi6 hL C M O hcc hsc kk
  have hS := lenOk_of C
  show mT _ _ _ _ 1268 [.retAddr 0, .ref 0, .ref 27, .ref 38, .int (nI i), .double 0, .double 0] [] _ _ _ _
  refine mt_aload_n dL_law_1268 rfl rfl ?_
  refine mt_aload_n dL_law_1269 rfl rfl ?_
  refine mt_iload dL_law_1270 rfl ?_
  refine mt_iconst dL_law_1272 (v := nI 1) rfl ?_
  refine mp_iadd dL_law_1273 (v := nI (i + 1)) (nI_add _ _) ?_
  refine mx_ld dL_law_1274 rfl (j := i + 1) (by omega) (by omega) ?_
  refine mt_aload_n dL_law_1275 rfl rfl ?_
  refine mt_callSW (N := mL_isFalling) (Rc := rL_isFalling) (As := [.ref 0, .int (xs (i + 1)), .ref 38]) (st := []) dL_law_1276 (kL_isFalling hl C O) sL_isFalling mw_906 rfl (Nat.le_of_ble_eq_true rfl) ⟨⟨Nat.le_of_ble_eq_true rfl, Nat.le_of_ble_eq_true rfl⟩, (by simp only [rL_isFalling, rX4_isFalling, room_1]; omega), (by simp only [rL_isFalling, rX4_isFalling, room_1]; omega)⟩ (fun v1 h2 n3 c4 => ?_) (fun _ _ _ hx => hx.elim)
  obtain ⟨c4a, c4b, c4c, ⟨yc4, c4d, c4z⟩, c4e⟩ := c4
  rw [c4a, c4b]
  have Cc4 : cAt h2 (stOf S (sp_isFalling S (xs (i + 1)))) := c4c
  have Mc4 := mAt.fr M (Nat.le_refl _) c4e
  show mT _ _ _ _ 1279 [.retAddr 0, .ref 0, .ref 27, .ref 38, .int (nI i), .double 0, .double 0] [.int (nI ((sp_isFalling S (xs (i + 1))).1))] _ _ _ _
  refine mp_istore dL_law_1279 (ls' := [.retAddr 0, .ref 0, .ref 27, .ref 38, .int (nI i), .int (nI ((sp_isFalling S (xs (i + 1))).1)), .double 0]) rfl (by decide) rfl ?_
  refine mt_aload_n dL_law_1281 rfl rfl ?_
  refine mt_aload_n dL_law_1282 rfl rfl ?_
  refine mt_iload dL_law_1283 rfl ?_
  refine mt_iconst dL_law_1285 (v := nI 1) rfl ?_
  refine mp_iadd dL_law_1286 (v := nI (i + 1)) (nI_add _ _) ?_
  refine mx_ld dL_law_1287 rfl (j := i + 1) (by omega) (by omega) ?_
  refine mt_callV (N := mX4_isFalling) (Rc := rX4_isFalling) (As := [.int (xs (i + 1))]) (st := []) dL_law_1288 (kX4_isFalling hl Mc4) sX4_isFalling mw_1266 mKX4 rfl Mc4.1 rfl (Nat.le_of_ble_eq_true rfl) ⟨⟨Nat.le_of_ble_eq_true rfl, Nat.le_of_ble_eq_true rfl⟩, (by simp only [rL_isFalling, rX4_isFalling, room_1]; omega), (by simp only [rL_isFalling, rX4_isFalling, room_1]; omega)⟩ (fun v5 h6 n7 c8 => ?_) (fun _ _ _ hx => hx.elim)
  obtain ⟨xc8, tc8, c8a, c8b, c8m, c8e⟩ := mOk.gs (S := S) (oim_mp_isFalling (S := S)) (c8.ok Mc4.2.1)
  have Mc8 : mAt h6 n7 (stOf S (sp_isFalling S (xs (i + 1)))) (tc8) := by rw [stOf_q qst_sp_isFalling]; rw [show (mp_isFalling S (xs (i + 1))).2.2 = S from qst_mp_isFalling] at c8m; exact c8m
  have Cc8 := cAt.fr2 Cc4 (fun j hj => c8e j (Or.inl hj))
  have Oc8 := (c8e 38 (Or.inr rfl)).trans c4d
  rw [c8a]
  show mT _ _ _ _ 1291 [.retAddr 0, .ref 0, .ref 27, .ref 38, .int (nI i), .int (nI ((sp_isFalling S (xs (i + 1))).1)), .double 0] [.int xc8] _ _ _ _
  refine mp_istore dL_law_1291 (ls' := [.retAddr 0, .ref 0, .ref 27, .ref 38, .int (nI i), .int (nI ((sp_isFalling S (xs (i + 1))).1)), .int xc8]) rfl (by decide) rfl ?_
  refine mt_goto dL_law_1293 (tgt := 2003) rfl ?_
  refine mt_drop 5 (ls' := [.retAddr 0, .ref 0, .ref 27, .ref 38, .int (nI i), .double 0, .int xc8]) rfl ?_
  refine mt_drop 6 (ls' := [.retAddr 0, .ref 0, .ref 27, .ref 38, .int (nI i), .double 0, .double 0]) rfl ?_
  refine mt_widen (cc' := cc + 9000) (sc' := sc + 62000) (by simp only [rL_isFalling, rX4_isFalling]; omega) (by simp only [rL_isFalling, rX4_isFalling]; omega) ?_
  exact kk _ _ _ _ _ _ Cc8 Mc8 Oc8
theorem oim_mp_isKept {S : cS} {row : Int32} : oI vI true true (mp_isKept S row) := by
  unfold mp_isKept
  repeat' first | exact Or.inl ⟨rfl, _, rfl⟩ | exact Or.inr (Or.inr ⟨rfl, rfl⟩) | exact Or.inr (Or.inl ⟨rfl, rfl⟩) | refine dAt_o (fun r => ?_) | refine dArg_o (fun r => ?_) | refine dFit_o ?_ | refine dB_o (fun r => ?_) | refine dKeep_o (fun p t => ?_) | split
set_option maxRecDepth 100000 in
set_option maxHeartbeats 2000000 in
theorem tL_c26 {l : Launch} (hl : l.stackTraces = false) {L : Nat} {xs : Nat → Int32} : lawCase l L xs 1296 := by
  intro i h n S th y s cc sc hi6 hL C M O hcc hsc kk
  have hS := lenOk_of C
  show mT _ _ _ _ 1296 [.retAddr 0, .ref 0, .ref 27, .ref 38, .int (nI i), .double 0, .double 0] [] _ _ _ _
  refine mt_aload_n dL_law_1296 rfl rfl ?_
  refine mt_aload_n dL_law_1297 rfl rfl ?_
  refine mt_iload dL_law_1298 rfl ?_
  refine mt_iconst dL_law_1300 (v := nI 1) rfl ?_
  refine mp_iadd dL_law_1301 (v := nI (i + 1)) (nI_add _ _) ?_
  refine mx_ld dL_law_1302 rfl (j := i + 1) (by omega) (by omega) ?_
  refine mt_aload_n dL_law_1303 rfl rfl ?_
  refine mt_callSW (N := mL_isKept) (Rc := rL_isKept) (As := [.ref 0, .int (xs (i + 1)), .ref 38]) (st := []) dL_law_1304 (kL_isKept hl C O) sL_isKept mw_917 rfl (Nat.le_of_ble_eq_true rfl) ⟨⟨Nat.le_of_ble_eq_true rfl, Nat.le_of_ble_eq_true rfl⟩, (by simp only [rL_isKept, rX4_isKept, room_1]; omega), (by simp only [rL_isKept, rX4_isKept, room_1]; omega)⟩ (fun v1 h2 n3 c4 => ?_) (fun _ _ _ hx => hx.elim)
  obtain ⟨c4a, c4b, c4c, ⟨yc4, c4d, c4z⟩, c4e⟩ := c4
  rw [c4a, c4b]
  have Cc4 : cAt h2 (stOf S (sp_isKept S (xs (i + 1)))) := c4c
  have Mc4 := mAt.fr M (Nat.le_refl _) c4e
  show mT _ _ _ _ 1307 [.retAddr 0, .ref 0, .ref 27, .ref 38, .int (nI i), .double 0, .double 0] [.int (nI ((sp_isKept S (xs (i + 1))).1))] _ _ _ _
  refine mp_istore dL_law_1307 (ls' := [.retAddr 0, .ref 0, .ref 27, .ref 38, .int (nI i), .int (nI ((sp_isKept S (xs (i + 1))).1)), .double 0]) rfl (by decide) rfl ?_
  refine mt_aload_n dL_law_1309 rfl rfl ?_
  refine mt_aload_n dL_law_1310 rfl rfl ?_
  refine mt_iload dL_law_1311 rfl ?_
  refine mt_iconst dL_law_1313 (v := nI 1) rfl ?_
  refine mp_iadd dL_law_1314 (v := nI (i + 1)) (nI_add _ _) ?_
  refine mx_ld dL_law_1315 rfl (j := i + 1) (by omega) (by omega) ?_
  refine mt_callV (N := mX4_isKept) (Rc := rX4_isKept) (As := [.int (xs (i + 1))]) (st := []) dL_law_1316 (kX4_isKept hl Mc4) sX4_isKept mw_1270 mKX4 rfl Mc4.1 rfl (Nat.le_of_ble_eq_true rfl) ⟨⟨Nat.le_of_ble_eq_true rfl, Nat.le_of_ble_eq_true rfl⟩, (by simp only [rL_isKept, rX4_isKept, room_1]; omega), (by simp only [rL_isKept, rX4_isKept, room_1]; omega)⟩ (fun v5 h6 n7 c8 => ?_) (fun _ _ _ hx => hx.elim)
  obtain ⟨xc8, tc8, c8a, c8b, c8m, c8e⟩ := mOk.gs (S := S) (oim_mp_isKept (S := S)) (c8.ok Mc4.2.1)
  have Mc8 : mAt h6 n7 (stOf S (sp_isKept S (xs (i + 1)))) (tc8) := by rw [stOf_q qst_sp_isKept]; rw [show (mp_isKept S (xs (i + 1))).2.2 = S from qst_mp_isKept] at c8m; exact c8m
  have Cc8 := cAt.fr2 Cc4 (fun j hj => c8e j (Or.inl hj))
  have Oc8 := (c8e 38 (Or.inr rfl)).trans c4d
  rw [c8a]
  show mT _ _ _ _ 1319 [.retAddr 0, .ref 0, .ref 27, .ref 38, .int (nI i), .int (nI ((sp_isKept S (xs (i + 1))).1)), .double 0] [.int xc8] _ _ _ _
  refine mp_istore dL_law_1319 (ls' := [.retAddr 0, .ref 0, .ref 27, .ref 38, .int (nI i), .int (nI ((sp_isKept S (xs (i + 1))).1)), .int xc8]) rfl (by decide) rfl ?_
  refine mt_goto dL_law_1321 (tgt := 2003) rfl ?_
  refine mt_drop 5 (ls' := [.retAddr 0, .ref 0, .ref 27, .ref 38, .int (nI i), .double 0, .int xc8]) rfl ?_
  refine mt_drop 6 (ls' := [.retAddr 0, .ref 0, .ref 27, .ref 38, .int (nI i), .double 0, .double 0]) rfl ?_
  refine mt_widen (cc' := cc + 9000) (sc' := sc + 62000) (by simp only [rL_isKept, rX4_isKept]; omega) (by simp only [rL_isKept, rX4_isKept]; omega) ?_
  exact kk _ _ _ _ _ _ Cc8 Mc8 Oc8
theorem oim_mp_wrong {S : cS} {row : Int32} {how : Int32} : oI vI true true (mp_wrong S row how) := by
  unfold mp_wrong
  repeat' first | exact Or.inl ⟨rfl, _, rfl⟩ | exact Or.inr (Or.inr ⟨rfl, rfl⟩) | exact Or.inr (Or.inl ⟨rfl, rfl⟩) | refine dAt_o (fun r => ?_) | refine dArg_o (fun r => ?_) | refine dFit_o ?_ | refine dB_o (fun r => ?_) | refine dKeep_o (fun p t => ?_) | split
set_option maxRecDepth 100000 in
set_option maxHeartbeats 2000000 in
theorem tL_c27 {l : Launch} (hl : l.stackTraces = false) {L : Nat} {xs : Nat → Int32} : lawCase l L xs 1324 := by
  intro i h n S th y s cc sc hi6 hL C M O hcc hsc kk
  have hS := lenOk_of C
  show mT _ _ _ _ 1324 [.retAddr 0, .ref 0, .ref 27, .ref 38, .int (nI i), .double 0, .double 0] [] _ _ _ _
  refine mt_aload_n dL_law_1324 rfl rfl ?_
  refine mt_aload_n dL_law_1325 rfl rfl ?_
  refine mt_iload dL_law_1326 rfl ?_
  refine mt_iconst dL_law_1328 (v := nI 1) rfl ?_
  refine mp_iadd dL_law_1329 (v := nI (i + 1)) (nI_add _ _) ?_
  refine mx_ld dL_law_1330 rfl (j := i + 1) (by omega) (by omega) ?_
  refine mt_aload_n dL_law_1331 rfl rfl ?_
  refine mt_iload dL_law_1332 rfl ?_
  refine mt_iconst dL_law_1334 (v := nI 2) rfl ?_
  refine mp_iadd dL_law_1335 (v := nI (i + 2)) (nI_add _ _) ?_
  refine mx_ld dL_law_1336 rfl (j := i + 2) (by omega) (by omega) ?_
  refine mt_aload_n dL_law_1337 rfl rfl ?_
  refine mt_callSW (N := mL_wrong) (Rc := rL_wrong) (As := [.ref 0, .int (xs (i + 1)), .int (xs (i + 2)), .ref 38]) (st := []) dL_law_1338 (kL_wrong hl C O) sL_wrong mw_928 rfl (Nat.le_of_ble_eq_true rfl) ⟨⟨Nat.le_of_ble_eq_true rfl, Nat.le_of_ble_eq_true rfl⟩, (by simp only [rL_wrong, rX4_wrong, room_1]; omega), (by simp only [rL_wrong, rX4_wrong, room_1]; omega)⟩ (fun v1 h2 n3 c4 => ?_) (fun _ _ _ hx => hx.elim)
  obtain ⟨c4a, c4b, c4c, ⟨yc4, c4d, c4z⟩, c4e⟩ := c4
  rw [c4a, c4b]
  have Cc4 : cAt h2 (stOf S (sp_wrong S (xs (i + 1)) (xs (i + 2)))) := c4c
  have Mc4 := mAt.fr M (Nat.le_refl _) c4e
  show mT _ _ _ _ 1341 [.retAddr 0, .ref 0, .ref 27, .ref 38, .int (nI i), .double 0, .double 0] [.int (nI ((sp_wrong S (xs (i + 1)) (xs (i + 2))).1))] _ _ _ _
  refine mp_istore dL_law_1341 (ls' := [.retAddr 0, .ref 0, .ref 27, .ref 38, .int (nI i), .int (nI ((sp_wrong S (xs (i + 1)) (xs (i + 2))).1)), .double 0]) rfl (by decide) rfl ?_
  refine mt_aload_n dL_law_1343 rfl rfl ?_
  refine mt_aload_n dL_law_1344 rfl rfl ?_
  refine mt_iload dL_law_1345 rfl ?_
  refine mt_iconst dL_law_1347 (v := nI 1) rfl ?_
  refine mp_iadd dL_law_1348 (v := nI (i + 1)) (nI_add _ _) ?_
  refine mx_ld dL_law_1349 rfl (j := i + 1) (by omega) (by omega) ?_
  refine mt_aload_n dL_law_1350 rfl rfl ?_
  refine mt_iload dL_law_1351 rfl ?_
  refine mt_iconst dL_law_1353 (v := nI 2) rfl ?_
  refine mp_iadd dL_law_1354 (v := nI (i + 2)) (nI_add _ _) ?_
  refine mx_ld dL_law_1355 rfl (j := i + 2) (by omega) (by omega) ?_
  refine mt_callV (N := mX4_wrong) (Rc := rX4_wrong) (As := [.int (xs (i + 1)), .int (xs (i + 2))]) (st := []) dL_law_1356 (kX4_wrong hl Mc4) sX4_wrong mw_1274 mKX4 rfl Mc4.1 rfl (Nat.le_of_ble_eq_true rfl) ⟨⟨Nat.le_of_ble_eq_true rfl, Nat.le_of_ble_eq_true rfl⟩, (by simp only [rL_wrong, rX4_wrong, room_1]; omega), (by simp only [rL_wrong, rX4_wrong, room_1]; omega)⟩ (fun v5 h6 n7 c8 => ?_) (fun _ _ _ hx => hx.elim)
  obtain ⟨xc8, tc8, c8a, c8b, c8m, c8e⟩ := mOk.gs (S := S) (oim_mp_wrong (S := S)) (c8.ok Mc4.2.1)
  have Mc8 : mAt h6 n7 (stOf S (sp_wrong S (xs (i + 1)) (xs (i + 2)))) (tc8) := by rw [stOf_q qst_sp_wrong]; rw [show (mp_wrong S (xs (i + 1)) (xs (i + 2))).2.2 = S from qst_mp_wrong] at c8m; exact c8m
  have Cc8 := cAt.fr2 Cc4 (fun j hj => c8e j (Or.inl hj))
  have Oc8 := (c8e 38 (Or.inr rfl)).trans c4d
  rw [c8a]
  show mT _ _ _ _ 1359 [.retAddr 0, .ref 0, .ref 27, .ref 38, .int (nI i), .int (nI ((sp_wrong S (xs (i + 1)) (xs (i + 2))).1)), .double 0] [.int xc8] _ _ _ _
  refine mp_istore dL_law_1359 (ls' := [.retAddr 0, .ref 0, .ref 27, .ref 38, .int (nI i), .int (nI ((sp_wrong S (xs (i + 1)) (xs (i + 2))).1)), .int xc8]) rfl (by decide) rfl ?_
  refine mt_goto dL_law_1361 (tgt := 2003) rfl ?_
  refine mt_drop 5 (ls' := [.retAddr 0, .ref 0, .ref 27, .ref 38, .int (nI i), .double 0, .int xc8]) rfl ?_
  refine mt_drop 6 (ls' := [.retAddr 0, .ref 0, .ref 27, .ref 38, .int (nI i), .double 0, .double 0]) rfl ?_
  refine mt_widen (cc' := cc + 9000) (sc' := sc + 62000) (by simp only [rL_wrong, rX4_wrong]; omega) (by simp only [rL_wrong, rX4_wrong]; omega) ?_
  exact kk _ _ _ _ _ _ Cc8 Mc8 Oc8
theorem oim_mp_right {S : cS} {row : Int32} : oI vI true true (mp_right S row) := by
  unfold mp_right
  repeat' first | exact Or.inl ⟨rfl, _, rfl⟩ | exact Or.inr (Or.inr ⟨rfl, rfl⟩) | exact Or.inr (Or.inl ⟨rfl, rfl⟩) | refine dAt_o (fun r => ?_) | refine dArg_o (fun r => ?_) | refine dFit_o ?_ | refine dB_o (fun r => ?_) | refine dKeep_o (fun p t => ?_) | split
set_option maxRecDepth 100000 in
set_option maxHeartbeats 2000000 in
theorem tL_c28 {l : Launch} (hl : l.stackTraces = false) {L : Nat} {xs : Nat → Int32} : lawCase l L xs 1364 := by
  intro i h n S th y s cc sc hi6 hL C M O hcc hsc kk
  have hS := lenOk_of C
  show mT _ _ _ _ 1364 [.retAddr 0, .ref 0, .ref 27, .ref 38, .int (nI i), .double 0, .double 0] [] _ _ _ _
  refine mt_aload_n dL_law_1364 rfl rfl ?_
  refine mt_aload_n dL_law_1365 rfl rfl ?_
  refine mt_iload dL_law_1366 rfl ?_
  refine mt_iconst dL_law_1368 (v := nI 1) rfl ?_
  refine mp_iadd dL_law_1369 (v := nI (i + 1)) (nI_add _ _) ?_
  refine mx_ld dL_law_1370 rfl (j := i + 1) (by omega) (by omega) ?_
  refine mt_aload_n dL_law_1371 rfl rfl ?_
  refine mt_callSW (N := mL_right) (Rc := rL_right) (As := [.ref 0, .int (xs (i + 1)), .ref 38]) (st := []) dL_law_1372 (kL_right hl C O) sL_right mw_932 rfl (Nat.le_of_ble_eq_true rfl) ⟨⟨Nat.le_of_ble_eq_true rfl, Nat.le_of_ble_eq_true rfl⟩, (by simp only [rL_right, rX4_right, room_1]; omega), (by simp only [rL_right, rX4_right, room_1]; omega)⟩ (fun v1 h2 n3 c4 => ?_) (fun _ _ _ hx => hx.elim)
  obtain ⟨c4a, c4b, c4c, ⟨yc4, c4d, c4z⟩, c4e⟩ := c4
  rw [c4a, c4b]
  have Cc4 : cAt h2 (stOf S (sp_right S (xs (i + 1)))) := c4c
  have Mc4 := mAt.fr M (Nat.le_refl _) c4e
  show mT _ _ _ _ 1375 [.retAddr 0, .ref 0, .ref 27, .ref 38, .int (nI i), .double 0, .double 0] [.int (nI ((sp_right S (xs (i + 1))).1))] _ _ _ _
  refine mp_istore dL_law_1375 (ls' := [.retAddr 0, .ref 0, .ref 27, .ref 38, .int (nI i), .int (nI ((sp_right S (xs (i + 1))).1)), .double 0]) rfl (by decide) rfl ?_
  refine mt_aload_n dL_law_1377 rfl rfl ?_
  refine mt_aload_n dL_law_1378 rfl rfl ?_
  refine mt_iload dL_law_1379 rfl ?_
  refine mt_iconst dL_law_1381 (v := nI 1) rfl ?_
  refine mp_iadd dL_law_1382 (v := nI (i + 1)) (nI_add _ _) ?_
  refine mx_ld dL_law_1383 rfl (j := i + 1) (by omega) (by omega) ?_
  refine mt_callV (N := mX4_right) (Rc := rX4_right) (As := [.int (xs (i + 1))]) (st := []) dL_law_1384 (kX4_right hl Mc4) sX4_right mw_1278 mKX4 rfl Mc4.1 rfl (Nat.le_of_ble_eq_true rfl) ⟨⟨Nat.le_of_ble_eq_true rfl, Nat.le_of_ble_eq_true rfl⟩, (by simp only [rL_right, rX4_right, room_1]; omega), (by simp only [rL_right, rX4_right, room_1]; omega)⟩ (fun v5 h6 n7 c8 => ?_) (fun _ _ _ hx => hx.elim)
  obtain ⟨xc8, tc8, c8a, c8b, c8m, c8e⟩ := mOk.gs (S := S) (oim_mp_right (S := S)) (c8.ok Mc4.2.1)
  have Mc8 : mAt h6 n7 (stOf S (sp_right S (xs (i + 1)))) (tc8) := by rw [stOf_q qst_sp_right]; rw [show (mp_right S (xs (i + 1))).2.2 = S from qst_mp_right] at c8m; exact c8m
  have Cc8 := cAt.fr2 Cc4 (fun j hj => c8e j (Or.inl hj))
  have Oc8 := (c8e 38 (Or.inr rfl)).trans c4d
  rw [c8a]
  show mT _ _ _ _ 1387 [.retAddr 0, .ref 0, .ref 27, .ref 38, .int (nI i), .int (nI ((sp_right S (xs (i + 1))).1)), .double 0] [.int xc8] _ _ _ _
  refine mp_istore dL_law_1387 (ls' := [.retAddr 0, .ref 0, .ref 27, .ref 38, .int (nI i), .int (nI ((sp_right S (xs (i + 1))).1)), .int xc8]) rfl (by decide) rfl ?_
  refine mt_goto dL_law_1389 (tgt := 2003) rfl ?_
  refine mt_drop 5 (ls' := [.retAddr 0, .ref 0, .ref 27, .ref 38, .int (nI i), .double 0, .int xc8]) rfl ?_
  refine mt_drop 6 (ls' := [.retAddr 0, .ref 0, .ref 27, .ref 38, .int (nI i), .double 0, .double 0]) rfl ?_
  refine mt_widen (cc' := cc + 9000) (sc' := sc + 62000) (by simp only [rL_right, rX4_right]; omega) (by simp only [rL_right, rX4_right]; omega) ?_
  exact kk _ _ _ _ _ _ Cc8 Mc8 Oc8
theorem oim_mp_ties {S : cS} {row : Int32} : oI vI true true (mp_ties S row) := by
  unfold mp_ties
  repeat' first | exact Or.inl ⟨rfl, _, rfl⟩ | exact Or.inr (Or.inr ⟨rfl, rfl⟩) | exact Or.inr (Or.inl ⟨rfl, rfl⟩) | refine dAt_o (fun r => ?_) | refine dArg_o (fun r => ?_) | refine dFit_o ?_ | refine dB_o (fun r => ?_) | refine dKeep_o (fun p t => ?_) | split
set_option maxRecDepth 100000 in
set_option maxHeartbeats 2000000 in
theorem tL_c29 {l : Launch} (hl : l.stackTraces = false) {L : Nat} {xs : Nat → Int32} : lawCase l L xs 1392 := by
  intro i h n S th y s cc sc hi6 hL C M O hcc hsc kk
  have hS := lenOk_of C
  show mT _ _ _ _ 1392 [.retAddr 0, .ref 0, .ref 27, .ref 38, .int (nI i), .double 0, .double 0] [] _ _ _ _
  refine mt_aload_n dL_law_1392 rfl rfl ?_
  refine mt_aload_n dL_law_1393 rfl rfl ?_
  refine mt_iload dL_law_1394 rfl ?_
  refine mt_iconst dL_law_1396 (v := nI 1) rfl ?_
  refine mp_iadd dL_law_1397 (v := nI (i + 1)) (nI_add _ _) ?_
  refine mx_ld dL_law_1398 rfl (j := i + 1) (by omega) (by omega) ?_
  refine mt_aload_n dL_law_1399 rfl rfl ?_
  refine mt_callSW (N := mL_ties) (Rc := rL_ties) (As := [.ref 0, .int (xs (i + 1)), .ref 38]) (st := []) dL_law_1400 (kL_ties hl C O) sL_ties mw_939 rfl (Nat.le_of_ble_eq_true rfl) ⟨⟨Nat.le_of_ble_eq_true rfl, Nat.le_of_ble_eq_true rfl⟩, (by simp only [rL_ties, rX4_ties, room_1]; omega), (by simp only [rL_ties, rX4_ties, room_1]; omega)⟩ (fun v1 h2 n3 c4 => ?_) (fun _ _ _ hx => hx.elim)
  obtain ⟨c4a, c4b, c4c, ⟨yc4, c4d, c4z⟩, c4e⟩ := c4
  rw [c4a, c4b]
  have Cc4 : cAt h2 (stOf S (sp_ties S (xs (i + 1)))) := c4c
  have Mc4 := mAt.fr M (Nat.le_refl _) c4e
  show mT _ _ _ _ 1403 [.retAddr 0, .ref 0, .ref 27, .ref 38, .int (nI i), .double 0, .double 0] [.int (nI ((sp_ties S (xs (i + 1))).1))] _ _ _ _
  refine mp_istore dL_law_1403 (ls' := [.retAddr 0, .ref 0, .ref 27, .ref 38, .int (nI i), .int (nI ((sp_ties S (xs (i + 1))).1)), .double 0]) rfl (by decide) rfl ?_
  refine mt_aload_n dL_law_1405 rfl rfl ?_
  refine mt_aload_n dL_law_1406 rfl rfl ?_
  refine mt_iload dL_law_1407 rfl ?_
  refine mt_iconst dL_law_1409 (v := nI 1) rfl ?_
  refine mp_iadd dL_law_1410 (v := nI (i + 1)) (nI_add _ _) ?_
  refine mx_ld dL_law_1411 rfl (j := i + 1) (by omega) (by omega) ?_
  refine mt_callV (N := mX4_ties) (Rc := rX4_ties) (As := [.int (xs (i + 1))]) (st := []) dL_law_1412 (kX4_ties hl Mc4) sX4_ties mw_1282 mKX4 rfl Mc4.1 rfl (Nat.le_of_ble_eq_true rfl) ⟨⟨Nat.le_of_ble_eq_true rfl, Nat.le_of_ble_eq_true rfl⟩, (by simp only [rL_ties, rX4_ties, room_1]; omega), (by simp only [rL_ties, rX4_ties, room_1]; omega)⟩ (fun v5 h6 n7 c8 => ?_) (fun _ _ _ hx => hx.elim)
  obtain ⟨xc8, tc8, c8a, c8b, c8m, c8e⟩ := mOk.gs (S := S) (oim_mp_ties (S := S)) (c8.ok Mc4.2.1)
  have Mc8 : mAt h6 n7 (stOf S (sp_ties S (xs (i + 1)))) (tc8) := by rw [stOf_q qst_sp_ties]; rw [show (mp_ties S (xs (i + 1))).2.2 = S from qst_mp_ties] at c8m; exact c8m
  have Cc8 := cAt.fr2 Cc4 (fun j hj => c8e j (Or.inl hj))
  have Oc8 := (c8e 38 (Or.inr rfl)).trans c4d
  rw [c8a]
  show mT _ _ _ _ 1415 [.retAddr 0, .ref 0, .ref 27, .ref 38, .int (nI i), .int (nI ((sp_ties S (xs (i + 1))).1)), .double 0] [.int xc8] _ _ _ _
  refine mp_istore dL_law_1415 (ls' := [.retAddr 0, .ref 0, .ref 27, .ref 38, .int (nI i), .int (nI ((sp_ties S (xs (i + 1))).1)), .int xc8]) rfl (by decide) rfl ?_
  refine mt_goto dL_law_1417 (tgt := 2003) rfl ?_
  refine mt_drop 5 (ls' := [.retAddr 0, .ref 0, .ref 27, .ref 38, .int (nI i), .double 0, .int xc8]) rfl ?_
  refine mt_drop 6 (ls' := [.retAddr 0, .ref 0, .ref 27, .ref 38, .int (nI i), .double 0, .double 0]) rfl ?_
  refine mt_widen (cc' := cc + 9000) (sc' := sc + 62000) (by simp only [rL_ties, rX4_ties]; omega) (by simp only [rL_ties, rX4_ties]; omega) ?_
  exact kk _ _ _ _ _ _ Cc8 Mc8 Oc8
theorem oim_mp_runs {S : cS} {row : Int32} : oI vI true true (mp_runs S row) := by
  unfold mp_runs
  repeat' first | exact Or.inl ⟨rfl, _, rfl⟩ | exact Or.inr (Or.inr ⟨rfl, rfl⟩) | exact Or.inr (Or.inl ⟨rfl, rfl⟩) | refine dAt_o (fun r => ?_) | refine dArg_o (fun r => ?_) | refine dFit_o ?_ | refine dB_o (fun r => ?_) | refine dKeep_o (fun p t => ?_) | split
set_option maxRecDepth 100000 in
set_option maxHeartbeats 2000000 in
theorem tL_c30 {l : Launch} (hl : l.stackTraces = false) {L : Nat} {xs : Nat → Int32} : lawCase l L xs 1420 := by
  intro i h n S th y s cc sc hi6 hL C M O hcc hsc kk
  have hS := lenOk_of C
  show mT _ _ _ _ 1420 [.retAddr 0, .ref 0, .ref 27, .ref 38, .int (nI i), .double 0, .double 0] [] _ _ _ _
  refine mt_aload_n dL_law_1420 rfl rfl ?_
  refine mt_aload_n dL_law_1421 rfl rfl ?_
  refine mt_iload dL_law_1422 rfl ?_
  refine mt_iconst dL_law_1424 (v := nI 1) rfl ?_
  refine mp_iadd dL_law_1425 (v := nI (i + 1)) (nI_add _ _) ?_
  refine mx_ld dL_law_1426 rfl (j := i + 1) (by omega) (by omega) ?_
  refine mt_aload_n dL_law_1427 rfl rfl ?_
  refine mt_callSW (N := mL_runs) (Rc := rL_runs) (As := [.ref 0, .int (xs (i + 1)), .ref 38]) (st := []) dL_law_1428 (kL_runs hl C O) sL_runs mw_943 rfl (Nat.le_of_ble_eq_true rfl) ⟨⟨Nat.le_of_ble_eq_true rfl, Nat.le_of_ble_eq_true rfl⟩, (by simp only [rL_runs, rX4_runs, room_1]; omega), (by simp only [rL_runs, rX4_runs, room_1]; omega)⟩ (fun v1 h2 n3 c4 => ?_) (fun _ _ _ hx => hx.elim)
  obtain ⟨c4a, c4b, c4c, ⟨yc4, c4d, c4z⟩, c4e⟩ := c4
  rw [c4a, c4b]
  have Cc4 : cAt h2 (stOf S (sp_runs S (xs (i + 1)))) := c4c
  have Mc4 := mAt.fr M (Nat.le_refl _) c4e
  show mT _ _ _ _ 1431 [.retAddr 0, .ref 0, .ref 27, .ref 38, .int (nI i), .double 0, .double 0] [.int (nI ((sp_runs S (xs (i + 1))).1))] _ _ _ _
  refine mp_istore dL_law_1431 (ls' := [.retAddr 0, .ref 0, .ref 27, .ref 38, .int (nI i), .int (nI ((sp_runs S (xs (i + 1))).1)), .double 0]) rfl (by decide) rfl ?_
  refine mt_aload_n dL_law_1433 rfl rfl ?_
  refine mt_aload_n dL_law_1434 rfl rfl ?_
  refine mt_iload dL_law_1435 rfl ?_
  refine mt_iconst dL_law_1437 (v := nI 1) rfl ?_
  refine mp_iadd dL_law_1438 (v := nI (i + 1)) (nI_add _ _) ?_
  refine mx_ld dL_law_1439 rfl (j := i + 1) (by omega) (by omega) ?_
  refine mt_callV (N := mX4_runs) (Rc := rX4_runs) (As := [.int (xs (i + 1))]) (st := []) dL_law_1440 (kX4_runs hl Mc4) sX4_runs mw_1286 mKX4 rfl Mc4.1 rfl (Nat.le_of_ble_eq_true rfl) ⟨⟨Nat.le_of_ble_eq_true rfl, Nat.le_of_ble_eq_true rfl⟩, (by simp only [rL_runs, rX4_runs, room_1]; omega), (by simp only [rL_runs, rX4_runs, room_1]; omega)⟩ (fun v5 h6 n7 c8 => ?_) (fun _ _ _ hx => hx.elim)
  obtain ⟨xc8, tc8, c8a, c8b, c8m, c8e⟩ := mOk.gs (S := S) (oim_mp_runs (S := S)) (c8.ok Mc4.2.1)
  have Mc8 : mAt h6 n7 (stOf S (sp_runs S (xs (i + 1)))) (tc8) := by rw [stOf_q qst_sp_runs]; rw [show (mp_runs S (xs (i + 1))).2.2 = S from qst_mp_runs] at c8m; exact c8m
  have Cc8 := cAt.fr2 Cc4 (fun j hj => c8e j (Or.inl hj))
  have Oc8 := (c8e 38 (Or.inr rfl)).trans c4d
  rw [c8a]
  show mT _ _ _ _ 1443 [.retAddr 0, .ref 0, .ref 27, .ref 38, .int (nI i), .int (nI ((sp_runs S (xs (i + 1))).1)), .double 0] [.int xc8] _ _ _ _
  refine mp_istore dL_law_1443 (ls' := [.retAddr 0, .ref 0, .ref 27, .ref 38, .int (nI i), .int (nI ((sp_runs S (xs (i + 1))).1)), .int xc8]) rfl (by decide) rfl ?_
  refine mt_goto dL_law_1445 (tgt := 2003) rfl ?_
  refine mt_drop 5 (ls' := [.retAddr 0, .ref 0, .ref 27, .ref 38, .int (nI i), .double 0, .int xc8]) rfl ?_
  refine mt_drop 6 (ls' := [.retAddr 0, .ref 0, .ref 27, .ref 38, .int (nI i), .double 0, .double 0]) rfl ?_
  refine mt_widen (cc' := cc + 9000) (sc' := sc + 62000) (by simp only [rL_runs, rX4_runs]; omega) (by simp only [rL_runs, rX4_runs]; omega) ?_
  exact kk _ _ _ _ _ _ Cc8 Mc8 Oc8
theorem oim_mp_longest {S : cS} {row : Int32} : oI vI true true (mp_longest S row) := by
  unfold mp_longest
  repeat' first | exact Or.inl ⟨rfl, _, rfl⟩ | exact Or.inr (Or.inr ⟨rfl, rfl⟩) | exact Or.inr (Or.inl ⟨rfl, rfl⟩) | refine dAt_o (fun r => ?_) | refine dArg_o (fun r => ?_) | refine dFit_o ?_ | refine dB_o (fun r => ?_) | refine dKeep_o (fun p t => ?_) | split
set_option maxRecDepth 100000 in
set_option maxHeartbeats 2000000 in
theorem tL_c31 {l : Launch} (hl : l.stackTraces = false) {L : Nat} {xs : Nat → Int32} : lawCase l L xs 1448 := by
  intro i h n S th y s cc sc hi6 hL C M O hcc hsc kk
  have hS := lenOk_of C
  show mT _ _ _ _ 1448 [.retAddr 0, .ref 0, .ref 27, .ref 38, .int (nI i), .double 0, .double 0] [] _ _ _ _
  refine mt_aload_n dL_law_1448 rfl rfl ?_
  refine mt_aload_n dL_law_1449 rfl rfl ?_
  refine mt_iload dL_law_1450 rfl ?_
  refine mt_iconst dL_law_1452 (v := nI 1) rfl ?_
  refine mp_iadd dL_law_1453 (v := nI (i + 1)) (nI_add _ _) ?_
  refine mx_ld dL_law_1454 rfl (j := i + 1) (by omega) (by omega) ?_
  refine mt_aload_n dL_law_1455 rfl rfl ?_
  refine mt_callSW (N := mL_longest) (Rc := rL_longest) (As := [.ref 0, .int (xs (i + 1)), .ref 38]) (st := []) dL_law_1456 (kL_longest hl C O) sL_longest mw_947 rfl (Nat.le_of_ble_eq_true rfl) ⟨⟨Nat.le_of_ble_eq_true rfl, Nat.le_of_ble_eq_true rfl⟩, (by simp only [rL_longest, rX4_longest, room_1]; omega), (by simp only [rL_longest, rX4_longest, room_1]; omega)⟩ (fun v1 h2 n3 c4 => ?_) (fun _ _ _ hx => hx.elim)
  obtain ⟨c4a, c4b, c4c, ⟨yc4, c4d, c4z⟩, c4e⟩ := c4
  rw [c4a, c4b]
  have Cc4 : cAt h2 (stOf S (sp_longest S (xs (i + 1)))) := c4c
  have Mc4 := mAt.fr M (Nat.le_refl _) c4e
  show mT _ _ _ _ 1459 [.retAddr 0, .ref 0, .ref 27, .ref 38, .int (nI i), .double 0, .double 0] [.int (nI ((sp_longest S (xs (i + 1))).1))] _ _ _ _
  refine mp_istore dL_law_1459 (ls' := [.retAddr 0, .ref 0, .ref 27, .ref 38, .int (nI i), .int (nI ((sp_longest S (xs (i + 1))).1)), .double 0]) rfl (by decide) rfl ?_
  refine mt_aload_n dL_law_1461 rfl rfl ?_
  refine mt_aload_n dL_law_1462 rfl rfl ?_
  refine mt_iload dL_law_1463 rfl ?_
  refine mt_iconst dL_law_1465 (v := nI 1) rfl ?_
  refine mp_iadd dL_law_1466 (v := nI (i + 1)) (nI_add _ _) ?_
  refine mx_ld dL_law_1467 rfl (j := i + 1) (by omega) (by omega) ?_
  refine mt_callV (N := mX4_longest) (Rc := rX4_longest) (As := [.int (xs (i + 1))]) (st := []) dL_law_1468 (kX4_longest hl Mc4) sX4_longest mw_1290 mKX4 rfl Mc4.1 rfl (Nat.le_of_ble_eq_true rfl) ⟨⟨Nat.le_of_ble_eq_true rfl, Nat.le_of_ble_eq_true rfl⟩, (by simp only [rL_longest, rX4_longest, room_1]; omega), (by simp only [rL_longest, rX4_longest, room_1]; omega)⟩ (fun v5 h6 n7 c8 => ?_) (fun _ _ _ hx => hx.elim)
  obtain ⟨xc8, tc8, c8a, c8b, c8m, c8e⟩ := mOk.gs (S := S) (oim_mp_longest (S := S)) (c8.ok Mc4.2.1)
  have Mc8 : mAt h6 n7 (stOf S (sp_longest S (xs (i + 1)))) (tc8) := by rw [stOf_q qst_sp_longest]; rw [show (mp_longest S (xs (i + 1))).2.2 = S from qst_mp_longest] at c8m; exact c8m
  have Cc8 := cAt.fr2 Cc4 (fun j hj => c8e j (Or.inl hj))
  have Oc8 := (c8e 38 (Or.inr rfl)).trans c4d
  rw [c8a]
  show mT _ _ _ _ 1471 [.retAddr 0, .ref 0, .ref 27, .ref 38, .int (nI i), .int (nI ((sp_longest S (xs (i + 1))).1)), .double 0] [.int xc8] _ _ _ _
  refine mp_istore dL_law_1471 (ls' := [.retAddr 0, .ref 0, .ref 27, .ref 38, .int (nI i), .int (nI ((sp_longest S (xs (i + 1))).1)), .int xc8]) rfl (by decide) rfl ?_
  refine mt_goto dL_law_1473 (tgt := 2003) rfl ?_
  refine mt_drop 5 (ls' := [.retAddr 0, .ref 0, .ref 27, .ref 38, .int (nI i), .double 0, .int xc8]) rfl ?_
  refine mt_drop 6 (ls' := [.retAddr 0, .ref 0, .ref 27, .ref 38, .int (nI i), .double 0, .double 0]) rfl ?_
  refine mt_widen (cc' := cc + 9000) (sc' := sc + 62000) (by simp only [rL_longest, rX4_longest]; omega) (by simp only [rL_longest, rX4_longest]; omega) ?_
  exact kk _ _ _ _ _ _ Cc8 Mc8 Oc8
theorem oim_mp_count {S : cS} {row : Int32} {key : Int32} : oI vI true true (mp_count S row key) := by
  unfold mp_count
  repeat' first | exact Or.inl ⟨rfl, _, rfl⟩ | exact Or.inr (Or.inr ⟨rfl, rfl⟩) | exact Or.inr (Or.inl ⟨rfl, rfl⟩) | refine dAt_o (fun r => ?_) | refine dArg_o (fun r => ?_) | refine dFit_o ?_ | refine dB_o (fun r => ?_) | refine dKeep_o (fun p t => ?_) | split
set_option maxRecDepth 100000 in
set_option maxHeartbeats 2000000 in
theorem tL_c32 {l : Launch} (hl : l.stackTraces = false) {L : Nat} {xs : Nat → Int32} : lawCase l L xs 1476 := by
  intro i h n S th y s cc sc hi6 hL C M O hcc hsc kk
  have hS := lenOk_of C
  show mT _ _ _ _ 1476 [.retAddr 0, .ref 0, .ref 27, .ref 38, .int (nI i), .double 0, .double 0] [] _ _ _ _
  refine mt_aload_n dL_law_1476 rfl rfl ?_
  refine mt_aload_n dL_law_1477 rfl rfl ?_
  refine mt_iload dL_law_1478 rfl ?_
  refine mt_iconst dL_law_1480 (v := nI 1) rfl ?_
  refine mp_iadd dL_law_1481 (v := nI (i + 1)) (nI_add _ _) ?_
  refine mx_ld dL_law_1482 rfl (j := i + 1) (by omega) (by omega) ?_
  refine mt_aload_n dL_law_1483 rfl rfl ?_
  refine mt_iload dL_law_1484 rfl ?_
  refine mt_iconst dL_law_1486 (v := nI 2) rfl ?_
  refine mp_iadd dL_law_1487 (v := nI (i + 2)) (nI_add _ _) ?_
  refine mx_ld dL_law_1488 rfl (j := i + 2) (by omega) (by omega) ?_
  refine mt_aload_n dL_law_1489 rfl rfl ?_
  refine mt_callSW (N := mL_count) (Rc := rL_count) (As := [.ref 0, .int (xs (i + 1)), .int (xs (i + 2)), .ref 38]) (st := []) dL_law_1490 (kL_count hl C O) sL_count mw_951 rfl (Nat.le_of_ble_eq_true rfl) ⟨⟨Nat.le_of_ble_eq_true rfl, Nat.le_of_ble_eq_true rfl⟩, (by simp only [rL_count, rX4_count, room_1]; omega), (by simp only [rL_count, rX4_count, room_1]; omega)⟩ (fun v1 h2 n3 c4 => ?_) (fun _ _ _ hx => hx.elim)
  obtain ⟨c4a, c4b, c4c, ⟨yc4, c4d, c4z⟩, c4e⟩ := c4
  rw [c4a, c4b]
  have Cc4 : cAt h2 (stOf S (sp_count S (xs (i + 1)) (xs (i + 2)))) := c4c
  have Mc4 := mAt.fr M (Nat.le_refl _) c4e
  show mT _ _ _ _ 1493 [.retAddr 0, .ref 0, .ref 27, .ref 38, .int (nI i), .double 0, .double 0] [.int (nI ((sp_count S (xs (i + 1)) (xs (i + 2))).1))] _ _ _ _
  refine mp_istore dL_law_1493 (ls' := [.retAddr 0, .ref 0, .ref 27, .ref 38, .int (nI i), .int (nI ((sp_count S (xs (i + 1)) (xs (i + 2))).1)), .double 0]) rfl (by decide) rfl ?_
  refine mt_aload_n dL_law_1495 rfl rfl ?_
  refine mt_aload_n dL_law_1496 rfl rfl ?_
  refine mt_iload dL_law_1497 rfl ?_
  refine mt_iconst dL_law_1499 (v := nI 1) rfl ?_
  refine mp_iadd dL_law_1500 (v := nI (i + 1)) (nI_add _ _) ?_
  refine mx_ld dL_law_1501 rfl (j := i + 1) (by omega) (by omega) ?_
  refine mt_aload_n dL_law_1502 rfl rfl ?_
  refine mt_iload dL_law_1503 rfl ?_
  refine mt_iconst dL_law_1505 (v := nI 2) rfl ?_
  refine mp_iadd dL_law_1506 (v := nI (i + 2)) (nI_add _ _) ?_
  refine mx_ld dL_law_1507 rfl (j := i + 2) (by omega) (by omega) ?_
  refine mt_callV (N := mX4_count) (Rc := rX4_count) (As := [.int (xs (i + 1)), .int (xs (i + 2))]) (st := []) dL_law_1508 (kX4_count hl Mc4) sX4_count mw_1295 mKX4 rfl Mc4.1 rfl (Nat.le_of_ble_eq_true rfl) ⟨⟨Nat.le_of_ble_eq_true rfl, Nat.le_of_ble_eq_true rfl⟩, (by simp only [rL_count, rX4_count, room_1]; omega), (by simp only [rL_count, rX4_count, room_1]; omega)⟩ (fun v5 h6 n7 c8 => ?_) (fun _ _ _ hx => hx.elim)
  obtain ⟨xc8, tc8, c8a, c8b, c8m, c8e⟩ := mOk.gs (S := S) (oim_mp_count (S := S)) (c8.ok Mc4.2.1)
  have Mc8 : mAt h6 n7 (stOf S (sp_count S (xs (i + 1)) (xs (i + 2)))) (tc8) := by rw [stOf_q qst_sp_count]; rw [show (mp_count S (xs (i + 1)) (xs (i + 2))).2.2 = S from qst_mp_count] at c8m; exact c8m
  have Cc8 := cAt.fr2 Cc4 (fun j hj => c8e j (Or.inl hj))
  have Oc8 := (c8e 38 (Or.inr rfl)).trans c4d
  rw [c8a]
  show mT _ _ _ _ 1511 [.retAddr 0, .ref 0, .ref 27, .ref 38, .int (nI i), .int (nI ((sp_count S (xs (i + 1)) (xs (i + 2))).1)), .double 0] [.int xc8] _ _ _ _
  refine mp_istore dL_law_1511 (ls' := [.retAddr 0, .ref 0, .ref 27, .ref 38, .int (nI i), .int (nI ((sp_count S (xs (i + 1)) (xs (i + 2))).1)), .int xc8]) rfl (by decide) rfl ?_
  refine mt_goto dL_law_1513 (tgt := 2003) rfl ?_
  refine mt_drop 5 (ls' := [.retAddr 0, .ref 0, .ref 27, .ref 38, .int (nI i), .double 0, .int xc8]) rfl ?_
  refine mt_drop 6 (ls' := [.retAddr 0, .ref 0, .ref 27, .ref 38, .int (nI i), .double 0, .double 0]) rfl ?_
  refine mt_widen (cc' := cc + 9000) (sc' := sc + 62000) (by simp only [rL_count, rX4_count]; omega) (by simp only [rL_count, rX4_count]; omega) ?_
  exact kk _ _ _ _ _ _ Cc8 Mc8 Oc8
theorem oim_mp_below {S : cS} {row : Int32} {key : Int32} : oI vI true true (mp_below S row key) := by
  unfold mp_below
  repeat' first | exact Or.inl ⟨rfl, _, rfl⟩ | exact Or.inr (Or.inr ⟨rfl, rfl⟩) | exact Or.inr (Or.inl ⟨rfl, rfl⟩) | refine dAt_o (fun r => ?_) | refine dArg_o (fun r => ?_) | refine dFit_o ?_ | refine dB_o (fun r => ?_) | refine dKeep_o (fun p t => ?_) | split
set_option maxRecDepth 100000 in
set_option maxHeartbeats 2000000 in
theorem tL_c33 {l : Launch} (hl : l.stackTraces = false) {L : Nat} {xs : Nat → Int32} : lawCase l L xs 1516 := by
  intro i h n S th y s cc sc hi6 hL C M O hcc hsc kk
  have hS := lenOk_of C
  show mT _ _ _ _ 1516 [.retAddr 0, .ref 0, .ref 27, .ref 38, .int (nI i), .double 0, .double 0] [] _ _ _ _
  refine mt_aload_n dL_law_1516 rfl rfl ?_
  refine mt_aload_n dL_law_1517 rfl rfl ?_
  refine mt_iload dL_law_1518 rfl ?_
  refine mt_iconst dL_law_1520 (v := nI 1) rfl ?_
  refine mp_iadd dL_law_1521 (v := nI (i + 1)) (nI_add _ _) ?_
  refine mx_ld dL_law_1522 rfl (j := i + 1) (by omega) (by omega) ?_
  refine mt_aload_n dL_law_1523 rfl rfl ?_
  refine mt_iload dL_law_1524 rfl ?_
  refine mt_iconst dL_law_1526 (v := nI 2) rfl ?_
  refine mp_iadd dL_law_1527 (v := nI (i + 2)) (nI_add _ _) ?_
  refine mx_ld dL_law_1528 rfl (j := i + 2) (by omega) (by omega) ?_
  refine mt_aload_n dL_law_1529 rfl rfl ?_
  refine mt_callSW (N := mL_below) (Rc := rL_below) (As := [.ref 0, .int (xs (i + 1)), .int (xs (i + 2)), .ref 38]) (st := []) dL_law_1530 (kL_below hl C O) sL_below mw_962 rfl (Nat.le_of_ble_eq_true rfl) ⟨⟨Nat.le_of_ble_eq_true rfl, Nat.le_of_ble_eq_true rfl⟩, (by simp only [rL_below, rX4_below, room_1]; omega), (by simp only [rL_below, rX4_below, room_1]; omega)⟩ (fun v1 h2 n3 c4 => ?_) (fun _ _ _ hx => hx.elim)
  obtain ⟨c4a, c4b, c4c, ⟨yc4, c4d, c4z⟩, c4e⟩ := c4
  rw [c4a, c4b]
  have Cc4 : cAt h2 (stOf S (sp_below S (xs (i + 1)) (xs (i + 2)))) := c4c
  have Mc4 := mAt.fr M (Nat.le_refl _) c4e
  show mT _ _ _ _ 1533 [.retAddr 0, .ref 0, .ref 27, .ref 38, .int (nI i), .double 0, .double 0] [.int (nI ((sp_below S (xs (i + 1)) (xs (i + 2))).1))] _ _ _ _
  refine mp_istore dL_law_1533 (ls' := [.retAddr 0, .ref 0, .ref 27, .ref 38, .int (nI i), .int (nI ((sp_below S (xs (i + 1)) (xs (i + 2))).1)), .double 0]) rfl (by decide) rfl ?_
  refine mt_aload_n dL_law_1535 rfl rfl ?_
  refine mt_aload_n dL_law_1536 rfl rfl ?_
  refine mt_iload dL_law_1537 rfl ?_
  refine mt_iconst dL_law_1539 (v := nI 1) rfl ?_
  refine mp_iadd dL_law_1540 (v := nI (i + 1)) (nI_add _ _) ?_
  refine mx_ld dL_law_1541 rfl (j := i + 1) (by omega) (by omega) ?_
  refine mt_aload_n dL_law_1542 rfl rfl ?_
  refine mt_iload dL_law_1543 rfl ?_
  refine mt_iconst dL_law_1545 (v := nI 2) rfl ?_
  refine mp_iadd dL_law_1546 (v := nI (i + 2)) (nI_add _ _) ?_
  refine mx_ld dL_law_1547 rfl (j := i + 2) (by omega) (by omega) ?_
  refine mt_callV (N := mX4_below) (Rc := rX4_below) (As := [.int (xs (i + 1)), .int (xs (i + 2))]) (st := []) dL_law_1548 (kX4_below hl Mc4) sX4_below mw_1303 mKX4 rfl Mc4.1 rfl (Nat.le_of_ble_eq_true rfl) ⟨⟨Nat.le_of_ble_eq_true rfl, Nat.le_of_ble_eq_true rfl⟩, (by simp only [rL_below, rX4_below, room_1]; omega), (by simp only [rL_below, rX4_below, room_1]; omega)⟩ (fun v5 h6 n7 c8 => ?_) (fun _ _ _ hx => hx.elim)
  obtain ⟨xc8, tc8, c8a, c8b, c8m, c8e⟩ := mOk.gs (S := S) (oim_mp_below (S := S)) (c8.ok Mc4.2.1)
  have Mc8 : mAt h6 n7 (stOf S (sp_below S (xs (i + 1)) (xs (i + 2)))) (tc8) := by rw [stOf_q qst_sp_below]; rw [show (mp_below S (xs (i + 1)) (xs (i + 2))).2.2 = S from qst_mp_below] at c8m; exact c8m
  have Cc8 := cAt.fr2 Cc4 (fun j hj => c8e j (Or.inl hj))
  have Oc8 := (c8e 38 (Or.inr rfl)).trans c4d
  rw [c8a]
  show mT _ _ _ _ 1551 [.retAddr 0, .ref 0, .ref 27, .ref 38, .int (nI i), .int (nI ((sp_below S (xs (i + 1)) (xs (i + 2))).1)), .double 0] [.int xc8] _ _ _ _
  refine mp_istore dL_law_1551 (ls' := [.retAddr 0, .ref 0, .ref 27, .ref 38, .int (nI i), .int (nI ((sp_below S (xs (i + 1)) (xs (i + 2))).1)), .int xc8]) rfl (by decide) rfl ?_
  refine mt_goto dL_law_1553 (tgt := 2003) rfl ?_
  refine mt_drop 5 (ls' := [.retAddr 0, .ref 0, .ref 27, .ref 38, .int (nI i), .double 0, .int xc8]) rfl ?_
  refine mt_drop 6 (ls' := [.retAddr 0, .ref 0, .ref 27, .ref 38, .int (nI i), .double 0, .double 0]) rfl ?_
  refine mt_widen (cc' := cc + 9000) (sc' := sc + 62000) (by simp only [rL_below, rX4_below]; omega) (by simp only [rL_below, rX4_below]; omega) ?_
  exact kk _ _ _ _ _ _ Cc8 Mc8 Oc8
theorem oim_mp_first {S : cS} {row : Int32} {key : Int32} {isLast : Bool} : oI vI true true (mp_first S row key isLast) := by
  unfold mp_first
  repeat' first | exact Or.inl ⟨rfl, _, rfl⟩ | exact Or.inr (Or.inr ⟨rfl, rfl⟩) | exact Or.inr (Or.inl ⟨rfl, rfl⟩) | refine dAt_o (fun r => ?_) | refine dArg_o (fun r => ?_) | refine dFit_o ?_ | refine dB_o (fun r => ?_) | refine dKeep_o (fun p t => ?_) | split
set_option maxRecDepth 100000 in
set_option maxHeartbeats 2000000 in
theorem tL_c34 {l : Launch} (hl : l.stackTraces = false) {L : Nat} {xs : Nat → Int32} : lawCase l L xs 1556 := by
  intro i h n S th y s cc sc hi6 hL C M O hcc hsc kk
  have hS := lenOk_of C
  show mT _ _ _ _ 1556 [.retAddr 0, .ref 0, .ref 27, .ref 38, .int (nI i), .double 0, .double 0] [] _ _ _ _
  refine mt_aload_n dL_law_1556 rfl rfl ?_
  refine mt_aload_n dL_law_1557 rfl rfl ?_
  refine mt_iload dL_law_1558 rfl ?_
  refine mt_iconst dL_law_1560 (v := nI 1) rfl ?_
  refine mp_iadd dL_law_1561 (v := nI (i + 1)) (nI_add _ _) ?_
  refine mx_ld dL_law_1562 rfl (j := i + 1) (by omega) (by omega) ?_
  refine mt_aload_n dL_law_1563 rfl rfl ?_
  refine mt_iload dL_law_1564 rfl ?_
  refine mt_iconst dL_law_1566 (v := nI 2) rfl ?_
  refine mp_iadd dL_law_1567 (v := nI (i + 2)) (nI_add _ _) ?_
  refine mx_ld dL_law_1568 rfl (j := i + 2) (by omega) (by omega) ?_
  refine mt_aload_n dL_law_1569 rfl rfl ?_
  refine mt_iload dL_law_1570 rfl ?_
  refine mt_iconst dL_law_1572 (v := nI 3) rfl ?_
  refine mp_iadd dL_law_1573 (v := nI (i + 3)) (nI_add _ _) ?_
  refine mx_ld dL_law_1574 rfl (j := i + 3) (by omega) (by omega) ?_
  refine mt_if_eq dL_law_1575 (tgt := 1582) rfl (fun q1 => ?_) (fun q1 => ?_)
  · refine mt_iconst dL_law_1582 (v := nI 0) rfl ?_
    refine mt_aload_n dL_law_1583 rfl rfl ?_
    refine mt_callSW (N := mL_first) (Rc := rL_first) (As := [.ref 0, .int (xs (i + 1)), .int (xs (i + 2)), .int (nI 0), .ref 38]) (st := []) dL_law_1584 (kL_first (isLast := false) hl C O) sL_first mw_973 rfl (Nat.le_of_ble_eq_true rfl) ⟨⟨Nat.le_of_ble_eq_true rfl, Nat.le_of_ble_eq_true rfl⟩, (by simp only [rL_first, rX4_first, room_1]; omega), (by simp only [rL_first, rX4_first, room_1]; omega)⟩ (fun v2 h3 n4 c5 => ?_) (fun _ _ _ hx => hx.elim)
    obtain ⟨c5a, c5b, c5c, ⟨yc5, c5d, c5z⟩, c5e⟩ := c5
    rw [c5a, c5b]
    have Cc5 : cAt h3 (stOf S (sp_first S (xs (i + 1)) (xs (i + 2)) false)) := c5c
    have Mc5 := mAt.fr M (Nat.le_refl _) c5e
    show mT _ _ _ _ 1587 [.retAddr 0, .ref 0, .ref 27, .ref 38, .int (nI i), .double 0, .double 0] [.int (nI ((sp_first S (xs (i + 1)) (xs (i + 2)) false).1))] _ _ _ _
    refine mp_istore dL_law_1587 (ls' := [.retAddr 0, .ref 0, .ref 27, .ref 38, .int (nI i), .int (nI ((sp_first S (xs (i + 1)) (xs (i + 2)) false).1)), .double 0]) rfl (by decide) rfl ?_
    refine mt_aload_n dL_law_1589 rfl rfl ?_
    refine mt_aload_n dL_law_1590 rfl rfl ?_
    refine mt_iload dL_law_1591 rfl ?_
    refine mt_iconst dL_law_1593 (v := nI 1) rfl ?_
    refine mp_iadd dL_law_1594 (v := nI (i + 1)) (nI_add _ _) ?_
    refine mx_ld dL_law_1595 rfl (j := i + 1) (by omega) (by omega) ?_
    refine mt_aload_n dL_law_1596 rfl rfl ?_
    refine mt_iload dL_law_1597 rfl ?_
    refine mt_iconst dL_law_1599 (v := nI 2) rfl ?_
    refine mp_iadd dL_law_1600 (v := nI (i + 2)) (nI_add _ _) ?_
    refine mx_ld dL_law_1601 rfl (j := i + 2) (by omega) (by omega) ?_
    refine mt_aload_n dL_law_1602 rfl rfl ?_
    refine mt_iload dL_law_1603 rfl ?_
    refine mt_iconst dL_law_1605 (v := nI 3) rfl ?_
    refine mp_iadd dL_law_1606 (v := nI (i + 3)) (nI_add _ _) ?_
    refine mx_ld dL_law_1607 rfl (j := i + 3) (by omega) (by omega) ?_
    refine mt_if_eq dL_law_1608 (tgt := 1615) rfl (fun q6 => ?_) (fun q6 => ?_)
    · refine mt_iconst dL_law_1615 (v := nI 0) rfl ?_
      refine mt_callV (N := mX4_first) (Rc := rX4_first) (As := [.int (xs (i + 1)), .int (xs (i + 2)), .int (nI 0)]) (st := []) dL_law_1616 (kX4_first (isLast := false) hl Mc5) sX4_first mw_1307 mKX4 rfl Mc5.1 rfl (Nat.le_of_ble_eq_true rfl) ⟨⟨Nat.le_of_ble_eq_true rfl, Nat.le_of_ble_eq_true rfl⟩, (by simp only [rL_first, rX4_first, room_1]; omega), (by simp only [rL_first, rX4_first, room_1]; omega)⟩ (fun v7 h8 n9 c10 => ?_) (fun _ _ _ hx => hx.elim)
      obtain ⟨xc10, tc10, c10a, c10b, c10m, c10e⟩ := mOk.gs (S := S) (oim_mp_first (S := S)) (c10.ok Mc5.2.1)
      have Mc10 : mAt h8 n9 (stOf S (sp_first S (xs (i + 1)) (xs (i + 2)) false)) (tc10) := by rw [stOf_q qst_sp_first]; rw [show (mp_first S (xs (i + 1)) (xs (i + 2)) false).2.2 = S from qst_mp_first] at c10m; exact c10m
      have Cc10 := cAt.fr2 Cc5 (fun j hj => c10e j (Or.inl hj))
      have Oc10 := (c10e 38 (Or.inr rfl)).trans c5d
      rw [c10a]
      show mT _ _ _ _ 1619 [.retAddr 0, .ref 0, .ref 27, .ref 38, .int (nI i), .int (nI ((sp_first S (xs (i + 1)) (xs (i + 2)) false).1)), .double 0] [.int xc10] _ _ _ _
      refine mp_istore dL_law_1619 (ls' := [.retAddr 0, .ref 0, .ref 27, .ref 38, .int (nI i), .int (nI ((sp_first S (xs (i + 1)) (xs (i + 2)) false).1)), .int xc10]) rfl (by decide) rfl ?_
      refine mt_goto dL_law_1621 (tgt := 2003) rfl ?_
      refine mt_drop 5 (ls' := [.retAddr 0, .ref 0, .ref 27, .ref 38, .int (nI i), .double 0, .int xc10]) rfl ?_
      refine mt_drop 6 (ls' := [.retAddr 0, .ref 0, .ref 27, .ref 38, .int (nI i), .double 0, .double 0]) rfl ?_
      refine mt_widen (cc' := cc + 9000) (sc' := sc + 62000) (by simp only [rL_first, rX4_first]; omega) (by simp only [rL_first, rX4_first]; omega) ?_
      exact kk _ _ _ _ _ _ Cc10 Mc10 Oc10
    · refine mt_iconst dL_law_1611 (v := nI 1) rfl ?_
      refine mt_goto dL_law_1612 (tgt := 1616) rfl ?_
      refine mt_callV (N := mX4_first) (Rc := rX4_first) (As := [.int (xs (i + 1)), .int (xs (i + 2)), .int (nI 1)]) (st := []) dL_law_1616 (kX4_first (isLast := true) hl Mc5) sX4_first mw_1307 mKX4 rfl Mc5.1 rfl (Nat.le_of_ble_eq_true rfl) ⟨⟨Nat.le_of_ble_eq_true rfl, Nat.le_of_ble_eq_true rfl⟩, (by simp only [rL_first, rX4_first, room_1]; omega), (by simp only [rL_first, rX4_first, room_1]; omega)⟩ (fun v11 h12 n13 c14 => ?_) (fun _ _ _ hx => hx.elim)
      obtain ⟨xc14, tc14, c14a, c14b, c14m, c14e⟩ := mOk.gs (S := S) (oim_mp_first (S := S)) (c14.ok Mc5.2.1)
      have Mc14 : mAt h12 n13 (stOf S (sp_first S (xs (i + 1)) (xs (i + 2)) false)) (tc14) := by rw [stOf_q qst_sp_first]; rw [show (mp_first S (xs (i + 1)) (xs (i + 2)) true).2.2 = S from qst_mp_first] at c14m; exact c14m
      have Cc14 := cAt.fr2 Cc5 (fun j hj => c14e j (Or.inl hj))
      have Oc14 := (c14e 38 (Or.inr rfl)).trans c5d
      rw [c14a]
      show mT _ _ _ _ 1619 [.retAddr 0, .ref 0, .ref 27, .ref 38, .int (nI i), .int (nI ((sp_first S (xs (i + 1)) (xs (i + 2)) false).1)), .double 0] [.int xc14] _ _ _ _
      refine mp_istore dL_law_1619 (ls' := [.retAddr 0, .ref 0, .ref 27, .ref 38, .int (nI i), .int (nI ((sp_first S (xs (i + 1)) (xs (i + 2)) false).1)), .int xc14]) rfl (by decide) rfl ?_
      refine mt_goto dL_law_1621 (tgt := 2003) rfl ?_
      refine mt_drop 5 (ls' := [.retAddr 0, .ref 0, .ref 27, .ref 38, .int (nI i), .double 0, .int xc14]) rfl ?_
      refine mt_drop 6 (ls' := [.retAddr 0, .ref 0, .ref 27, .ref 38, .int (nI i), .double 0, .double 0]) rfl ?_
      refine mt_widen (cc' := cc + 9000) (sc' := sc + 62000) (by simp only [rL_first, rX4_first]; omega) (by simp only [rL_first, rX4_first]; omega) ?_
      exact kk _ _ _ _ _ _ Cc14 Mc14 Oc14
  · refine mt_iconst dL_law_1578 (v := nI 1) rfl ?_
    refine mt_goto dL_law_1579 (tgt := 1583) rfl ?_
    refine mt_aload_n dL_law_1583 rfl rfl ?_
    refine mt_callSW (N := mL_first) (Rc := rL_first) (As := [.ref 0, .int (xs (i + 1)), .int (xs (i + 2)), .int (nI 1), .ref 38]) (st := []) dL_law_1584 (kL_first (isLast := true) hl C O) sL_first mw_973 rfl (Nat.le_of_ble_eq_true rfl) ⟨⟨Nat.le_of_ble_eq_true rfl, Nat.le_of_ble_eq_true rfl⟩, (by simp only [rL_first, rX4_first, room_1]; omega), (by simp only [rL_first, rX4_first, room_1]; omega)⟩ (fun v15 h16 n17 c18 => ?_) (fun _ _ _ hx => hx.elim)
    obtain ⟨c18a, c18b, c18c, ⟨yc18, c18d, c18z⟩, c18e⟩ := c18
    rw [c18a, c18b]
    have Cc18 : cAt h16 (stOf S (sp_first S (xs (i + 1)) (xs (i + 2)) true)) := c18c
    have Mc18 := mAt.fr M (Nat.le_refl _) c18e
    show mT _ _ _ _ 1587 [.retAddr 0, .ref 0, .ref 27, .ref 38, .int (nI i), .double 0, .double 0] [.int (nI ((sp_first S (xs (i + 1)) (xs (i + 2)) true).1))] _ _ _ _
    refine mp_istore dL_law_1587 (ls' := [.retAddr 0, .ref 0, .ref 27, .ref 38, .int (nI i), .int (nI ((sp_first S (xs (i + 1)) (xs (i + 2)) true).1)), .double 0]) rfl (by decide) rfl ?_
    refine mt_aload_n dL_law_1589 rfl rfl ?_
    refine mt_aload_n dL_law_1590 rfl rfl ?_
    refine mt_iload dL_law_1591 rfl ?_
    refine mt_iconst dL_law_1593 (v := nI 1) rfl ?_
    refine mp_iadd dL_law_1594 (v := nI (i + 1)) (nI_add _ _) ?_
    refine mx_ld dL_law_1595 rfl (j := i + 1) (by omega) (by omega) ?_
    refine mt_aload_n dL_law_1596 rfl rfl ?_
    refine mt_iload dL_law_1597 rfl ?_
    refine mt_iconst dL_law_1599 (v := nI 2) rfl ?_
    refine mp_iadd dL_law_1600 (v := nI (i + 2)) (nI_add _ _) ?_
    refine mx_ld dL_law_1601 rfl (j := i + 2) (by omega) (by omega) ?_
    refine mt_aload_n dL_law_1602 rfl rfl ?_
    refine mt_iload dL_law_1603 rfl ?_
    refine mt_iconst dL_law_1605 (v := nI 3) rfl ?_
    refine mp_iadd dL_law_1606 (v := nI (i + 3)) (nI_add _ _) ?_
    refine mx_ld dL_law_1607 rfl (j := i + 3) (by omega) (by omega) ?_
    refine mt_if_eq dL_law_1608 (tgt := 1615) rfl (fun q19 => ?_) (fun q19 => ?_)
    · refine mt_iconst dL_law_1615 (v := nI 0) rfl ?_
      refine mt_callV (N := mX4_first) (Rc := rX4_first) (As := [.int (xs (i + 1)), .int (xs (i + 2)), .int (nI 0)]) (st := []) dL_law_1616 (kX4_first (isLast := false) hl Mc18) sX4_first mw_1307 mKX4 rfl Mc18.1 rfl (Nat.le_of_ble_eq_true rfl) ⟨⟨Nat.le_of_ble_eq_true rfl, Nat.le_of_ble_eq_true rfl⟩, (by simp only [rL_first, rX4_first, room_1]; omega), (by simp only [rL_first, rX4_first, room_1]; omega)⟩ (fun v20 h21 n22 c23 => ?_) (fun _ _ _ hx => hx.elim)
      obtain ⟨xc23, tc23, c23a, c23b, c23m, c23e⟩ := mOk.gs (S := S) (oim_mp_first (S := S)) (c23.ok Mc18.2.1)
      have Mc23 : mAt h21 n22 (stOf S (sp_first S (xs (i + 1)) (xs (i + 2)) true)) (tc23) := by rw [stOf_q qst_sp_first]; rw [show (mp_first S (xs (i + 1)) (xs (i + 2)) false).2.2 = S from qst_mp_first] at c23m; exact c23m
      have Cc23 := cAt.fr2 Cc18 (fun j hj => c23e j (Or.inl hj))
      have Oc23 := (c23e 38 (Or.inr rfl)).trans c18d
      rw [c23a]
      show mT _ _ _ _ 1619 [.retAddr 0, .ref 0, .ref 27, .ref 38, .int (nI i), .int (nI ((sp_first S (xs (i + 1)) (xs (i + 2)) true).1)), .double 0] [.int xc23] _ _ _ _
      refine mp_istore dL_law_1619 (ls' := [.retAddr 0, .ref 0, .ref 27, .ref 38, .int (nI i), .int (nI ((sp_first S (xs (i + 1)) (xs (i + 2)) true).1)), .int xc23]) rfl (by decide) rfl ?_
      refine mt_goto dL_law_1621 (tgt := 2003) rfl ?_
      refine mt_drop 5 (ls' := [.retAddr 0, .ref 0, .ref 27, .ref 38, .int (nI i), .double 0, .int xc23]) rfl ?_
      refine mt_drop 6 (ls' := [.retAddr 0, .ref 0, .ref 27, .ref 38, .int (nI i), .double 0, .double 0]) rfl ?_
      refine mt_widen (cc' := cc + 9000) (sc' := sc + 62000) (by simp only [rL_first, rX4_first]; omega) (by simp only [rL_first, rX4_first]; omega) ?_
      exact kk _ _ _ _ _ _ Cc23 Mc23 Oc23
    · refine mt_iconst dL_law_1611 (v := nI 1) rfl ?_
      refine mt_goto dL_law_1612 (tgt := 1616) rfl ?_
      refine mt_callV (N := mX4_first) (Rc := rX4_first) (As := [.int (xs (i + 1)), .int (xs (i + 2)), .int (nI 1)]) (st := []) dL_law_1616 (kX4_first (isLast := true) hl Mc18) sX4_first mw_1307 mKX4 rfl Mc18.1 rfl (Nat.le_of_ble_eq_true rfl) ⟨⟨Nat.le_of_ble_eq_true rfl, Nat.le_of_ble_eq_true rfl⟩, (by simp only [rL_first, rX4_first, room_1]; omega), (by simp only [rL_first, rX4_first, room_1]; omega)⟩ (fun v24 h25 n26 c27 => ?_) (fun _ _ _ hx => hx.elim)
      obtain ⟨xc27, tc27, c27a, c27b, c27m, c27e⟩ := mOk.gs (S := S) (oim_mp_first (S := S)) (c27.ok Mc18.2.1)
      have Mc27 : mAt h25 n26 (stOf S (sp_first S (xs (i + 1)) (xs (i + 2)) true)) (tc27) := by rw [stOf_q qst_sp_first]; rw [show (mp_first S (xs (i + 1)) (xs (i + 2)) true).2.2 = S from qst_mp_first] at c27m; exact c27m
      have Cc27 := cAt.fr2 Cc18 (fun j hj => c27e j (Or.inl hj))
      have Oc27 := (c27e 38 (Or.inr rfl)).trans c18d
      rw [c27a]
      show mT _ _ _ _ 1619 [.retAddr 0, .ref 0, .ref 27, .ref 38, .int (nI i), .int (nI ((sp_first S (xs (i + 1)) (xs (i + 2)) true).1)), .double 0] [.int xc27] _ _ _ _
      refine mp_istore dL_law_1619 (ls' := [.retAddr 0, .ref 0, .ref 27, .ref 38, .int (nI i), .int (nI ((sp_first S (xs (i + 1)) (xs (i + 2)) true).1)), .int xc27]) rfl (by decide) rfl ?_
      refine mt_goto dL_law_1621 (tgt := 2003) rfl ?_
      refine mt_drop 5 (ls' := [.retAddr 0, .ref 0, .ref 27, .ref 38, .int (nI i), .double 0, .int xc27]) rfl ?_
      refine mt_drop 6 (ls' := [.retAddr 0, .ref 0, .ref 27, .ref 38, .int (nI i), .double 0, .double 0]) rfl ?_
      refine mt_widen (cc' := cc + 9000) (sc' := sc + 62000) (by simp only [rL_first, rX4_first]; omega) (by simp only [rL_first, rX4_first]; omega) ?_
      exact kk _ _ _ _ _ _ Cc27 Mc27 Oc27
theorem oim_mp_end {S : cS} {row : Int32} {isGreatest : Bool} : oI vI true true (mp_end S row isGreatest) := by
  unfold mp_end
  repeat' first | exact Or.inl ⟨rfl, _, rfl⟩ | exact Or.inr (Or.inr ⟨rfl, rfl⟩) | exact Or.inr (Or.inl ⟨rfl, rfl⟩) | refine dAt_o (fun r => ?_) | refine dArg_o (fun r => ?_) | refine dFit_o ?_ | refine dB_o (fun r => ?_) | refine dKeep_o (fun p t => ?_) | split
set_option maxRecDepth 100000 in
set_option maxHeartbeats 2000000 in
theorem tL_c35 {l : Launch} (hl : l.stackTraces = false) {L : Nat} {xs : Nat → Int32} : lawCase l L xs 1624 := by
  intro i h n S th y s cc sc hi6 hL C M O hcc hsc kk
  have hS := lenOk_of C
  show mT _ _ _ _ 1624 [.retAddr 0, .ref 0, .ref 27, .ref 38, .int (nI i), .double 0, .double 0] [] _ _ _ _
  refine mt_aload_n dL_law_1624 rfl rfl ?_
  refine mt_aload_n dL_law_1625 rfl rfl ?_
  refine mt_iload dL_law_1626 rfl ?_
  refine mt_iconst dL_law_1628 (v := nI 1) rfl ?_
  refine mp_iadd dL_law_1629 (v := nI (i + 1)) (nI_add _ _) ?_
  refine mx_ld dL_law_1630 rfl (j := i + 1) (by omega) (by omega) ?_
  refine mt_aload_n dL_law_1631 rfl rfl ?_
  refine mt_iload dL_law_1632 rfl ?_
  refine mt_iconst dL_law_1634 (v := nI 2) rfl ?_
  refine mp_iadd dL_law_1635 (v := nI (i + 2)) (nI_add _ _) ?_
  refine mx_ld dL_law_1636 rfl (j := i + 2) (by omega) (by omega) ?_
  refine mt_if_eq dL_law_1637 (tgt := 1644) rfl (fun q1 => ?_) (fun q1 => ?_)
  · refine mt_iconst dL_law_1644 (v := nI 0) rfl ?_
    refine mt_aload_n dL_law_1645 rfl rfl ?_
    refine mt_callSW (N := mL_end) (Rc := rL_end) (As := [.ref 0, .int (xs (i + 1)), .int (nI 0), .ref 38]) (st := []) dL_law_1646 (kL_end (isGreatest := false) hl C O) sL_end mw_988 rfl (Nat.le_of_ble_eq_true rfl) ⟨⟨Nat.le_of_ble_eq_true rfl, Nat.le_of_ble_eq_true rfl⟩, (by simp only [rL_end, rX4_end, room_1]; omega), (by simp only [rL_end, rX4_end, room_1]; omega)⟩ (fun v2 h3 n4 c5 => ?_) (fun _ _ _ hx => hx.elim)
    obtain ⟨c5a, c5b, c5c, ⟨yc5, c5d, c5z⟩, c5e⟩ := c5
    rw [c5a, c5b]
    have Cc5 : cAt h3 (stOf S (sp_end S (xs (i + 1)) false)) := c5c
    have Mc5 := mAt.fr M (Nat.le_refl _) c5e
    show mT _ _ _ _ 1649 [.retAddr 0, .ref 0, .ref 27, .ref 38, .int (nI i), .double 0, .double 0] [.int (nI ((sp_end S (xs (i + 1)) false).1))] _ _ _ _
    refine mp_istore dL_law_1649 (ls' := [.retAddr 0, .ref 0, .ref 27, .ref 38, .int (nI i), .int (nI ((sp_end S (xs (i + 1)) false).1)), .double 0]) rfl (by decide) rfl ?_
    refine mt_aload_n dL_law_1651 rfl rfl ?_
    refine mt_aload_n dL_law_1652 rfl rfl ?_
    refine mt_iload dL_law_1653 rfl ?_
    refine mt_iconst dL_law_1655 (v := nI 1) rfl ?_
    refine mp_iadd dL_law_1656 (v := nI (i + 1)) (nI_add _ _) ?_
    refine mx_ld dL_law_1657 rfl (j := i + 1) (by omega) (by omega) ?_
    refine mt_aload_n dL_law_1658 rfl rfl ?_
    refine mt_iload dL_law_1659 rfl ?_
    refine mt_iconst dL_law_1661 (v := nI 2) rfl ?_
    refine mp_iadd dL_law_1662 (v := nI (i + 2)) (nI_add _ _) ?_
    refine mx_ld dL_law_1663 rfl (j := i + 2) (by omega) (by omega) ?_
    refine mt_if_eq dL_law_1664 (tgt := 1671) rfl (fun q6 => ?_) (fun q6 => ?_)
    · refine mt_iconst dL_law_1671 (v := nI 0) rfl ?_
      refine mt_callV (N := mX4_end) (Rc := rX4_end) (As := [.int (xs (i + 1)), .int (nI 0)]) (st := []) dL_law_1672 (kX4_end (isGreatest := false) hl Mc5) sX4_end mw_1311 mKX4 rfl Mc5.1 rfl (Nat.le_of_ble_eq_true rfl) ⟨⟨Nat.le_of_ble_eq_true rfl, Nat.le_of_ble_eq_true rfl⟩, (by simp only [rL_end, rX4_end, room_1]; omega), (by simp only [rL_end, rX4_end, room_1]; omega)⟩ (fun v7 h8 n9 c10 => ?_) (fun _ _ _ hx => hx.elim)
      obtain ⟨xc10, tc10, c10a, c10b, c10m, c10e⟩ := mOk.gs (S := S) (oim_mp_end (S := S)) (c10.ok Mc5.2.1)
      have Mc10 : mAt h8 n9 (stOf S (sp_end S (xs (i + 1)) false)) (tc10) := by rw [stOf_q qst_sp_end]; rw [show (mp_end S (xs (i + 1)) false).2.2 = S from qst_mp_end] at c10m; exact c10m
      have Cc10 := cAt.fr2 Cc5 (fun j hj => c10e j (Or.inl hj))
      have Oc10 := (c10e 38 (Or.inr rfl)).trans c5d
      rw [c10a]
      show mT _ _ _ _ 1675 [.retAddr 0, .ref 0, .ref 27, .ref 38, .int (nI i), .int (nI ((sp_end S (xs (i + 1)) false).1)), .double 0] [.int xc10] _ _ _ _
      refine mp_istore dL_law_1675 (ls' := [.retAddr 0, .ref 0, .ref 27, .ref 38, .int (nI i), .int (nI ((sp_end S (xs (i + 1)) false).1)), .int xc10]) rfl (by decide) rfl ?_
      refine mt_goto dL_law_1677 (tgt := 2003) rfl ?_
      refine mt_drop 5 (ls' := [.retAddr 0, .ref 0, .ref 27, .ref 38, .int (nI i), .double 0, .int xc10]) rfl ?_
      refine mt_drop 6 (ls' := [.retAddr 0, .ref 0, .ref 27, .ref 38, .int (nI i), .double 0, .double 0]) rfl ?_
      refine mt_widen (cc' := cc + 9000) (sc' := sc + 62000) (by simp only [rL_end, rX4_end]; omega) (by simp only [rL_end, rX4_end]; omega) ?_
      exact kk _ _ _ _ _ _ Cc10 Mc10 Oc10
    · refine mt_iconst dL_law_1667 (v := nI 1) rfl ?_
      refine mt_goto dL_law_1668 (tgt := 1672) rfl ?_
      refine mt_callV (N := mX4_end) (Rc := rX4_end) (As := [.int (xs (i + 1)), .int (nI 1)]) (st := []) dL_law_1672 (kX4_end (isGreatest := true) hl Mc5) sX4_end mw_1311 mKX4 rfl Mc5.1 rfl (Nat.le_of_ble_eq_true rfl) ⟨⟨Nat.le_of_ble_eq_true rfl, Nat.le_of_ble_eq_true rfl⟩, (by simp only [rL_end, rX4_end, room_1]; omega), (by simp only [rL_end, rX4_end, room_1]; omega)⟩ (fun v11 h12 n13 c14 => ?_) (fun _ _ _ hx => hx.elim)
      obtain ⟨xc14, tc14, c14a, c14b, c14m, c14e⟩ := mOk.gs (S := S) (oim_mp_end (S := S)) (c14.ok Mc5.2.1)
      have Mc14 : mAt h12 n13 (stOf S (sp_end S (xs (i + 1)) false)) (tc14) := by rw [stOf_q qst_sp_end]; rw [show (mp_end S (xs (i + 1)) true).2.2 = S from qst_mp_end] at c14m; exact c14m
      have Cc14 := cAt.fr2 Cc5 (fun j hj => c14e j (Or.inl hj))
      have Oc14 := (c14e 38 (Or.inr rfl)).trans c5d
      rw [c14a]
      show mT _ _ _ _ 1675 [.retAddr 0, .ref 0, .ref 27, .ref 38, .int (nI i), .int (nI ((sp_end S (xs (i + 1)) false).1)), .double 0] [.int xc14] _ _ _ _
      refine mp_istore dL_law_1675 (ls' := [.retAddr 0, .ref 0, .ref 27, .ref 38, .int (nI i), .int (nI ((sp_end S (xs (i + 1)) false).1)), .int xc14]) rfl (by decide) rfl ?_
      refine mt_goto dL_law_1677 (tgt := 2003) rfl ?_
      refine mt_drop 5 (ls' := [.retAddr 0, .ref 0, .ref 27, .ref 38, .int (nI i), .double 0, .int xc14]) rfl ?_
      refine mt_drop 6 (ls' := [.retAddr 0, .ref 0, .ref 27, .ref 38, .int (nI i), .double 0, .double 0]) rfl ?_
      refine mt_widen (cc' := cc + 9000) (sc' := sc + 62000) (by simp only [rL_end, rX4_end]; omega) (by simp only [rL_end, rX4_end]; omega) ?_
      exact kk _ _ _ _ _ _ Cc14 Mc14 Oc14
  · refine mt_iconst dL_law_1640 (v := nI 1) rfl ?_
    refine mt_goto dL_law_1641 (tgt := 1645) rfl ?_
    refine mt_aload_n dL_law_1645 rfl rfl ?_
    refine mt_callSW (N := mL_end) (Rc := rL_end) (As := [.ref 0, .int (xs (i + 1)), .int (nI 1), .ref 38]) (st := []) dL_law_1646 (kL_end (isGreatest := true) hl C O) sL_end mw_988 rfl (Nat.le_of_ble_eq_true rfl) ⟨⟨Nat.le_of_ble_eq_true rfl, Nat.le_of_ble_eq_true rfl⟩, (by simp only [rL_end, rX4_end, room_1]; omega), (by simp only [rL_end, rX4_end, room_1]; omega)⟩ (fun v15 h16 n17 c18 => ?_) (fun _ _ _ hx => hx.elim)
    obtain ⟨c18a, c18b, c18c, ⟨yc18, c18d, c18z⟩, c18e⟩ := c18
    rw [c18a, c18b]
    have Cc18 : cAt h16 (stOf S (sp_end S (xs (i + 1)) true)) := c18c
    have Mc18 := mAt.fr M (Nat.le_refl _) c18e
    show mT _ _ _ _ 1649 [.retAddr 0, .ref 0, .ref 27, .ref 38, .int (nI i), .double 0, .double 0] [.int (nI ((sp_end S (xs (i + 1)) true).1))] _ _ _ _
    refine mp_istore dL_law_1649 (ls' := [.retAddr 0, .ref 0, .ref 27, .ref 38, .int (nI i), .int (nI ((sp_end S (xs (i + 1)) true).1)), .double 0]) rfl (by decide) rfl ?_
    refine mt_aload_n dL_law_1651 rfl rfl ?_
    refine mt_aload_n dL_law_1652 rfl rfl ?_
    refine mt_iload dL_law_1653 rfl ?_
    refine mt_iconst dL_law_1655 (v := nI 1) rfl ?_
    refine mp_iadd dL_law_1656 (v := nI (i + 1)) (nI_add _ _) ?_
    refine mx_ld dL_law_1657 rfl (j := i + 1) (by omega) (by omega) ?_
    refine mt_aload_n dL_law_1658 rfl rfl ?_
    refine mt_iload dL_law_1659 rfl ?_
    refine mt_iconst dL_law_1661 (v := nI 2) rfl ?_
    refine mp_iadd dL_law_1662 (v := nI (i + 2)) (nI_add _ _) ?_
    refine mx_ld dL_law_1663 rfl (j := i + 2) (by omega) (by omega) ?_
    refine mt_if_eq dL_law_1664 (tgt := 1671) rfl (fun q19 => ?_) (fun q19 => ?_)
    · refine mt_iconst dL_law_1671 (v := nI 0) rfl ?_
      refine mt_callV (N := mX4_end) (Rc := rX4_end) (As := [.int (xs (i + 1)), .int (nI 0)]) (st := []) dL_law_1672 (kX4_end (isGreatest := false) hl Mc18) sX4_end mw_1311 mKX4 rfl Mc18.1 rfl (Nat.le_of_ble_eq_true rfl) ⟨⟨Nat.le_of_ble_eq_true rfl, Nat.le_of_ble_eq_true rfl⟩, (by simp only [rL_end, rX4_end, room_1]; omega), (by simp only [rL_end, rX4_end, room_1]; omega)⟩ (fun v20 h21 n22 c23 => ?_) (fun _ _ _ hx => hx.elim)
      obtain ⟨xc23, tc23, c23a, c23b, c23m, c23e⟩ := mOk.gs (S := S) (oim_mp_end (S := S)) (c23.ok Mc18.2.1)
      have Mc23 : mAt h21 n22 (stOf S (sp_end S (xs (i + 1)) true)) (tc23) := by rw [stOf_q qst_sp_end]; rw [show (mp_end S (xs (i + 1)) false).2.2 = S from qst_mp_end] at c23m; exact c23m
      have Cc23 := cAt.fr2 Cc18 (fun j hj => c23e j (Or.inl hj))
      have Oc23 := (c23e 38 (Or.inr rfl)).trans c18d
      rw [c23a]
      show mT _ _ _ _ 1675 [.retAddr 0, .ref 0, .ref 27, .ref 38, .int (nI i), .int (nI ((sp_end S (xs (i + 1)) true).1)), .double 0] [.int xc23] _ _ _ _
      refine mp_istore dL_law_1675 (ls' := [.retAddr 0, .ref 0, .ref 27, .ref 38, .int (nI i), .int (nI ((sp_end S (xs (i + 1)) true).1)), .int xc23]) rfl (by decide) rfl ?_
      refine mt_goto dL_law_1677 (tgt := 2003) rfl ?_
      refine mt_drop 5 (ls' := [.retAddr 0, .ref 0, .ref 27, .ref 38, .int (nI i), .double 0, .int xc23]) rfl ?_
      refine mt_drop 6 (ls' := [.retAddr 0, .ref 0, .ref 27, .ref 38, .int (nI i), .double 0, .double 0]) rfl ?_
      refine mt_widen (cc' := cc + 9000) (sc' := sc + 62000) (by simp only [rL_end, rX4_end]; omega) (by simp only [rL_end, rX4_end]; omega) ?_
      exact kk _ _ _ _ _ _ Cc23 Mc23 Oc23
    · refine mt_iconst dL_law_1667 (v := nI 1) rfl ?_
      refine mt_goto dL_law_1668 (tgt := 1672) rfl ?_
      refine mt_callV (N := mX4_end) (Rc := rX4_end) (As := [.int (xs (i + 1)), .int (nI 1)]) (st := []) dL_law_1672 (kX4_end (isGreatest := true) hl Mc18) sX4_end mw_1311 mKX4 rfl Mc18.1 rfl (Nat.le_of_ble_eq_true rfl) ⟨⟨Nat.le_of_ble_eq_true rfl, Nat.le_of_ble_eq_true rfl⟩, (by simp only [rL_end, rX4_end, room_1]; omega), (by simp only [rL_end, rX4_end, room_1]; omega)⟩ (fun v24 h25 n26 c27 => ?_) (fun _ _ _ hx => hx.elim)
      obtain ⟨xc27, tc27, c27a, c27b, c27m, c27e⟩ := mOk.gs (S := S) (oim_mp_end (S := S)) (c27.ok Mc18.2.1)
      have Mc27 : mAt h25 n26 (stOf S (sp_end S (xs (i + 1)) true)) (tc27) := by rw [stOf_q qst_sp_end]; rw [show (mp_end S (xs (i + 1)) true).2.2 = S from qst_mp_end] at c27m; exact c27m
      have Cc27 := cAt.fr2 Cc18 (fun j hj => c27e j (Or.inl hj))
      have Oc27 := (c27e 38 (Or.inr rfl)).trans c18d
      rw [c27a]
      show mT _ _ _ _ 1675 [.retAddr 0, .ref 0, .ref 27, .ref 38, .int (nI i), .int (nI ((sp_end S (xs (i + 1)) true).1)), .double 0] [.int xc27] _ _ _ _
      refine mp_istore dL_law_1675 (ls' := [.retAddr 0, .ref 0, .ref 27, .ref 38, .int (nI i), .int (nI ((sp_end S (xs (i + 1)) true).1)), .int xc27]) rfl (by decide) rfl ?_
      refine mt_goto dL_law_1677 (tgt := 2003) rfl ?_
      refine mt_drop 5 (ls' := [.retAddr 0, .ref 0, .ref 27, .ref 38, .int (nI i), .double 0, .int xc27]) rfl ?_
      refine mt_drop 6 (ls' := [.retAddr 0, .ref 0, .ref 27, .ref 38, .int (nI i), .double 0, .double 0]) rfl ?_
      refine mt_widen (cc' := cc + 9000) (sc' := sc + 62000) (by simp only [rL_end, rX4_end]; omega) (by simp only [rL_end, rX4_end]; omega) ?_
      exact kk _ _ _ _ _ _ Cc27 Mc27 Oc27
theorem oim_mp_unlike {S : cS} {row : Int32} : oI vI true true (mp_unlike S row) := by
  unfold mp_unlike
  repeat' first | exact Or.inl ⟨rfl, _, rfl⟩ | exact Or.inr (Or.inr ⟨rfl, rfl⟩) | exact Or.inr (Or.inl ⟨rfl, rfl⟩) | refine dAt_o (fun r => ?_) | refine dArg_o (fun r => ?_) | refine dFit_o ?_ | refine dB_o (fun r => ?_) | refine dKeep_o (fun p t => ?_) | split
set_option maxRecDepth 100000 in
set_option maxHeartbeats 2000000 in
theorem tL_c36 {l : Launch} (hl : l.stackTraces = false) {L : Nat} {xs : Nat → Int32} : lawCase l L xs 1680 := by
  intro i h n S th y s cc sc hi6 hL C M O hcc hsc kk
  have hS := lenOk_of C
  show mT _ _ _ _ 1680 [.retAddr 0, .ref 0, .ref 27, .ref 38, .int (nI i), .double 0, .double 0] [] _ _ _ _
  refine mt_aload_n dL_law_1680 rfl rfl ?_
  refine mt_aload_n dL_law_1681 rfl rfl ?_
  refine mt_iload dL_law_1682 rfl ?_
  refine mt_iconst dL_law_1684 (v := nI 1) rfl ?_
  refine mp_iadd dL_law_1685 (v := nI (i + 1)) (nI_add _ _) ?_
  refine mx_ld dL_law_1686 rfl (j := i + 1) (by omega) (by omega) ?_
  refine mt_aload_n dL_law_1687 rfl rfl ?_
  refine mt_callSW (N := mL_unlike) (Rc := rL_unlike) (As := [.ref 0, .int (xs (i + 1)), .ref 38]) (st := []) dL_law_1688 (kL_unlike hl C O) sL_unlike mw_1004 rfl (Nat.le_of_ble_eq_true rfl) ⟨⟨Nat.le_of_ble_eq_true rfl, Nat.le_of_ble_eq_true rfl⟩, (by simp only [rL_unlike, rX4_unlike_, room_1]; omega), (by simp only [rL_unlike, rX4_unlike_, room_1]; omega)⟩ (fun v1 h2 n3 c4 => ?_) (fun _ _ _ hx => hx.elim)
  obtain ⟨c4a, c4b, c4c, ⟨yc4, c4d, c4z⟩, c4e⟩ := c4
  rw [c4a, c4b]
  have Cc4 : cAt h2 (stOf S (sp_unlike S (xs (i + 1)))) := c4c
  have Mc4 := mAt.fr M (Nat.le_refl _) c4e
  show mT _ _ _ _ 1691 [.retAddr 0, .ref 0, .ref 27, .ref 38, .int (nI i), .double 0, .double 0] [.int (nI ((sp_unlike S (xs (i + 1))).1))] _ _ _ _
  refine mp_istore dL_law_1691 (ls' := [.retAddr 0, .ref 0, .ref 27, .ref 38, .int (nI i), .int (nI ((sp_unlike S (xs (i + 1))).1)), .double 0]) rfl (by decide) rfl ?_
  refine mt_aload_n dL_law_1693 rfl rfl ?_
  refine mt_aload_n dL_law_1694 rfl rfl ?_
  refine mt_iload dL_law_1695 rfl ?_
  refine mt_iconst dL_law_1697 (v := nI 1) rfl ?_
  refine mp_iadd dL_law_1698 (v := nI (i + 1)) (nI_add _ _) ?_
  refine mx_ld dL_law_1699 rfl (j := i + 1) (by omega) (by omega) ?_
  refine mt_callV (N := mX4_unlike_) (Rc := rX4_unlike_) (As := [.int (xs (i + 1))]) (st := []) dL_law_1700 (kX4_unlike_ hl Mc4) sX4_unlike_ mw_1316 mKX4 rfl Mc4.1 rfl (Nat.le_of_ble_eq_true rfl) ⟨⟨Nat.le_of_ble_eq_true rfl, Nat.le_of_ble_eq_true rfl⟩, (by simp only [rL_unlike, rX4_unlike_, room_1]; omega), (by simp only [rL_unlike, rX4_unlike_, room_1]; omega)⟩ (fun v5 h6 n7 c8 => ?_) (fun _ _ _ hx => hx.elim)
  obtain ⟨xc8, tc8, c8a, c8b, c8m, c8e⟩ := mOk.gs (S := S) (oim_mp_unlike (S := S)) (c8.ok Mc4.2.1)
  have Mc8 : mAt h6 n7 (stOf S (sp_unlike S (xs (i + 1)))) (tc8) := by rw [stOf_q qst_sp_unlike]; rw [show (mp_unlike S (xs (i + 1))).2.2 = S from qst_mp_unlike] at c8m; exact c8m
  have Cc8 := cAt.fr2 Cc4 (fun j hj => c8e j (Or.inl hj))
  have Oc8 := (c8e 38 (Or.inr rfl)).trans c4d
  rw [c8a]
  show mT _ _ _ _ 1703 [.retAddr 0, .ref 0, .ref 27, .ref 38, .int (nI i), .int (nI ((sp_unlike S (xs (i + 1))).1)), .double 0] [.int xc8] _ _ _ _
  refine mp_istore dL_law_1703 (ls' := [.retAddr 0, .ref 0, .ref 27, .ref 38, .int (nI i), .int (nI ((sp_unlike S (xs (i + 1))).1)), .int xc8]) rfl (by decide) rfl ?_
  refine mt_goto dL_law_1705 (tgt := 2003) rfl ?_
  refine mt_drop 5 (ls' := [.retAddr 0, .ref 0, .ref 27, .ref 38, .int (nI i), .double 0, .int xc8]) rfl ?_
  refine mt_drop 6 (ls' := [.retAddr 0, .ref 0, .ref 27, .ref 38, .int (nI i), .double 0, .double 0]) rfl ?_
  refine mt_widen (cc' := cc + 9000) (sc' := sc + 62000) (by simp only [rL_unlike, rX4_unlike_]; omega) (by simp only [rL_unlike, rX4_unlike_]; omega) ?_
  exact kk _ _ _ _ _ _ Cc8 Mc8 Oc8
theorem oim_mp_most {S : cS} {row : Int32} : oI vI true true (mp_most S row) := by
  unfold mp_most
  repeat' first | exact Or.inl ⟨rfl, _, rfl⟩ | exact Or.inr (Or.inr ⟨rfl, rfl⟩) | exact Or.inr (Or.inl ⟨rfl, rfl⟩) | refine dAt_o (fun r => ?_) | refine dArg_o (fun r => ?_) | refine dFit_o ?_ | refine dB_o (fun r => ?_) | refine dKeep_o (fun p t => ?_) | split
set_option maxRecDepth 100000 in
set_option maxHeartbeats 2000000 in
theorem tL_c37 {l : Launch} (hl : l.stackTraces = false) {L : Nat} {xs : Nat → Int32} : lawCase l L xs 1708 := by
  intro i h n S th y s cc sc hi6 hL C M O hcc hsc kk
  have hS := lenOk_of C
  show mT _ _ _ _ 1708 [.retAddr 0, .ref 0, .ref 27, .ref 38, .int (nI i), .double 0, .double 0] [] _ _ _ _
  refine mt_aload_n dL_law_1708 rfl rfl ?_
  refine mt_aload_n dL_law_1709 rfl rfl ?_
  refine mt_iload dL_law_1710 rfl ?_
  refine mt_iconst dL_law_1712 (v := nI 1) rfl ?_
  refine mp_iadd dL_law_1713 (v := nI (i + 1)) (nI_add _ _) ?_
  refine mx_ld dL_law_1714 rfl (j := i + 1) (by omega) (by omega) ?_
  refine mt_aload_n dL_law_1715 rfl rfl ?_
  refine mt_callSW (N := mL_most) (Rc := rL_most) (As := [.ref 0, .int (xs (i + 1)), .ref 38]) (st := []) dL_law_1716 (kL_most hl C O) sL_most mw_1008 rfl (Nat.le_of_ble_eq_true rfl) ⟨⟨Nat.le_of_ble_eq_true rfl, Nat.le_of_ble_eq_true rfl⟩, (by simp only [rL_most, rX4_most, room_1]; omega), (by simp only [rL_most, rX4_most, room_1]; omega)⟩ (fun v1 h2 n3 c4 => ?_) (fun _ _ _ hx => hx.elim)
  obtain ⟨c4a, c4b, c4c, ⟨yc4, c4d, c4z⟩, c4e⟩ := c4
  rw [c4a, c4b]
  have Cc4 : cAt h2 (stOf S (sp_most S (xs (i + 1)))) := c4c
  have Mc4 := mAt.fr M (Nat.le_refl _) c4e
  show mT _ _ _ _ 1719 [.retAddr 0, .ref 0, .ref 27, .ref 38, .int (nI i), .double 0, .double 0] [.int (nI ((sp_most S (xs (i + 1))).1))] _ _ _ _
  refine mp_istore dL_law_1719 (ls' := [.retAddr 0, .ref 0, .ref 27, .ref 38, .int (nI i), .int (nI ((sp_most S (xs (i + 1))).1)), .double 0]) rfl (by decide) rfl ?_
  refine mt_aload_n dL_law_1721 rfl rfl ?_
  refine mt_aload_n dL_law_1722 rfl rfl ?_
  refine mt_iload dL_law_1723 rfl ?_
  refine mt_iconst dL_law_1725 (v := nI 1) rfl ?_
  refine mp_iadd dL_law_1726 (v := nI (i + 1)) (nI_add _ _) ?_
  refine mx_ld dL_law_1727 rfl (j := i + 1) (by omega) (by omega) ?_
  refine mt_callV (N := mX4_most) (Rc := rX4_most) (As := [.int (xs (i + 1))]) (st := []) dL_law_1728 (kX4_most hl Mc4) sX4_most mw_1324 mKX4 rfl Mc4.1 rfl (Nat.le_of_ble_eq_true rfl) ⟨⟨Nat.le_of_ble_eq_true rfl, Nat.le_of_ble_eq_true rfl⟩, (by simp only [rL_most, rX4_most, room_1]; omega), (by simp only [rL_most, rX4_most, room_1]; omega)⟩ (fun v5 h6 n7 c8 => ?_) (fun _ _ _ hx => hx.elim)
  obtain ⟨xc8, tc8, c8a, c8b, c8m, c8e⟩ := mOk.gs (S := S) (oim_mp_most (S := S)) (c8.ok Mc4.2.1)
  have Mc8 : mAt h6 n7 (stOf S (sp_most S (xs (i + 1)))) (tc8) := by rw [stOf_q qst_sp_most]; rw [show (mp_most S (xs (i + 1))).2.2 = S from qst_mp_most] at c8m; exact c8m
  have Cc8 := cAt.fr2 Cc4 (fun j hj => c8e j (Or.inl hj))
  have Oc8 := (c8e 38 (Or.inr rfl)).trans c4d
  rw [c8a]
  show mT _ _ _ _ 1731 [.retAddr 0, .ref 0, .ref 27, .ref 38, .int (nI i), .int (nI ((sp_most S (xs (i + 1))).1)), .double 0] [.int xc8] _ _ _ _
  refine mp_istore dL_law_1731 (ls' := [.retAddr 0, .ref 0, .ref 27, .ref 38, .int (nI i), .int (nI ((sp_most S (xs (i + 1))).1)), .int xc8]) rfl (by decide) rfl ?_
  refine mt_goto dL_law_1733 (tgt := 2003) rfl ?_
  refine mt_drop 5 (ls' := [.retAddr 0, .ref 0, .ref 27, .ref 38, .int (nI i), .double 0, .int xc8]) rfl ?_
  refine mt_drop 6 (ls' := [.retAddr 0, .ref 0, .ref 27, .ref 38, .int (nI i), .double 0, .double 0]) rfl ?_
  refine mt_widen (cc' := cc + 9000) (sc' := sc + 62000) (by simp only [rL_most, rX4_most]; omega) (by simp only [rL_most, rX4_most]; omega) ?_
  exact kk _ _ _ _ _ _ Cc8 Mc8 Oc8
theorem oim_mp_sum {S : cS} {row : Int32} : oI vI true true (mp_sum S row) := by
  unfold mp_sum
  repeat' first | exact Or.inl ⟨rfl, _, rfl⟩ | exact Or.inr (Or.inr ⟨rfl, rfl⟩) | exact Or.inr (Or.inl ⟨rfl, rfl⟩) | refine dAt_o (fun r => ?_) | refine dArg_o (fun r => ?_) | refine dFit_o ?_ | refine dB_o (fun r => ?_) | refine dKeep_o (fun p t => ?_) | split
set_option maxRecDepth 100000 in
set_option maxHeartbeats 2000000 in
theorem tL_c38 {l : Launch} (hl : l.stackTraces = false) {L : Nat} {xs : Nat → Int32} : lawCase l L xs 1736 := by
  intro i h n S th y s cc sc hi6 hL C M O hcc hsc kk
  have hS := lenOk_of C
  show mT _ _ _ _ 1736 [.retAddr 0, .ref 0, .ref 27, .ref 38, .int (nI i), .double 0, .double 0] [] _ _ _ _
  refine mt_aload_n dL_law_1736 rfl rfl ?_
  refine mt_aload_n dL_law_1737 rfl rfl ?_
  refine mt_iload dL_law_1738 rfl ?_
  refine mt_iconst dL_law_1740 (v := nI 1) rfl ?_
  refine mp_iadd dL_law_1741 (v := nI (i + 1)) (nI_add _ _) ?_
  refine mx_ld dL_law_1742 rfl (j := i + 1) (by omega) (by omega) ?_
  refine mt_aload_n dL_law_1743 rfl rfl ?_
  refine mt_callSW (N := mL_sum) (Rc := rL_sum) (As := [.ref 0, .int (xs (i + 1)), .ref 38]) (st := []) dL_law_1744 (kL_sum hl C O) sL_sum mw_1019 rfl (Nat.le_of_ble_eq_true rfl) ⟨⟨Nat.le_of_ble_eq_true rfl, Nat.le_of_ble_eq_true rfl⟩, (by simp only [rL_sum, rX4_sum, room_1]; omega), (by simp only [rL_sum, rX4_sum, room_1]; omega)⟩ (fun v1 h2 n3 c4 => ?_) (fun _ _ _ hx => hx.elim)
  obtain ⟨c4a, c4b, c4c, ⟨yc4, c4d, c4z⟩, c4e⟩ := c4
  rw [c4a, c4b]
  have Cc4 : cAt h2 (stOf S (sp_sum S (xs (i + 1)))) := c4c
  have Mc4 := mAt.fr M (Nat.le_refl _) c4e
  show mT _ _ _ _ 1747 [.retAddr 0, .ref 0, .ref 27, .ref 38, .int (nI i), .double 0, .double 0] [.int (nI ((sp_sum S (xs (i + 1))).1))] _ _ _ _
  refine mp_istore dL_law_1747 (ls' := [.retAddr 0, .ref 0, .ref 27, .ref 38, .int (nI i), .int (nI ((sp_sum S (xs (i + 1))).1)), .double 0]) rfl (by decide) rfl ?_
  refine mt_aload_n dL_law_1749 rfl rfl ?_
  refine mt_aload_n dL_law_1750 rfl rfl ?_
  refine mt_iload dL_law_1751 rfl ?_
  refine mt_iconst dL_law_1753 (v := nI 1) rfl ?_
  refine mp_iadd dL_law_1754 (v := nI (i + 1)) (nI_add _ _) ?_
  refine mx_ld dL_law_1755 rfl (j := i + 1) (by omega) (by omega) ?_
  refine mt_callV (N := mX4_sum) (Rc := rX4_sum) (As := [.int (xs (i + 1))]) (st := []) dL_law_1756 (kX4_sum hl Mc4) sX4_sum mw_1328 mKX4 rfl Mc4.1 rfl (Nat.le_of_ble_eq_true rfl) ⟨⟨Nat.le_of_ble_eq_true rfl, Nat.le_of_ble_eq_true rfl⟩, (by simp only [rL_sum, rX4_sum, room_1]; omega), (by simp only [rL_sum, rX4_sum, room_1]; omega)⟩ (fun v5 h6 n7 c8 => ?_) (fun _ _ _ hx => hx.elim)
  obtain ⟨xc8, tc8, c8a, c8b, c8m, c8e⟩ := mOk.gs (S := S) (oim_mp_sum (S := S)) (c8.ok Mc4.2.1)
  have Mc8 : mAt h6 n7 (stOf S (sp_sum S (xs (i + 1)))) (tc8) := by rw [stOf_q qst_sp_sum]; rw [show (mp_sum S (xs (i + 1))).2.2 = S from qst_mp_sum] at c8m; exact c8m
  have Cc8 := cAt.fr2 Cc4 (fun j hj => c8e j (Or.inl hj))
  have Oc8 := (c8e 38 (Or.inr rfl)).trans c4d
  rw [c8a]
  show mT _ _ _ _ 1759 [.retAddr 0, .ref 0, .ref 27, .ref 38, .int (nI i), .int (nI ((sp_sum S (xs (i + 1))).1)), .double 0] [.int xc8] _ _ _ _
  refine mp_istore dL_law_1759 (ls' := [.retAddr 0, .ref 0, .ref 27, .ref 38, .int (nI i), .int (nI ((sp_sum S (xs (i + 1))).1)), .int xc8]) rfl (by decide) rfl ?_
  refine mt_goto dL_law_1761 (tgt := 2003) rfl ?_
  refine mt_drop 5 (ls' := [.retAddr 0, .ref 0, .ref 27, .ref 38, .int (nI i), .double 0, .int xc8]) rfl ?_
  refine mt_drop 6 (ls' := [.retAddr 0, .ref 0, .ref 27, .ref 38, .int (nI i), .double 0, .double 0]) rfl ?_
  refine mt_widen (cc' := cc + 9000) (sc' := sc + 62000) (by simp only [rL_sum, rX4_sum]; omega) (by simp only [rL_sum, rX4_sum]; omega) ?_
  exact kk _ _ _ _ _ _ Cc8 Mc8 Oc8
theorem oim_mp_same {S : cS} {row : Int32} {other : Int32} : oI vI true true (mp_same S row other) := by
  unfold mp_same
  repeat' first | exact Or.inl ⟨rfl, _, rfl⟩ | exact Or.inr (Or.inr ⟨rfl, rfl⟩) | exact Or.inr (Or.inl ⟨rfl, rfl⟩) | refine dAt_o (fun r => ?_) | refine dArg_o (fun r => ?_) | refine dFit_o ?_ | refine dB_o (fun r => ?_) | refine dKeep_o (fun p t => ?_) | split
set_option maxRecDepth 100000 in
set_option maxHeartbeats 2000000 in
theorem tL_c39 {l : Launch} (hl : l.stackTraces = false) {L : Nat} {xs : Nat → Int32} : lawCase l L xs 1764 := by
  intro i h n S th y s cc sc hi6 hL C M O hcc hsc kk
  have hS := lenOk_of C
  show mT _ _ _ _ 1764 [.retAddr 0, .ref 0, .ref 27, .ref 38, .int (nI i), .double 0, .double 0] [] _ _ _ _
  refine mt_aload_n dL_law_1764 rfl rfl ?_
  refine mt_aload_n dL_law_1765 rfl rfl ?_
  refine mt_iload dL_law_1766 rfl ?_
  refine mt_iconst dL_law_1768 (v := nI 1) rfl ?_
  refine mp_iadd dL_law_1769 (v := nI (i + 1)) (nI_add _ _) ?_
  refine mx_ld dL_law_1770 rfl (j := i + 1) (by omega) (by omega) ?_
  refine mt_aload_n dL_law_1771 rfl rfl ?_
  refine mt_iload dL_law_1772 rfl ?_
  refine mt_iconst dL_law_1774 (v := nI 2) rfl ?_
  refine mp_iadd dL_law_1775 (v := nI (i + 2)) (nI_add _ _) ?_
  refine mx_ld dL_law_1776 rfl (j := i + 2) (by omega) (by omega) ?_
  refine mt_aload_n dL_law_1777 rfl rfl ?_
  refine mt_callSW (N := mL_same) (Rc := rL_same) (As := [.ref 0, .int (xs (i + 1)), .int (xs (i + 2)), .ref 38]) (st := []) dL_law_1778 (kL_same hl C O) sL_same mw_1023 rfl (Nat.le_of_ble_eq_true rfl) ⟨⟨Nat.le_of_ble_eq_true rfl, Nat.le_of_ble_eq_true rfl⟩, (by simp only [rL_same, rX4_same, room_1]; omega), (by simp only [rL_same, rX4_same, room_1]; omega)⟩ (fun v1 h2 n3 c4 => ?_) (fun _ _ _ hx => hx.elim)
  obtain ⟨c4a, c4b, c4c, ⟨yc4, c4d, c4z⟩, c4e⟩ := c4
  rw [c4a, c4b]
  have Cc4 : cAt h2 (stOf S (sp_same S (xs (i + 1)) (xs (i + 2)))) := c4c
  have Mc4 := mAt.fr M (Nat.le_refl _) c4e
  show mT _ _ _ _ 1781 [.retAddr 0, .ref 0, .ref 27, .ref 38, .int (nI i), .double 0, .double 0] [.int (nI ((sp_same S (xs (i + 1)) (xs (i + 2))).1))] _ _ _ _
  refine mp_istore dL_law_1781 (ls' := [.retAddr 0, .ref 0, .ref 27, .ref 38, .int (nI i), .int (nI ((sp_same S (xs (i + 1)) (xs (i + 2))).1)), .double 0]) rfl (by decide) rfl ?_
  refine mt_aload_n dL_law_1783 rfl rfl ?_
  refine mt_aload_n dL_law_1784 rfl rfl ?_
  refine mt_iload dL_law_1785 rfl ?_
  refine mt_iconst dL_law_1787 (v := nI 1) rfl ?_
  refine mp_iadd dL_law_1788 (v := nI (i + 1)) (nI_add _ _) ?_
  refine mx_ld dL_law_1789 rfl (j := i + 1) (by omega) (by omega) ?_
  refine mt_aload_n dL_law_1790 rfl rfl ?_
  refine mt_iload dL_law_1791 rfl ?_
  refine mt_iconst dL_law_1793 (v := nI 2) rfl ?_
  refine mp_iadd dL_law_1794 (v := nI (i + 2)) (nI_add _ _) ?_
  refine mx_ld dL_law_1795 rfl (j := i + 2) (by omega) (by omega) ?_
  refine mt_callV (N := mX4_same) (Rc := rX4_same) (As := [.int (xs (i + 1)), .int (xs (i + 2))]) (st := []) dL_law_1796 (kX4_same hl Mc4) sX4_same mw_1332 mKX4 rfl Mc4.1 rfl (Nat.le_of_ble_eq_true rfl) ⟨⟨Nat.le_of_ble_eq_true rfl, Nat.le_of_ble_eq_true rfl⟩, (by simp only [rL_same, rX4_same, room_1]; omega), (by simp only [rL_same, rX4_same, room_1]; omega)⟩ (fun v5 h6 n7 c8 => ?_) (fun _ _ _ hx => hx.elim)
  obtain ⟨xc8, tc8, c8a, c8b, c8m, c8e⟩ := mOk.gs (S := S) (oim_mp_same (S := S)) (c8.ok Mc4.2.1)
  have Mc8 : mAt h6 n7 (stOf S (sp_same S (xs (i + 1)) (xs (i + 2)))) (tc8) := by rw [stOf_q qst_sp_same]; rw [show (mp_same S (xs (i + 1)) (xs (i + 2))).2.2 = S from qst_mp_same] at c8m; exact c8m
  have Cc8 := cAt.fr2 Cc4 (fun j hj => c8e j (Or.inl hj))
  have Oc8 := (c8e 38 (Or.inr rfl)).trans c4d
  rw [c8a]
  show mT _ _ _ _ 1799 [.retAddr 0, .ref 0, .ref 27, .ref 38, .int (nI i), .int (nI ((sp_same S (xs (i + 1)) (xs (i + 2))).1)), .double 0] [.int xc8] _ _ _ _
  refine mp_istore dL_law_1799 (ls' := [.retAddr 0, .ref 0, .ref 27, .ref 38, .int (nI i), .int (nI ((sp_same S (xs (i + 1)) (xs (i + 2))).1)), .int xc8]) rfl (by decide) rfl ?_
  refine mt_goto dL_law_1801 (tgt := 2003) rfl ?_
  refine mt_drop 5 (ls' := [.retAddr 0, .ref 0, .ref 27, .ref 38, .int (nI i), .double 0, .int xc8]) rfl ?_
  refine mt_drop 6 (ls' := [.retAddr 0, .ref 0, .ref 27, .ref 38, .int (nI i), .double 0, .double 0]) rfl ?_
  refine mt_widen (cc' := cc + 9000) (sc' := sc + 62000) (by simp only [rL_same, rX4_same]; omega) (by simp only [rL_same, rX4_same]; omega) ?_
  exact kk _ _ _ _ _ _ Cc8 Mc8 Oc8
theorem oimB_mp_bag {S : cS} {row : Int32} {other : Int32} : oI vB true true (mp_bag S row other) := by
  unfold mp_bag
  repeat' first | exact Or.inl ⟨rfl, _, rfl⟩ | exact Or.inr (Or.inr ⟨rfl, rfl⟩) | exact Or.inr (Or.inl ⟨rfl, rfl⟩) | refine dAt_o (fun r => ?_) | refine dArg_o (fun r => ?_) | refine dFit_o ?_ | refine dB_o (fun r => ?_) | refine dKeep_o (fun p t => ?_) | split
set_option maxRecDepth 100000 in
set_option maxHeartbeats 2000000 in
theorem tL_c40 {l : Launch} (hl : l.stackTraces = false) {L : Nat} {xs : Nat → Int32} : lawCase l L xs 1804 := by
  intro i h n S th y s cc sc hi6 hL C M O hcc hsc kk
  have hS := lenOk_of C
  show mT _ _ _ _ 1804 [.retAddr 0, .ref 0, .ref 27, .ref 38, .int (nI i), .double 0, .double 0] [] _ _ _ _
  refine mt_aload_n dL_law_1804 rfl rfl ?_
  refine mt_aload_n dL_law_1805 rfl rfl ?_
  refine mt_iload dL_law_1806 rfl ?_
  refine mt_iconst dL_law_1808 (v := nI 1) rfl ?_
  refine mp_iadd dL_law_1809 (v := nI (i + 1)) (nI_add _ _) ?_
  refine mx_ld dL_law_1810 rfl (j := i + 1) (by omega) (by omega) ?_
  refine mt_aload_n dL_law_1811 rfl rfl ?_
  refine mt_iload dL_law_1812 rfl ?_
  refine mt_iconst dL_law_1814 (v := nI 2) rfl ?_
  refine mp_iadd dL_law_1815 (v := nI (i + 2)) (nI_add _ _) ?_
  refine mx_ld dL_law_1816 rfl (j := i + 2) (by omega) (by omega) ?_
  refine mt_aload_n dL_law_1817 rfl rfl ?_
  refine mt_callSW (N := mL_bag) (Rc := rL_bag) (As := [.ref 0, .int (xs (i + 1)), .int (xs (i + 2)), .ref 38]) (st := []) dL_law_1818 (kL_bag hl C O) sL_bag mw_1030 rfl (Nat.le_of_ble_eq_true rfl) ⟨⟨Nat.le_of_ble_eq_true rfl, Nat.le_of_ble_eq_true rfl⟩, (by simp only [rL_bag, rX4_bag, rX4_thrown, room_1]; omega), (by simp only [rL_bag, rX4_bag, rX4_thrown, room_1]; omega)⟩ (fun v1 h2 n3 c4 => ?_) (fun _ _ _ hx => hx.elim)
  obtain ⟨c4a, c4b, c4c, ⟨yc4, c4d, c4z⟩, c4e⟩ := c4
  rw [c4a, c4b]
  have Cc4 : cAt h2 (stOf S (sp_bag S (xs (i + 1)) (xs (i + 2)))) := c4c
  have Mc4 := mAt.fr M (Nat.le_refl _) c4e
  show mT _ _ _ _ 1821 [.retAddr 0, .ref 0, .ref 27, .ref 38, .int (nI i), .double 0, .double 0] [.int (nI ((sp_bag S (xs (i + 1)) (xs (i + 2))).1))] _ _ _ _
  refine mp_istore dL_law_1821 (ls' := [.retAddr 0, .ref 0, .ref 27, .ref 38, .int (nI i), .int (nI ((sp_bag S (xs (i + 1)) (xs (i + 2))).1)), .double 0]) rfl (by decide) rfl ?_
  refine mt_aload_n dL_law_1823 rfl rfl ?_
  refine mt_aload_n dL_law_1824 rfl rfl ?_
  refine mt_iload dL_law_1825 rfl ?_
  refine mt_iconst dL_law_1827 (v := nI 1) rfl ?_
  refine mp_iadd dL_law_1828 (v := nI (i + 1)) (nI_add _ _) ?_
  refine mx_ld dL_law_1829 rfl (j := i + 1) (by omega) (by omega) ?_
  refine mt_aload_n dL_law_1830 rfl rfl ?_
  refine mt_iload dL_law_1831 rfl ?_
  refine mt_iconst dL_law_1833 (v := nI 2) rfl ?_
  refine mp_iadd dL_law_1834 (v := nI (i + 2)) (nI_add _ _) ?_
  refine mx_ld dL_law_1835 rfl (j := i + 2) (by omega) (by omega) ?_
  refine mt_callV (N := mX4_bag) (Rc := rX4_bag) (As := [.int (xs (i + 1)), .int (xs (i + 2))]) (st := []) dL_law_1836 (kX4_bag hl Mc4) sX4_bag mw_1336 mKX4 rfl Mc4.1 rfl (Nat.le_of_ble_eq_true rfl) ⟨⟨Nat.le_of_ble_eq_true rfl, Nat.le_of_ble_eq_true rfl⟩, (by simp only [rL_bag, rX4_bag, rX4_thrown, room_1]; omega), (by simp only [rL_bag, rX4_bag, rX4_thrown, room_1]; omega)⟩ (fun v5 h6 n7 c8 => ?_) (fun _ _ _ hx => hx.elim)
  obtain ⟨c8a, c8b, c8m, c8e⟩ := (c8.ok Mc4.2.1)
  have Mc8 : mAt h6 n7 (stOf S (sp_bag S (xs (i + 1)) (xs (i + 2)))) (nI (mp_bag S (xs (i + 1)) (xs (i + 2))).1) := by rw [stOf_q qst_sp_bag]; rw [show (mp_bag S (xs (i + 1)) (xs (i + 2))).2.2 = S from qst_mp_bag] at c8m; exact c8m
  have Cc8 := cAt.fr2 Cc4 (fun j hj => c8e j (Or.inl hj))
  have Oc8 := (c8e 38 (Or.inr rfl)).trans c4d
  have hE := eqV_bag (S := S) (row := (xs (i + 1))) (other := (xs (i + 2))) hS
  obtain ⟨xc8, hxc8⟩ := oI.int (oimB_mp_bag (S := S) (row := (xs (i + 1))) (other := (xs (i + 2)))) ⟨false, rfl⟩
  rw [c8a, hxc8]
  show mT _ _ _ _ 1839 [.retAddr 0, .ref 0, .ref 27, .ref 38, .int (nI i), .int (nI ((sp_bag S (xs (i + 1)) (xs (i + 2))).1)), .double 0] [.int (mb (xc8))] _ _ _ _
  refine mp_istore dL_law_1839 (ls' := [.retAddr 0, .ref 0, .ref 27, .ref 38, .int (nI i), .int (nI ((sp_bag S (xs (i + 1)) (xs (i + 2))).1)), .int (mb (xc8))]) rfl (by decide) rfl ?_
  refine mt_aload_n dL_law_1841 rfl rfl ?_
  refine mt_callV (N := mX4_thrown) (Rc := rX4_thrown) (As := []) (st := []) dL_law_1842 (kX4_thrown hl Mc8.1) sX4_thrown mw_1075 mKX4 rfl Mc8.1 rfl (Nat.le_of_ble_eq_true rfl) ⟨⟨Nat.le_of_ble_eq_true rfl, Nat.le_of_ble_eq_true rfl⟩, (by simp only [rL_bag, rX4_bag, rX4_thrown, room_1]; omega), (by simp only [rL_bag, rX4_bag, rX4_thrown, room_1]; omega)⟩ (fun v9 h10 n11 c12 => ?_) (fun _ _ _ hx => hx.elim)
  obtain ⟨c12a, c12b, c12c⟩ := c12
  rw [c12a, c12b, c12c]
  show mT _ _ _ _ 1845 [.retAddr 0, .ref 0, .ref 27, .ref 38, .int (nI i), .int (nI ((sp_bag S (xs (i + 1)) (xs (i + 2))).1)), .int (mb (xc8))] [.int (nI ((mp_bag S (xs (i + 1)) (xs (i + 2))).1))] _ _ _ _
  refine mt_iload dL_law_1845 rfl ?_
  refine mt_icmp_eq dL_law_1847 (tgt := 1852) rfl (fun q9 => ?_) (fun q9 => absurd (congrArg nI hE.1) q9)
  refine mt_iload dL_law_1852 rfl ?_
  have hk3 : (sp_bag S (xs (i + 1)) (xs (i + 2))).1 < 3 := by have := (oi_bag (S := S) (row := (xs (i + 1))) (other := (xs (i + 2)))).lt; omega
  refine mt_if_ne dL_law_1854 (tgt := 1877) rfl (fun q8 => ?_) (fun q8 => ?_)
  · refine mt_goto dL_law_1877 (tgt := 2003) rfl ?_
    refine mt_drop 5 (ls' := [.retAddr 0, .ref 0, .ref 27, .ref 38, .int (nI i), .double 0, .int (mb (xc8))]) rfl ?_
    refine mt_drop 6 (ls' := [.retAddr 0, .ref 0, .ref 27, .ref 38, .int (nI i), .double 0, .double 0]) rfl ?_
    refine mt_widen (cc' := cc + 9000) (sc' := sc + 62000) (by simp only [rL_bag, rX4_bag, rX4_thrown]; omega) (by simp only [rL_bag, rX4_bag, rX4_thrown]; omega) ?_
    exact kk _ _ _ _ _ _ Cc8 Mc8 Oc8
  · have k1 : (sp_bag S (xs (i + 1)) (xs (i + 2))).1 = 0 := (mI_eq0 (by omega)).mp q8
    have k0 : (sp_bag S (xs (i + 1)) (xs (i + 2))).1 = 0 := by omega
    have hx9 := hxc8
    rw [if_pos (hE.1.trans k0)] at hx9
    have e9 : yc4 = (mb (xc8)).toInt64 := c4z k0 _ ((hE.2 k0).symm.trans hx9)
    refine mt_aload_n dL_law_1857 rfl rfl ?_
    refine mt_getfieldN mKX3 (i := 0) (by decide) mw_387 dL_law_1858 Oc8 rfl ?_
    refine mt_iload dL_law_1861 rfl ?_
    refine mt_if_eq dL_law_1863 (tgt := 1870) rfl (fun q13 => ?_) (fun q13 => ?_)
    · have q13 : xc8 = false := mb_0.mp q13
      refine mt_lconst dL_law_1870 (v := 0) rfl ?_
      rw [show yc4 = 0 from by rw [e9, q13]; decide]
      refine mt_lcmpE dL_law_1871 ?_
      refine mt_if_eq dL_law_1872 (tgt := 1877) rfl (fun q14 => ?_) (fun q14 => ?_)
      · have q14 := (mI_eq0 (by omega)).mp q14
        refine mt_goto dL_law_1877 (tgt := 2003) rfl ?_
        refine mt_drop 5 (ls' := [.retAddr 0, .ref 0, .ref 27, .ref 38, .int (nI i), .double 0, .int (mb (xc8))]) rfl ?_
        refine mt_drop 6 (ls' := [.retAddr 0, .ref 0, .ref 27, .ref 38, .int (nI i), .double 0, .double 0]) rfl ?_
        refine mt_widen (cc' := cc + 9000) (sc' := sc + 62000) (by simp only [rL_bag, rX4_bag, rX4_thrown]; omega) (by simp only [rL_bag, rX4_bag, rX4_thrown]; omega) ?_
        exact kk _ _ _ _ _ _ Cc8 Mc8 Oc8
      · have q14 := (not_congr (mI_eq0 (by omega))).mp q14
        exact absurd q14 (by decide)
    · have q13 : xc8 = true := mb_1.mp q13
      refine mt_lconst dL_law_1866 (v := 1) rfl ?_
      refine mt_goto dL_law_1867 (tgt := 1871) rfl ?_
      rw [show yc4 = 1 from by rw [e9, q13]; decide]
      refine mt_lcmpE dL_law_1871 ?_
      refine mt_if_eq dL_law_1872 (tgt := 1877) rfl (fun q15 => ?_) (fun q15 => ?_)
      · have q15 := (mI_eq0 (by omega)).mp q15
        refine mt_goto dL_law_1877 (tgt := 2003) rfl ?_
        refine mt_drop 5 (ls' := [.retAddr 0, .ref 0, .ref 27, .ref 38, .int (nI i), .double 0, .int (mb (xc8))]) rfl ?_
        refine mt_drop 6 (ls' := [.retAddr 0, .ref 0, .ref 27, .ref 38, .int (nI i), .double 0, .double 0]) rfl ?_
        refine mt_widen (cc' := cc + 9000) (sc' := sc + 62000) (by simp only [rL_bag, rX4_bag, rX4_thrown]; omega) (by simp only [rL_bag, rX4_bag, rX4_thrown]; omega) ?_
        exact kk _ _ _ _ _ _ Cc8 Mc8 Oc8
      · have q15 := (not_congr (mI_eq0 (by omega))).mp q15
        exact absurd q15 (by decide)
theorem oim_sp_mark {S : cS} {row : Int32} {isStamps : Bool} : oI vI true true (sp_mark S row isStamps) := by
  unfold sp_mark
  repeat' first | exact Or.inl ⟨rfl, _, rfl⟩ | exact Or.inr (Or.inr ⟨rfl, rfl⟩) | exact Or.inr (Or.inl ⟨rfl, rfl⟩) | refine dAt_o (fun r => ?_) | refine dArg_o (fun r => ?_) | refine dFit_o ?_ | refine dB_o (fun r => ?_) | refine dKeep_o (fun p t => ?_) | split
set_option maxRecDepth 100000 in
set_option maxHeartbeats 2000000 in
theorem tL_c41 {l : Launch} (hl : l.stackTraces = false) {L : Nat} {xs : Nat → Int32} : lawCase l L xs 1880 := by
  intro i h n S th y s cc sc hi6 hL C M O hcc hsc kk
  have hS := lenOk_of C
  show mT _ _ _ _ 1880 [.retAddr 0, .ref 0, .ref 27, .ref 38, .int (nI i), .double 0, .double 0] [] _ _ _ _
  refine mt_aload_n dL_law_1880 rfl rfl ?_
  refine mt_aload_n dL_law_1881 rfl rfl ?_
  refine mt_iload dL_law_1882 rfl ?_
  refine mt_iconst dL_law_1884 (v := nI 1) rfl ?_
  refine mp_iadd dL_law_1885 (v := nI (i + 1)) (nI_add _ _) ?_
  refine mx_ld dL_law_1886 rfl (j := i + 1) (by omega) (by omega) ?_
  refine mt_aload_n dL_law_1887 rfl rfl ?_
  refine mt_iload dL_law_1888 rfl ?_
  refine mt_iconst dL_law_1890 (v := nI 2) rfl ?_
  refine mp_iadd dL_law_1891 (v := nI (i + 2)) (nI_add _ _) ?_
  refine mx_ld dL_law_1892 rfl (j := i + 2) (by omega) (by omega) ?_
  refine mt_if_eq dL_law_1893 (tgt := 1900) rfl (fun q1 => ?_) (fun q1 => ?_)
  · refine mt_iconst dL_law_1900 (v := nI 0) rfl ?_
    refine mt_aload_n dL_law_1901 rfl rfl ?_
    refine mt_callSW (N := mL_mark) (Rc := rL_mark) (As := [.ref 0, .int (xs (i + 1)), .int (nI 0), .ref 38]) (st := []) dL_law_1902 (kL_mark (isStamps := false) hl C O) sL_mark mw_1037 rfl (Nat.le_of_ble_eq_true rfl) ⟨⟨Nat.le_of_ble_eq_true rfl, Nat.le_of_ble_eq_true rfl⟩, (by simp only [rL_mark, rX4_mark, room_1]; omega), (by simp only [rL_mark, rX4_mark, room_1]; omega)⟩ (fun v2 h3 n4 c5 => ?_) (fun _ _ _ hx => hx.elim)
    obtain ⟨c5a, c5b, c5c, ⟨yc5, c5d, c5z⟩, c5e⟩ := c5
    rw [c5a, c5b]
    have Cc5 : cAt h3 (stOf S (sp_mark S (xs (i + 1)) false)) := c5c
    have Mc5 := mAt.fr M (Nat.le_refl _) c5e
    show mT _ _ _ _ 1905 [.retAddr 0, .ref 0, .ref 27, .ref 38, .int (nI i), .double 0, .double 0] [.int (nI ((sp_mark S (xs (i + 1)) false).1))] _ _ _ _
    refine mp_istore dL_law_1905 (ls' := [.retAddr 0, .ref 0, .ref 27, .ref 38, .int (nI i), .int (nI ((sp_mark S (xs (i + 1)) false).1)), .double 0]) rfl (by decide) rfl ?_
    refine mt_aload_n dL_law_1907 rfl rfl ?_
    refine mt_aload_n dL_law_1908 rfl rfl ?_
    refine mt_iload dL_law_1909 rfl ?_
    refine mt_iconst dL_law_1911 (v := nI 1) rfl ?_
    refine mp_iadd dL_law_1912 (v := nI (i + 1)) (nI_add _ _) ?_
    refine mx_ld dL_law_1913 rfl (j := i + 1) (by omega) (by omega) ?_
    refine mt_aload_n dL_law_1914 rfl rfl ?_
    refine mt_iload dL_law_1915 rfl ?_
    refine mt_iconst dL_law_1917 (v := nI 2) rfl ?_
    refine mp_iadd dL_law_1918 (v := nI (i + 2)) (nI_add _ _) ?_
    refine mx_ld dL_law_1919 rfl (j := i + 2) (by omega) (by omega) ?_
    refine mt_if_eq dL_law_1920 (tgt := 1927) rfl (fun q6 => ?_) (fun q6 => ?_)
    · refine mt_iconst dL_law_1927 (v := nI 0) rfl ?_
      refine mt_callV (N := mX4_mark) (Rc := rX4_mark) (As := [.int (xs (i + 1)), .int (nI 0)]) (st := []) dL_law_1928 (kX4_mark (isStamps := false) hl Mc5) sX4_mark mw_1340 mKX4 rfl Mc5.1 rfl (Nat.le_of_ble_eq_true rfl) ⟨⟨Nat.le_of_ble_eq_true rfl, Nat.le_of_ble_eq_true rfl⟩, (by simp only [rL_mark, rX4_mark, room_1]; omega), (by simp only [rL_mark, rX4_mark, room_1]; omega)⟩ (fun v7 h8 n9 c10 => ?_) (fun _ _ _ hx => hx.elim)
      obtain ⟨xc10, tc10, c10a, c10b, c10m, c10e⟩ := mOk.gs (S := S) (oim_sp_mark (S := S)) (c10.ok Mc5.2.1)
      have Mc10 : mAt h8 n9 (stOf S (sp_mark S (xs (i + 1)) false)) (tc10) := by rw [stOf_q qst_sp_mark]; rw [show (sp_mark S (xs (i + 1)) false).2.2 = S from qst_sp_mark] at c10m; exact c10m
      have Cc10 := cAt.fr2 Cc5 (fun j hj => c10e j (Or.inl hj))
      have Oc10 := (c10e 38 (Or.inr rfl)).trans c5d
      rw [c10a]
      show mT _ _ _ _ 1931 [.retAddr 0, .ref 0, .ref 27, .ref 38, .int (nI i), .int (nI ((sp_mark S (xs (i + 1)) false).1)), .double 0] [.int xc10] _ _ _ _
      refine mp_istore dL_law_1931 (ls' := [.retAddr 0, .ref 0, .ref 27, .ref 38, .int (nI i), .int (nI ((sp_mark S (xs (i + 1)) false).1)), .int xc10]) rfl (by decide) rfl ?_
      refine mt_goto dL_law_1933 (tgt := 2003) rfl ?_
      refine mt_drop 5 (ls' := [.retAddr 0, .ref 0, .ref 27, .ref 38, .int (nI i), .double 0, .int xc10]) rfl ?_
      refine mt_drop 6 (ls' := [.retAddr 0, .ref 0, .ref 27, .ref 38, .int (nI i), .double 0, .double 0]) rfl ?_
      refine mt_widen (cc' := cc + 9000) (sc' := sc + 62000) (by simp only [rL_mark, rX4_mark]; omega) (by simp only [rL_mark, rX4_mark]; omega) ?_
      exact kk _ _ _ _ _ _ Cc10 Mc10 Oc10
    · refine mt_iconst dL_law_1923 (v := nI 1) rfl ?_
      refine mt_goto dL_law_1924 (tgt := 1928) rfl ?_
      refine mt_callV (N := mX4_mark) (Rc := rX4_mark) (As := [.int (xs (i + 1)), .int (nI 1)]) (st := []) dL_law_1928 (kX4_mark (isStamps := true) hl Mc5) sX4_mark mw_1340 mKX4 rfl Mc5.1 rfl (Nat.le_of_ble_eq_true rfl) ⟨⟨Nat.le_of_ble_eq_true rfl, Nat.le_of_ble_eq_true rfl⟩, (by simp only [rL_mark, rX4_mark, room_1]; omega), (by simp only [rL_mark, rX4_mark, room_1]; omega)⟩ (fun v11 h12 n13 c14 => ?_) (fun _ _ _ hx => hx.elim)
      obtain ⟨xc14, tc14, c14a, c14b, c14m, c14e⟩ := mOk.gs (S := S) (oim_sp_mark (S := S)) (c14.ok Mc5.2.1)
      have Mc14 : mAt h12 n13 (stOf S (sp_mark S (xs (i + 1)) false)) (tc14) := by rw [stOf_q qst_sp_mark]; rw [show (sp_mark S (xs (i + 1)) true).2.2 = S from qst_sp_mark] at c14m; exact c14m
      have Cc14 := cAt.fr2 Cc5 (fun j hj => c14e j (Or.inl hj))
      have Oc14 := (c14e 38 (Or.inr rfl)).trans c5d
      rw [c14a]
      show mT _ _ _ _ 1931 [.retAddr 0, .ref 0, .ref 27, .ref 38, .int (nI i), .int (nI ((sp_mark S (xs (i + 1)) false).1)), .double 0] [.int xc14] _ _ _ _
      refine mp_istore dL_law_1931 (ls' := [.retAddr 0, .ref 0, .ref 27, .ref 38, .int (nI i), .int (nI ((sp_mark S (xs (i + 1)) false).1)), .int xc14]) rfl (by decide) rfl ?_
      refine mt_goto dL_law_1933 (tgt := 2003) rfl ?_
      refine mt_drop 5 (ls' := [.retAddr 0, .ref 0, .ref 27, .ref 38, .int (nI i), .double 0, .int xc14]) rfl ?_
      refine mt_drop 6 (ls' := [.retAddr 0, .ref 0, .ref 27, .ref 38, .int (nI i), .double 0, .double 0]) rfl ?_
      refine mt_widen (cc' := cc + 9000) (sc' := sc + 62000) (by simp only [rL_mark, rX4_mark]; omega) (by simp only [rL_mark, rX4_mark]; omega) ?_
      exact kk _ _ _ _ _ _ Cc14 Mc14 Oc14
  · refine mt_iconst dL_law_1896 (v := nI 1) rfl ?_
    refine mt_goto dL_law_1897 (tgt := 1901) rfl ?_
    refine mt_aload_n dL_law_1901 rfl rfl ?_
    refine mt_callSW (N := mL_mark) (Rc := rL_mark) (As := [.ref 0, .int (xs (i + 1)), .int (nI 1), .ref 38]) (st := []) dL_law_1902 (kL_mark (isStamps := true) hl C O) sL_mark mw_1037 rfl (Nat.le_of_ble_eq_true rfl) ⟨⟨Nat.le_of_ble_eq_true rfl, Nat.le_of_ble_eq_true rfl⟩, (by simp only [rL_mark, rX4_mark, room_1]; omega), (by simp only [rL_mark, rX4_mark, room_1]; omega)⟩ (fun v15 h16 n17 c18 => ?_) (fun _ _ _ hx => hx.elim)
    obtain ⟨c18a, c18b, c18c, ⟨yc18, c18d, c18z⟩, c18e⟩ := c18
    rw [c18a, c18b]
    have Cc18 : cAt h16 (stOf S (sp_mark S (xs (i + 1)) true)) := c18c
    have Mc18 := mAt.fr M (Nat.le_refl _) c18e
    show mT _ _ _ _ 1905 [.retAddr 0, .ref 0, .ref 27, .ref 38, .int (nI i), .double 0, .double 0] [.int (nI ((sp_mark S (xs (i + 1)) true).1))] _ _ _ _
    refine mp_istore dL_law_1905 (ls' := [.retAddr 0, .ref 0, .ref 27, .ref 38, .int (nI i), .int (nI ((sp_mark S (xs (i + 1)) true).1)), .double 0]) rfl (by decide) rfl ?_
    refine mt_aload_n dL_law_1907 rfl rfl ?_
    refine mt_aload_n dL_law_1908 rfl rfl ?_
    refine mt_iload dL_law_1909 rfl ?_
    refine mt_iconst dL_law_1911 (v := nI 1) rfl ?_
    refine mp_iadd dL_law_1912 (v := nI (i + 1)) (nI_add _ _) ?_
    refine mx_ld dL_law_1913 rfl (j := i + 1) (by omega) (by omega) ?_
    refine mt_aload_n dL_law_1914 rfl rfl ?_
    refine mt_iload dL_law_1915 rfl ?_
    refine mt_iconst dL_law_1917 (v := nI 2) rfl ?_
    refine mp_iadd dL_law_1918 (v := nI (i + 2)) (nI_add _ _) ?_
    refine mx_ld dL_law_1919 rfl (j := i + 2) (by omega) (by omega) ?_
    refine mt_if_eq dL_law_1920 (tgt := 1927) rfl (fun q19 => ?_) (fun q19 => ?_)
    · refine mt_iconst dL_law_1927 (v := nI 0) rfl ?_
      refine mt_callV (N := mX4_mark) (Rc := rX4_mark) (As := [.int (xs (i + 1)), .int (nI 0)]) (st := []) dL_law_1928 (kX4_mark (isStamps := false) hl Mc18) sX4_mark mw_1340 mKX4 rfl Mc18.1 rfl (Nat.le_of_ble_eq_true rfl) ⟨⟨Nat.le_of_ble_eq_true rfl, Nat.le_of_ble_eq_true rfl⟩, (by simp only [rL_mark, rX4_mark, room_1]; omega), (by simp only [rL_mark, rX4_mark, room_1]; omega)⟩ (fun v20 h21 n22 c23 => ?_) (fun _ _ _ hx => hx.elim)
      obtain ⟨xc23, tc23, c23a, c23b, c23m, c23e⟩ := mOk.gs (S := S) (oim_sp_mark (S := S)) (c23.ok Mc18.2.1)
      have Mc23 : mAt h21 n22 (stOf S (sp_mark S (xs (i + 1)) true)) (tc23) := by rw [stOf_q qst_sp_mark]; rw [show (sp_mark S (xs (i + 1)) false).2.2 = S from qst_sp_mark] at c23m; exact c23m
      have Cc23 := cAt.fr2 Cc18 (fun j hj => c23e j (Or.inl hj))
      have Oc23 := (c23e 38 (Or.inr rfl)).trans c18d
      rw [c23a]
      show mT _ _ _ _ 1931 [.retAddr 0, .ref 0, .ref 27, .ref 38, .int (nI i), .int (nI ((sp_mark S (xs (i + 1)) true).1)), .double 0] [.int xc23] _ _ _ _
      refine mp_istore dL_law_1931 (ls' := [.retAddr 0, .ref 0, .ref 27, .ref 38, .int (nI i), .int (nI ((sp_mark S (xs (i + 1)) true).1)), .int xc23]) rfl (by decide) rfl ?_
      refine mt_goto dL_law_1933 (tgt := 2003) rfl ?_
      refine mt_drop 5 (ls' := [.retAddr 0, .ref 0, .ref 27, .ref 38, .int (nI i), .double 0, .int xc23]) rfl ?_
      refine mt_drop 6 (ls' := [.retAddr 0, .ref 0, .ref 27, .ref 38, .int (nI i), .double 0, .double 0]) rfl ?_
      refine mt_widen (cc' := cc + 9000) (sc' := sc + 62000) (by simp only [rL_mark, rX4_mark]; omega) (by simp only [rL_mark, rX4_mark]; omega) ?_
      exact kk _ _ _ _ _ _ Cc23 Mc23 Oc23
    · refine mt_iconst dL_law_1923 (v := nI 1) rfl ?_
      refine mt_goto dL_law_1924 (tgt := 1928) rfl ?_
      refine mt_callV (N := mX4_mark) (Rc := rX4_mark) (As := [.int (xs (i + 1)), .int (nI 1)]) (st := []) dL_law_1928 (kX4_mark (isStamps := true) hl Mc18) sX4_mark mw_1340 mKX4 rfl Mc18.1 rfl (Nat.le_of_ble_eq_true rfl) ⟨⟨Nat.le_of_ble_eq_true rfl, Nat.le_of_ble_eq_true rfl⟩, (by simp only [rL_mark, rX4_mark, room_1]; omega), (by simp only [rL_mark, rX4_mark, room_1]; omega)⟩ (fun v24 h25 n26 c27 => ?_) (fun _ _ _ hx => hx.elim)
      obtain ⟨xc27, tc27, c27a, c27b, c27m, c27e⟩ := mOk.gs (S := S) (oim_sp_mark (S := S)) (c27.ok Mc18.2.1)
      have Mc27 : mAt h25 n26 (stOf S (sp_mark S (xs (i + 1)) true)) (tc27) := by rw [stOf_q qst_sp_mark]; rw [show (sp_mark S (xs (i + 1)) true).2.2 = S from qst_sp_mark] at c27m; exact c27m
      have Cc27 := cAt.fr2 Cc18 (fun j hj => c27e j (Or.inl hj))
      have Oc27 := (c27e 38 (Or.inr rfl)).trans c18d
      rw [c27a]
      show mT _ _ _ _ 1931 [.retAddr 0, .ref 0, .ref 27, .ref 38, .int (nI i), .int (nI ((sp_mark S (xs (i + 1)) true).1)), .double 0] [.int xc27] _ _ _ _
      refine mp_istore dL_law_1931 (ls' := [.retAddr 0, .ref 0, .ref 27, .ref 38, .int (nI i), .int (nI ((sp_mark S (xs (i + 1)) true).1)), .int xc27]) rfl (by decide) rfl ?_
      refine mt_goto dL_law_1933 (tgt := 2003) rfl ?_
      refine mt_drop 5 (ls' := [.retAddr 0, .ref 0, .ref 27, .ref 38, .int (nI i), .double 0, .int xc27]) rfl ?_
      refine mt_drop 6 (ls' := [.retAddr 0, .ref 0, .ref 27, .ref 38, .int (nI i), .double 0, .double 0]) rfl ?_
      refine mt_widen (cc' := cc + 9000) (sc' := sc + 62000) (by simp only [rL_mark, rX4_mark]; omega) (by simp only [rL_mark, rX4_mark]; omega) ?_
      exact kk _ _ _ _ _ _ Cc27 Mc27 Oc27
theorem oim_mp_house {S : cS} {what : Int32} : oI vI true true (mp_house S what) := by
  unfold mp_house
  repeat' first | exact Or.inl ⟨rfl, _, rfl⟩ | exact Or.inr (Or.inr ⟨rfl, rfl⟩) | exact Or.inr (Or.inl ⟨rfl, rfl⟩) | refine dAt_o (fun r => ?_) | refine dArg_o (fun r => ?_) | refine dFit_o ?_ | refine dB_o (fun r => ?_) | refine dKeep_o (fun p t => ?_) | split
set_option maxRecDepth 100000 in
set_option maxHeartbeats 2000000 in
theorem tL_c42 {l : Launch} (hl : l.stackTraces = false) {L : Nat} {xs : Nat → Int32} : lawCase l L xs 1936 := by
  intro i h n S th y s cc sc hi6 hL C M O hcc hsc kk
  have hS := lenOk_of C
  show mT _ _ _ _ 1936 [.retAddr 0, .ref 0, .ref 27, .ref 38, .int (nI i), .double 0, .double 0] [] _ _ _ _
  refine mt_aload_n dL_law_1936 rfl rfl ?_
  refine mt_aload_n dL_law_1937 rfl rfl ?_
  refine mt_iload dL_law_1938 rfl ?_
  refine mt_iconst dL_law_1940 (v := nI 1) rfl ?_
  refine mp_iadd dL_law_1941 (v := nI (i + 1)) (nI_add _ _) ?_
  refine mx_ld dL_law_1942 rfl (j := i + 1) (by omega) (by omega) ?_
  refine mt_aload_n dL_law_1943 rfl rfl ?_
  refine mt_callSW (N := mL_house) (Rc := rL_house) (As := [.ref 0, .int (xs (i + 1)), .ref 38]) (st := []) dL_law_1944 (kL_house hl C O) sL_house mw_1041 rfl (Nat.le_of_ble_eq_true rfl) ⟨⟨Nat.le_of_ble_eq_true rfl, Nat.le_of_ble_eq_true rfl⟩, (by simp only [rL_house, rX4_house, room_1]; omega), (by simp only [rL_house, rX4_house, room_1]; omega)⟩ (fun v1 h2 n3 c4 => ?_) (fun _ _ _ hx => hx.elim)
  obtain ⟨c4a, c4b, c4c, ⟨yc4, c4d, c4z⟩, c4e⟩ := c4
  rw [c4a, c4b]
  have Cc4 : cAt h2 (stOf S (sp_house S (xs (i + 1)))) := c4c
  have Mc4 := mAt.fr M (Nat.le_refl _) c4e
  show mT _ _ _ _ 1947 [.retAddr 0, .ref 0, .ref 27, .ref 38, .int (nI i), .double 0, .double 0] [.int (nI ((sp_house S (xs (i + 1))).1 / 2))] _ _ _ _
  refine mp_istore dL_law_1947 (ls' := [.retAddr 0, .ref 0, .ref 27, .ref 38, .int (nI i), .int (nI ((sp_house S (xs (i + 1))).1 / 2)), .double 0]) rfl (by decide) rfl ?_
  refine mt_aload_n dL_law_1949 rfl rfl ?_
  refine mt_aload_n dL_law_1950 rfl rfl ?_
  refine mt_iload dL_law_1951 rfl ?_
  refine mt_iconst dL_law_1953 (v := nI 1) rfl ?_
  refine mp_iadd dL_law_1954 (v := nI (i + 1)) (nI_add _ _) ?_
  refine mx_ld dL_law_1955 rfl (j := i + 1) (by omega) (by omega) ?_
  refine mt_callV (N := mX4_house) (Rc := rX4_house) (As := [.int (xs (i + 1))]) (st := []) dL_law_1956 (kX4_house hl Mc4) sX4_house mw_1344 mKX4 rfl Mc4.1 rfl (Nat.le_of_ble_eq_true rfl) ⟨⟨Nat.le_of_ble_eq_true rfl, Nat.le_of_ble_eq_true rfl⟩, (by simp only [rL_house, rX4_house, room_1]; omega), (by simp only [rL_house, rX4_house, room_1]; omega)⟩ (fun v5 h6 n7 c8 => ?_) (fun _ _ _ hx => hx.elim)
  obtain ⟨xc8, tc8, c8a, c8b, c8m, c8e⟩ := mOk.gs (S := S) (oim_mp_house (S := S)) (c8.ok Mc4.2.1)
  have Mc8 : mAt h6 n7 (stOf S (sp_house S (xs (i + 1)))) (tc8) := by rw [stOf_q qst_sp_house]; rw [show (mp_house S (xs (i + 1))).2.2 = S from qst_mp_house] at c8m; exact c8m
  have Cc8 := cAt.fr2 Cc4 (fun j hj => c8e j (Or.inl hj))
  have Oc8 := (c8e 38 (Or.inr rfl)).trans c4d
  rw [c8a]
  show mT _ _ _ _ 1959 [.retAddr 0, .ref 0, .ref 27, .ref 38, .int (nI i), .int (nI ((sp_house S (xs (i + 1))).1 / 2)), .double 0] [.int xc8] _ _ _ _
  refine mp_istore dL_law_1959 (ls' := [.retAddr 0, .ref 0, .ref 27, .ref 38, .int (nI i), .int (nI ((sp_house S (xs (i + 1))).1 / 2)), .int xc8]) rfl (by decide) rfl ?_
  refine mt_goto dL_law_1961 (tgt := 2003) rfl ?_
  refine mt_drop 5 (ls' := [.retAddr 0, .ref 0, .ref 27, .ref 38, .int (nI i), .double 0, .int xc8]) rfl ?_
  refine mt_drop 6 (ls' := [.retAddr 0, .ref 0, .ref 27, .ref 38, .int (nI i), .double 0, .double 0]) rfl ?_
  refine mt_widen (cc' := cc + 9000) (sc' := sc + 62000) (by simp only [rL_house, rX4_house]; omega) (by simp only [rL_house, rX4_house]; omega) ?_
  exact kk _ _ _ _ _ _ Cc8 Mc8 Oc8
