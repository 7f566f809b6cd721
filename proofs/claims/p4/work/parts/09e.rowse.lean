/-! ===== rows of the logic: throwing, leaving, catching, Math, arraycopy ===== -/
theorem mNw_on {w : Cond} (h : w ∈ mNw) : w.onTables = true := by
  have h2 := (List.mem_filter.mp h).2
  cases w <;> first | rfl | cases h2
theorem mGN {ws : List Cond} (h : ws.all (fun w => decide (w ∈ lw_tbl) && (goodWord w || mNk w)) = true) : ∀ w ∈ ws, w ∈ mGw ∨ w ∈ mNw := by
  intro w hw
  have h1 := List.all_eq_true.mp h w hw
  simp only [Bool.and_eq_true, Bool.or_eq_true, decide_eq_true_eq] at h1
  exact h1.2.elim (fun q => Or.inl (mGw_of h1.1 q)) (fun q => Or.inr (List.mem_filter.mpr ⟨h1.1, q⟩))
section MTE
variable {l : Launch} {M : mM} {R : Room} {K : mK} {pc : Nat} {ls st : List Value} {h : mH} {n cc sc : Nat}
theorem mt_mmin {x y v : Int32} {index : Nat} (hdg : decode M.2.1 pc = .ok (.invokestatic index, 3)) (hlk : Cond.methodLink M.1.cls index Lib.Math.min.name ∈ mGw) (hst : Cond.static Lib.Math.min.name ∈ mGw) (hini : Cond.initialized "java/lang/Math" ∈ mGw) (hco : Cond.code Lib.Math.min.name Lib.Math.min.code 2 (some .int) ∈ mGw) (hw : (st.map mcw).sum ≤ 8) (hR : 1 ≤ R.frames ∧ 21 ≤ R.locals) (hcc : cc ≤ R.cells) (hsc : sc ≤ R.slots) (hv : (if y < x then y else x) = v) (k : mT l M R K (pc + 3) ls (.int v :: st) h n cc sc) : mT l M R K pc ls (.int y :: .int x :: st) h n cc sc := by
  intro p e s m args below meth c G w0 H locs LS ws st' hC hD
  obtain ⟨d1, d2, d3, d4, d5, d6, d7⟩ := hD
  obtain ⟨t1, rfl, d7a⟩ := d7.int
  obtain ⟨t2, rfl, d7b⟩ := d7a.int
  have hC' := hC
  obtain ⟨hx, -, hb, -, hml, hown, hts, -⟩ := hC'
  subst hv
  exact va_mmin hx hb (hml.trans d6.choose_spec.1.1.symm) hown (hts _ hlk) (hts _ hst) (hts _ hini) (hts _ hco) hR.1 (Nat.le_trans (Nat.add_le_add_right (Nat.le_trans d7b.weight hw) 13) hR.2) hcc hsc hdg (k p e s m args below meth c G w0 H locs LS ws _ hC ⟨d1, d2, d3, d4, d5, d6, mrl.cons (v' := .int _) rfl d7b⟩)
theorem mt_mmax {x y v : Int32} {index : Nat} (hdg : decode M.2.1 pc = .ok (.invokestatic index, 3)) (hlk : Cond.methodLink M.1.cls index Lib.Math.max.name ∈ mGw) (hst : Cond.static Lib.Math.max.name ∈ mGw) (hini : Cond.initialized "java/lang/Math" ∈ mGw) (hco : Cond.code Lib.Math.max.name Lib.Math.max.code 2 (some .int) ∈ mGw) (hw : (st.map mcw).sum ≤ 8) (hR : 1 ≤ R.frames ∧ 21 ≤ R.locals) (hcc : cc ≤ R.cells) (hsc : sc ≤ R.slots) (hv : (if x < y then y else x) = v) (k : mT l M R K (pc + 3) ls (.int v :: st) h n cc sc) : mT l M R K pc ls (.int y :: .int x :: st) h n cc sc := by
  intro p e s m args below meth c G w0 H locs LS ws st' hC hD
  obtain ⟨d1, d2, d3, d4, d5, d6, d7⟩ := hD
  obtain ⟨t1, rfl, d7a⟩ := d7.int
  obtain ⟨t2, rfl, d7b⟩ := d7a.int
  have hC' := hC
  obtain ⟨hx, -, hb, -, hml, hown, hts, -⟩ := hC'
  subst hv
  exact va_mmax hx hb (hml.trans d6.choose_spec.1.1.symm) hown (hts _ hlk) (hts _ hst) (hts _ hini) (hts _ hco) hR.1 (Nat.le_trans (Nat.add_le_add_right (Nat.le_trans d7b.weight hw) 13) hR.2) hcc hsc hdg (k p e s m args below meth c G w0 H locs LS ws _ hC ⟨d1, d2, d3, d4, d5, d6, mrl.cons (v' := .int _) rfl d7b⟩)
theorem mt_acopy {a b la lb sp dp cnt index : Nat} {f g : Nat → Int32} {xs xd xn : Int32} (hdg : decode M.2.1 pc = .ok (.invokestatic index, 3)) (hlk : Cond.methodLink M.1.cls index arraycopyName ∈ mGw) (hnat : Cond.native arraycopyName ∈ mGw) (hst : Cond.static arraycopyName ∈ mGw) (hini : Cond.initialized "java/lang/System" ∈ mGw) (ha : h a = .inl (0, la, f)) (hb : h b = .inl (0, lb, g)) (h1 : xs = nI sp) (h2 : xd = nI dp) (h3 : xn = nI cnt) (h4 : sp + cnt ≤ la) (h5 : dp + cnt ≤ lb) (hla : la < 2 ^ 31) (hlb : lb < 2 ^ 31) (hw : (st.map mcw).sum ≤ 8) (hR : 1 ≤ R.frames ∧ 8 + 18 ≤ R.locals) (k : mT l M R K (pc + 3) ls st (mup h b (.inl (0, lb, va_cpy f g sp dp cnt))) n cc sc) : mT l M R K pc ls (.int xn :: .int xd :: .ref b :: .int xs :: .ref a :: st) h n cc sc := by
  intro p e s m args below meth c G w0 H locs LS ws st' hC hD
  obtain ⟨d1, d2, d3, d4, d5, d6, d7⟩ := hD
  obtain ⟨t1, rfl, d7a⟩ := d7.int
  obtain ⟨t2, rfl, d7b⟩ := d7a.int
  obtain ⟨⟨yb, eb⟩, t3, hwb, rfl, d7c⟩ := d7b.ref
  obtain ⟨t4, rfl, d7d⟩ := d7c.int
  obtain ⟨⟨ya, ea⟩, t5, hwa, rfl, d7e⟩ := d7d.ref
  have hra := d1.at hwa
  rw [ha] at hra
  cases (show ea = .inl (G.2.1 0, la, .inl f) from hra)
  have hrb := d1.at hwb
  rw [hb] at hrb
  cases (show eb = .inl (G.2.1 0, lb, .inl g) from hrb)
  have hC' := hC
  obtain ⟨hx, -, hbb, -, hml, hown, hts, -, -, -, hmS, -⟩ := hC'
  subst h1 h2 h3
  have e1 : (nI sp).toNatClampNeg = sp := nI_clamp (by omega)
  have e2 : (nI dp).toNatClampNeg = dp := nI_clamp (by omega)
  have e3 : (nI cnt).toNatClampNeg = cnt := nI_clamp (by omega)
  refine va_copyi hx hbb (hml.trans d6.choose_spec.1.1.symm) hown (hts _ hlk) (hts _ hnat) (hts _ hst) (hts _ hini) hmS.1 d2 d3 d4 a b 0 0 (ty := .int) hwa hwb rfl rfl rfl (nI_pos (by omega)) (nI_pos (by omega)) (nI_pos (by omega)) (by rw [e1, e3]; exact h4) (by rw [e2, e3]; exact h5) (fun _ _ => rfl) hR.1 (Nat.le_trans (Nat.add_le_add_right (Nat.le_trans d7e.weight hw) _) hR.2) hdg (fun H1 locs1 g1 g2 g3 => ?_)
  rw [e1, e2, e3] at g1 g2
  have hE := mExt.set (e := .inl (G.2.1 0, lb, .inl (va_cpy f g sp dp cnt))) hwb
  exact k p e s m args below meth c G w0 H1 locs1 LS _ _ hC ⟨d1.set hwb rfl, g1, g2, g3, d5.tr hE, d6.mono hE, d7e.mono hE⟩
/-- an exception that no row of the table takes leaves the method -/
theorem mt_out {Φ : Option Value → mH → Nat → Prop} {X : String → mH → Nat → Prop} {E : String} (hM : M.2.2.2.2.1 = []) (hX : X E h n) (hcc : cc ≤ R.cells) (hsc : sc ≤ R.slots) : mTX l M R (mKo R Φ X) pc ls E h n cc sc := by
  intro p e s m args below meth c G w0 H locs LS ws q ce rest hC hD hcell hv hcl
  obtain ⟨d1, d2, d3, d4, d5, d6, d7⟩ := hD
  have htab : c.exceptionTable.toList = [] := by rw [hC.2.2.2.2.2.2.2.2.2.1, hM]; rfl
  exact vx_out (fun x hx => by rw [htab] at hx; cases hx) hC.2.2.2.2.2.2.2.1 hcell hv hcl (fun t ht _ => ⟨h, n, hX, ws, d1, d5, by rw [ht]; exact d2, d3, d4.F ht⟩) d4.2.2 hcc hsc
theorem va_P.grown {D : va_G} {cl : List vw_C} {ws : va_W} {H H1 : Heap} (h : va_P D cl ws H) (hq : ∀ q : Nat, q < H.size → H1[q]? = H[q]?) : va_P D cl ws H1 := h.kept (fun k q hk => hq _ (vx_lt h hk))
/-- throw new E("text") -/
theorem mt_throwS {cls text : String} {names : List String} {ik is ic : Nat} {Φ : Option Value → mH → Nat → Prop} {X : String → mH → Nat → Prop} (hcls : Bundle.fit cls = true) (hnames : ∀ x ∈ names, Bundle.fit x = true) (hk : Cond.classLink M.1.cls ik cls ∈ mGw) (hini : Cond.initialized cls ∈ mGw)
    (hstr : ∀ (G : mG) (U : State), mTx G U → ∃ sa, vk_R M.1.cls is text sa U) (hat : ∀ w ∈ vx_atS M.1.cls ic cls names, w ∈ mGw ∨ w ∈ mNw) (hgood : ∀ w ∈ Cond.classLink M.1.cls ik cls :: Cond.initialized cls :: vx_atS M.1.cls ic cls names, vx_ot w = true)
    (d0 : decode M.2.1 pc = .ok (.new ik, 3)) (d3 : decode M.2.1 (pc + 3) = .ok (.dup, 1)) (d4 : decode M.2.1 (pc + 4) = .ok (.ldc is, 2)) (d6 : decode M.2.1 (pc + 6) = .ok (.invokespecial ic, 3)) (d9 : decode M.2.1 (pc + 9) = .ok (.athrow, 1)) (hM : M.2.2.2.2.1 = [])
    (hR : names.length + 3 < R.frames ∧ 8 + (13 * (names.length + 1) + 43) ≤ R.locals) (hw : (st.map mcw).sum ≤ 8) (hcc : cc + 1 ≤ R.cells) (hsc : sc + 6 ≤ R.slots) (hX : X cls h n) : mT l M R (mKo R Φ X) pc ls st h n cc sc := by
  intro p e s m args below meth c G w0 H locs LS ws st' hC hD
  obtain ⟨q1, q2, q3, q4, q5, q6, q7⟩ := hD
  have hC' := hC
  obtain ⟨hx, hl, hb, -, hml, hown, hts, hlocks, -, htab, hmS, hmZ, -⟩ := hC'
  obtain ⟨sa, hsa⟩ := hstr G s hmS.2.2.2.2.1
  have htab' : c.exceptionTable.toList = [] := by rw [htab, hM]; rfl
  exact vx_throwS hx hb hl hown hcls hnames (hts _ hk) (hts _ hini) hsa (fun w hw => (hat w hw).elim (hts w) (fun q => va_Nw.use (mNw_on q) (hmS.2.2.2.2.2.1 _ q))) hgood hmZ.1 hmZ.2.1 q4 (q6.choose_spec.1.1.trans hml.symm) d0 d3 d4 d6 d9 (fun x hx => by rw [htab'] at hx; cases hx) hR.1 (Nat.le_trans (Nat.add_le_add_right (Nat.le_trans q7.weight hw) _) hR.2) hcc hsc hlocks
    (fun t _ h1 h2 => ⟨h, n, hX, ws, q1, q5, q2.grown h2, q3, ⟨Nat.le_trans q4.1 h1, fun q h3 h4 => (h2 q (Nat.lt_of_lt_of_le h3 q4.1)).trans (q4.2.1 q h3 h4)⟩⟩) q4.2.2 hcc hsc
theorem mt_throwSW {cls text : String} {names : List String} {ik is ic : Nat} {Φ : Option Value → mH → Nat → Prop} {X : String → mH → Nat → Prop} (hcls : Bundle.fit cls = true) (hnames : ∀ x ∈ names, Bundle.fit x = true) (hk : Cond.classLink M.1.cls ik cls ∈ mGw) (hini : Cond.initialized cls ∈ mGw)
    (hstr : ∀ (G : mG) (U : State), mTx G U → ∃ sa, vk_R M.1.cls is text sa U) (hat : ∀ w ∈ vx_atS M.1.cls ic cls names, w ∈ mGw ∨ w ∈ mNw) (hgood : ∀ w ∈ Cond.classLink M.1.cls ik cls :: Cond.initialized cls :: vx_atS M.1.cls ic cls names, vx_ot w = true)
    (d0 : decode M.2.1 pc = .ok (.new ik, 3)) (d3 : decode M.2.1 (pc + 3) = .ok (.dup, 1)) (d4 : decode M.2.1 (pc + 4) = .ok (.ldc_w is, 3)) (d7 : decode M.2.1 (pc + 7) = .ok (.invokespecial ic, 3)) (d10 : decode M.2.1 (pc + 10) = .ok (.athrow, 1)) (hM : M.2.2.2.2.1 = [])
    (hR : names.length + 3 < R.frames ∧ 8 + (13 * (names.length + 1) + 43) ≤ R.locals) (hw : (st.map mcw).sum ≤ 8) (hcc : cc + 1 ≤ R.cells) (hsc : sc + 6 ≤ R.slots) (hX : X cls h n) : mT l M R (mKo R Φ X) pc ls st h n cc sc := by
  intro p e s m args below meth c G w0 H locs LS ws st' hC hD
  obtain ⟨q1, q2, q3, q4, q5, q6, q7⟩ := hD
  have hC' := hC
  obtain ⟨hx, hl, hb, -, hml, hown, hts, hlocks, -, htab, hmS, hmZ, -⟩ := hC'
  obtain ⟨sa, hsa⟩ := hstr G s hmS.2.2.2.2.1
  have htab' : c.exceptionTable.toList = [] := by rw [htab, hM]; rfl
  exact vx_throwSW hx hb hl hown hcls hnames (hts _ hk) (hts _ hini) hsa (fun w hw => (hat w hw).elim (hts w) (fun q => va_Nw.use (mNw_on q) (hmS.2.2.2.2.2.1 _ q))) hgood hmZ.1 hmZ.2.1 q4 (q6.choose_spec.1.1.trans hml.symm) d0 d3 d4 d7 d10 (fun x hx => by rw [htab'] at hx; cases hx) hR.1 (Nat.le_trans (Nat.add_le_add_right (Nat.le_trans q7.weight hw) _) hR.2) hcc hsc hlocks
    (fun t _ h1 h2 => ⟨h, n, hX, ws, q1, q5, q2.grown h2, q3, ⟨Nat.le_trans q4.1 h1, fun q h3 h4 => (h2 q (Nat.lt_of_lt_of_le h3 q4.1)).trans (q4.2.1 q h3 h4)⟩⟩) q4.2.2 hcc hsc
/-- caught: by the row behind those of pre; these cover pc too, but name other classes -/
theorem mt_catch {E nm : String} {pre suf : List (Nat × Nat × Nat × Nat)} {x : Nat × Nat × Nat × Nat} (htab : tableOf M.2.2.2.2.1 = tableOf pre ++ (tableOf [x] ++ tableOf suf)) (hpass : ∀ z ∈ tableOf pre, covers z pc = false ∨ (z.catchType ≠ 0 ∧ Cond.classLink M.1.cls z.catchType "java/lang/IndexOutOfBoundsException" ∈ mGw ∧ E = "java/lang/IllegalArgumentException"))
    (y : ExceptionTableEntry) (hy : tableOf [x] = [y]) (hx : covers y pc = true) (h0 : y.catchType ≠ 0) (hlink : Cond.classLink M.1.cls y.catchType nm ∈ mGw) (hcast : Cond.castable E nm ∈ mNw) (k : mT l M R K y.handlerPc ls [.float 0] h n cc sc) : mTX l M R K pc ls E h n cc sc := by
  intro p e s m args below meth c G w0 H locs LS ws q ce rest hC hD hcell hv hcl
  obtain ⟨d1, d2, d3, d4, d5, d6, d7⟩ := hD
  have hC' := hC
  obtain ⟨-, -, -, -, -, hown, hts, -, -, ht, hmS, -⟩ := hC'
  rw [htab, hy] at ht
  have hNx := hmS.2.2.2.2.2
  refine vx_catch hown (tableOf pre) y (tableOf suf) ht (fun z hz => ?_) hx h0 (hts _ hlink) (va_Nw.use rfl (hNx.1 _ hcast)) hcell hv hcl (k p e s m args below meth c G w0 H locs LS ws _ hC ⟨d1, d2, d3, d4, d5, d6, mrl.cons (v := .float 0) (v' := .ref q) ⟨q, rfl⟩ rfl⟩)
  rcases hpass z hz with h1 | ⟨h1, h2, rfl⟩
  · exact Or.inl h1
  · exact Or.inr ⟨h1, _, hts _ h2, hNx.2.1⟩
end MTE
theorem mt_test1 : ∀ w ∈ (vx_atS "Runweaver" 289 "java/lang/IndexOutOfBoundsException" ["java/lang/RuntimeException", "java/lang/Exception"]), w ∈ mGw ∨ w ∈ mNw := mGN (by decide +kernel)
theorem mt_test2 : ∀ w ∈ Cond.classLink "Runweaver" 285 "java/lang/IndexOutOfBoundsException" :: Cond.initialized "java/lang/IndexOutOfBoundsException" :: (vx_atS "Runweaver" 289 "java/lang/IndexOutOfBoundsException" ["java/lang/RuntimeException", "java/lang/Exception"]), vx_ot w = true := List.all_eq_true.mp (by decide +kernel)
