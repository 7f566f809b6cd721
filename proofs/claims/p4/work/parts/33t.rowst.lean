/-! ===== rows for bytes, statics, what lies outside the world ===== -/
section MTT
variable {l : Launch} {M : mM} {R : Room} {K : mK} {pc : Nat} {ls st : List Value} {h : mH} {n cc sc : Nat}
theorem mt_getsC {index : Nat} (hdg : decode M.2.1 pc = .ok (.getstatic index, 3)) (hlk : Cond.fieldLink M.1.cls index "java/lang/String" "COMPACT_STRINGS" "Z" ∈ mGw) (k : mT l M R K (pc + 3) ls (.int (nI 1) :: st) h n cc sc) : mT l M R K pc ls st h n cc sc := by
  intro p e s m args below meth c G w0 H locs LS ws st' hC hD
  have hC' := hC
  obtain ⟨d1, d2, d3, d4, d5, d6, d7⟩ := hD
  obtain ⟨hx0, -, hb, -, -, hown, hts, -, -, -, hmS, hmZ, -⟩ := hC'
  exact va_gets hx0 hb hmZ.2.2.1 d4 hown (hts _ hlk) (fun x q => q) hdg (k p e s m args below meth c G w0 H locs LS ws _ hC ⟨d1, d2, d3, d4, d5, d6, mrl.cons (v := .int (nI 1)) (v' := .int 1) rfl d7⟩)
theorem mt_getsO {index : Nat} (hdg : decode M.2.1 pc = .ok (.getstatic index, 3)) (hlk : Cond.fieldLink M.1.cls index "java/lang/Integer" "DigitOnes" "[B" ∈ mGw) (k : mT l M R K (pc + 3) ls (.retAddr 3 :: st) h n cc sc) : mT l M R K pc ls st h n cc sc := by
  intro p e s m args below meth c G w0 H locs LS ws st' hC hD
  have hC' := hC
  obtain ⟨d1, d2, d3, d4, d5, d6, d7⟩ := hD
  obtain ⟨hx0, -, hb, -, -, hown, hts, -, -, -, hmS, hmZ, -⟩ := hC'
  exact va_gets hx0 hb hmZ.2.2.2.1 d4 hown (hts _ hlk) (fun x q => q) hdg (k p e s m args below meth c G w0 H locs LS ws _ hC ⟨d1, d2, d3, d4, d5, d6, mrl.cons (v := .retAddr 3) (v' := .ref (G.2.2.2.1 3)) rfl d7⟩)
theorem mt_getsT {index : Nat} (hdg : decode M.2.1 pc = .ok (.getstatic index, 3)) (hlk : Cond.fieldLink M.1.cls index "java/lang/Integer" "DigitTens" "[B" ∈ mGw) (k : mT l M R K (pc + 3) ls (.retAddr 4 :: st) h n cc sc) : mT l M R K pc ls st h n cc sc := by
  intro p e s m args below meth c G w0 H locs LS ws st' hC hD
  have hC' := hC
  obtain ⟨d1, d2, d3, d4, d5, d6, d7⟩ := hD
  obtain ⟨hx0, -, hb, -, -, hown, hts, -, -, -, hmS, hmZ, -⟩ := hC'
  exact va_gets hx0 hb hmZ.2.2.2.2.1 d4 hown (hts _ hlk) (fun x q => q) hdg (k p e s m args below meth c G w0 H locs LS ws _ hC ⟨d1, d2, d3, d4, d5, d6, mrl.cons (v := .retAddr 4) (v' := .ref (G.2.2.2.1 4)) rfl d7⟩)
theorem mt_tb3 {j : Nat} (hdg : decode M.2.1 pc = .ok (.baload, 1)) (hj : j < 100) (k : ∀ v : Int32, mT l M R K (pc + 1) ls (.int v :: st) h n cc sc) : mT l M R K pc ls (.int (nI j) :: .retAddr 3 :: st) h n cc sc := by
  intro p e s m args below meth c G w0 H locs LS ws st' hC hD
  have hC' := hC
  obtain ⟨d1, d2, d3, d4, d5, d6, d7⟩ := hD
  obtain ⟨hx0, -, hb, -, -, hown, hts, -, -, -, hmS, hmZ, -⟩ := hC'
  obtain ⟨t1, rfl, d7a⟩ := d7.int
  obtain ⟨v', t', rfl, hv, d7b⟩ := d7a
  obtain rfl : v' = .ref (G.2.2.2.1 3) := hv
  obtain ⟨f, hT⟩ := hmZ.2.2.2.2.2.1
  exact va_tb hx0 hb hT d4 (vp_in_nI hj (by decide)) (v := .int (f j)) (by rw [nI_clamp (by omega)]) hdg (k (f j) p e s m args below meth c G w0 H locs LS ws _ hC ⟨d1, d2, d3, d4, d5, d6, mrl.cons (v := .int (f j)) (v' := .int (f j)) rfl d7b⟩)
theorem mt_tb4 {j : Nat} (hdg : decode M.2.1 pc = .ok (.baload, 1)) (hj : j < 100) (k : ∀ v : Int32, mT l M R K (pc + 1) ls (.int v :: st) h n cc sc) : mT l M R K pc ls (.int (nI j) :: .retAddr 4 :: st) h n cc sc := by
  intro p e s m args below meth c G w0 H locs LS ws st' hC hD
  have hC' := hC
  obtain ⟨d1, d2, d3, d4, d5, d6, d7⟩ := hD
  obtain ⟨hx0, -, hb, -, -, hown, hts, -, -, -, hmS, hmZ, -⟩ := hC'
  obtain ⟨t1, rfl, d7a⟩ := d7.int
  obtain ⟨v', t', rfl, hv, d7b⟩ := d7a
  obtain rfl : v' = .ref (G.2.2.2.1 4) := hv
  obtain ⟨f, hT⟩ := hmZ.2.2.2.2.2.2.1
  exact va_tb hx0 hb hT d4 (vp_in_nI hj (by decide)) (v := .int (f j)) (by rw [nI_clamp (by omega)]) hdg (k (f j) p e s m args below meth c G w0 H locs LS ws _ hC ⟨d1, d2, d3, d4, d5, d6, mrl.cons (v := .int (f j)) (v' := .int (f j)) rfl d7b⟩)
theorem mt_bastore {a len j : Nat} {x : Int32} {f : Nat → Int32} (hdg : decode M.2.1 pc = .ok (.bastore, 1)) (he : h a = .inl (1, len, f)) (hj : j < len) (hL : len < 2 ^ 31) (k : mT l M R K (pc + 1) ls st (mup h a (.inl (1, len, upd f j (vp_nar .byte x)))) n cc sc) : mT l M R K pc ls (.int x :: .int (nI j) :: .ref a :: st) h n cc sc := by
  intro p e s m args below meth c G w0 H locs LS ws st' hC hD
  obtain ⟨d1, d2, d3, d4, d5, d6, d7⟩ := hD
  obtain ⟨t0, rfl, d70⟩ := d7.int
  obtain ⟨t1, rfl, d7a⟩ := d70.int
  obtain ⟨⟨y, e'⟩, t', h1, rfl, d7b⟩ := d7a.ref
  have hr := d1.at h1
  rw [he] at hr
  cases (show e' = .inl (G.2.1 1, len, .inl f) from hr)
  refine va_bast hC.1 hC.2.2.1 hC.2.2.2.2.2.2.2.2.2.2.1.1 d2 d3 d4 a 1 h1 rfl (vp_in_nI hj hL) hdg (fun H1 locs1 g1 g2 g3 => ?_)
  rw [nI_clamp (Nat.lt_trans hj hL)] at g1 g2
  have hE := mExt.set (e := .inl (G.2.1 1, len, .inl (upd f j (vp_nar .byte x)))) h1
  exact k p e s m args below meth c G w0 H1 locs1 LS _ _ hC ⟨d1.set h1 rfl, g1, g2, g3, d5.tr hE, d6.mono hE, d7b.mono hE⟩
theorem mt_newarrayB {len : Nat} (hdg : decode M.2.1 pc = .ok (.newarray .byte, 2)) (harr : Cond.arrayClass .byte ∈ mGw) (hL : len < 2 ^ 27) (hcc : cc + 1 ≤ R.cells) (hsc : sc + len ≤ R.slots) (k : mT l M R K (pc + 2) ls (.ref n :: st) (mup h n (.inl (1, len, fun _ => 0))) (n + 1) (cc + 1) (sc + len)) : mT l M R K pc ls (.int (nI len) :: st) h n cc sc := by
  intro p e s m args below meth c G w0 H locs LS ws st' hC hD
  obtain ⟨d1, d2, d3, d4, d5, d6, d7⟩ := hD
  obtain ⟨t1, rfl, d7a⟩ := d7.int
  have hC' := hC
  obtain ⟨hx0, -, hb, -, -, hown, hts, -, -, -, hmS, -⟩ := hC'
  refine va_newa (atype := .byte) (ty := .byte) (a0 := (len, .inl (fun _ => 0))) hx0 hb (hts _ harr) rfl hmS.1 d2 d3 d4 (fun q hq => Or.inr hq) (fun _ => rfl) (nI_pos (by omega)) (nI_clamp (by omega)) (by show len * 1 ≤ _; omega) hcc hsc hdg (fun q cA H1 g0 g1 g2 g3 => ?_)
  have hcA : cA = G.2.1 1 := by
    have h1 := (g0.2 (mTy G.2.1).length _ (by rw [List.getElem?_append_right (Nat.le_refl _), Nat.sub_self]; rfl)).2
    have h2 := (hmS.1.2 1 _ rfl).2
    exact Option.some.inj (Eq.trans (Eq.symm h1) h2)
  subst hcA
  have hE : mExt ws (ws ++ [(q, .inl (G.2.1 1, len, .inl (fun _ => 0)))]) := mExt.push
  exact k p e s m args below meth c G w0 H1 locs LS _ _ hC ⟨d1.push rfl, g1, g2, g3, d5.tr hE, d6.mono hE, mrl.cons (d1.pushL rfl) (d7a.mono hE)⟩
theorem mt_ineg {x : Int32} (hdg : decode M.2.1 pc = .ok (.ineg, 1)) (k : mT l M R K (pc + 1) ls (.int (-x) :: st) h n cc sc) : mT l M R K pc ls (.int x :: st) h n cc sc := mt_lift k (fun _ _ _ hx hb hr => by
  obtain ⟨_, rfl, hr2⟩ := hr.int
  exact ⟨_, mrl.cons (v' := .int (-x)) rfl hr2, lv_ineg hx hb hdg⟩)
theorem mt_i2b {x : Int32} (hdg : decode M.2.1 pc = .ok (.i2b, 1)) (k : mT l M R K (pc + 1) ls (.int x.toInt8.toInt32 :: st) h n cc sc) : mT l M R K pc ls (.int x :: st) h n cc sc := mt_lift k (fun _ _ _ hx hb hr => by
  obtain ⟨_, rfl, hr2⟩ := hr.int
  exact ⟨_, mrl.cons (v' := .int x.toInt8.toInt32) rfl hr2, lv_i2b hx hb hdg rfl⟩)
theorem sh_r0 (x : Int32) : x >>> (nI 0 &&& 31) = x := sb_shr0 x
theorem sh_l0 (x : Int32) : x <<< (nI 0 &&& 31) = x := sb_shl0 x
theorem mt_ishr0 {x : Int32} (hdg : decode M.2.1 pc = .ok (.ishr, 1)) (k : mT l M R K (pc + 1) ls (.int x :: st) h n cc sc) : mT l M R K pc ls (.int (nI 0) :: .int x :: st) h n cc sc := mt_lift k (fun _ _ _ hx hb hr => by
  obtain ⟨_, rfl, hr2⟩ := hr.int
  obtain ⟨_, rfl, hr3⟩ := hr2.int
  exact ⟨_, mrl.cons (v' := .int x) rfl hr3, fun kk => lv_ishr hx hb hdg (by rw [sh_r0]; exact kk)⟩)
theorem mt_ishl0 {x : Int32} (hdg : decode M.2.1 pc = .ok (.ishl, 1)) (k : mT l M R K (pc + 1) ls (.int x :: st) h n cc sc) : mT l M R K pc ls (.int (nI 0) :: .int x :: st) h n cc sc := mt_lift k (fun _ _ _ hx hb hr => by
  obtain ⟨_, rfl, hr2⟩ := hr.int
  obtain ⟨_, rfl, hr3⟩ := hr2.int
  exact ⟨_, mrl.cons (v' := .int x) rfl hr3, fun kk => lv_ishl hx hb hdg (by rw [sh_l0]; exact kk)⟩)
theorem mt_ldcSp (hM : M.1.cls = "RunweaverModel") (hdg : decode M.2.1 pc = .ok (.ldc 122, 2)) (k : mT l M R K (pc + 2) ls (.retAddr 1 :: st) h n cc sc) : mT l M R K pc ls st h n cc sc := by
  intro p e s m args below meth c G w0 H locs LS ws st' hC hD
  have hC' := hC
  obtain ⟨d1, d2, d3, d4, d5, d6, d7⟩ := hD
  obtain ⟨hx0, -, hb, -, -, hown, hts, -, -, -, hmS, hmZ, -⟩ := hC'
  rw [hM] at hown
  exact va_ldcS hx0 hb hown hmS.2.2.2.2.1.2.2.2.2.2 hdg (k p e s m args below meth c G w0 H locs LS ws _ hC ⟨d1, d2, d3, d4, d5, d6, mrl.cons (v := .retAddr 1) (v' := .ref (G.2.2.2.1 1)) rfl d7⟩)
theorem mt_ldcE (hM : M.1.cls = "RunweaverModel") (hdg : decode M.2.1 pc = .ok (.ldc 117, 2)) (k : mT l M R K (pc + 2) ls (.float 0 :: st) h n cc sc) : mT l M R K pc ls st h n cc sc := by
  intro p e s m args below meth c G w0 H locs LS ws st' hC hD
  have hC' := hC
  obtain ⟨d1, d2, d3, d4, d5, d6, d7⟩ := hD
  obtain ⟨hx0, -, hb, -, -, hown, hts, -, -, -, hmS, hmZ, -⟩ := hC'
  rw [hM] at hown
  exact va_ldcS hx0 hb hown hmS.2.2.2.2.1.2.2.2.2.1 hdg (k p e s m args below meth c G w0 H locs LS ws _ hC ⟨d1, d2, d3, d4, d5, d6, mrl.cons (v := .float 0) (v' := .ref (G.2.2.1 4)) ⟨_, rfl⟩ d7⟩)
theorem mt_xlenB (hdg : decode M.2.1 pc = .ok (.arraylength, 1)) (k : mT l M R K (pc + 1) ls (.int (nI 1) :: st) h n cc sc) : mT l M R K pc ls (.retAddr 2 :: st) h n cc sc := by
  intro p e s m args below meth c G w0 H locs LS ws st' hC hD
  have hC' := hC
  obtain ⟨d1, d2, d3, d4, d5, d6, d7⟩ := hD
  obtain ⟨hx0, -, hb, -, -, hown, hts, -, -, -, hmS, hmZ, -⟩ := hC'
  obtain ⟨v', t', rfl, hv, d7b⟩ := d7
  obtain rfl : v' = .ref (G.2.2.2.1 2) := hv
  obtain ⟨f, ⟨cell, h1, h2, h3, h4, h5, h6, h7⟩, -⟩ := hmZ.2.2.2.2.2.2.2.2.2.2
  exact W.alen (n := nI 1) hx0 hb (by rw [d4.2.1 _ (Array.getElem?_eq_some_iff.mp h1).1 h7]; exact h1) h2 h5 rfl rfl hdg (k p e s m args below meth c G w0 H locs LS ws _ hC ⟨d1, d2, d3, d4, d5, d6, mrl.cons (v := .int (nI 1)) (v' := .int (nI 1)) rfl d7b⟩)
theorem mt_xcoder {index : Nat} (hdg : decode M.2.1 pc = .ok (.getfield index, 3)) (hlk : Cond.fieldLink M.1.cls index "java/lang/String" "coder" "B" ∈ mGw) (k : mT l M R K (pc + 3) ls (.int (nI 0) :: st) h n cc sc) : mT l M R K pc ls (.retAddr 1 :: st) h n cc sc := by
  intro p e s m args below meth c G w0 H locs LS ws st' hC hD
  have hC' := hC
  obtain ⟨d1, d2, d3, d4, d5, d6, d7⟩ := hD
  obtain ⟨hx0, -, hb, -, -, hown, hts, -, -, -, hmS, hmZ, -⟩ := hC'
  obtain ⟨v', t', rfl, hv, d7b⟩ := d7
  obtain rfl : v' = .ref (G.2.2.2.1 1) := hv
  exact vk_getf hx0 hb hmZ.2.2.2.2.2.2.2.2.1 d4 hown (hts _ hlk) (fun x q => q) hdg (k p e s m args below meth c G w0 H locs LS ws _ hC ⟨d1, d2, d3, d4, d5, d6, mrl.cons (v := .int (nI 0)) (v' := .int 0) rfl d7b⟩)
theorem mt_xvalue {index : Nat} (hdg : decode M.2.1 pc = .ok (.getfield index, 3)) (hlk : Cond.fieldLink M.1.cls index "java/lang/String" "value" "[B" ∈ mGw) (k : mT l M R K (pc + 3) ls (.retAddr 2 :: st) h n cc sc) : mT l M R K pc ls (.retAddr 1 :: st) h n cc sc := by
  intro p e s m args below meth c G w0 H locs LS ws st' hC hD
  have hC' := hC
  obtain ⟨d1, d2, d3, d4, d5, d6, d7⟩ := hD
  obtain ⟨hx0, -, hb, -, -, hown, hts, -, -, -, hmS, hmZ, -⟩ := hC'
  obtain ⟨v', t', rfl, hv, d7b⟩ := d7
  obtain rfl : v' = .ref (G.2.2.2.1 1) := hv
  exact vk_getf hx0 hb hmZ.2.2.2.2.2.2.2.2.2.1 d4 hown (hts _ hlk) (fun x q => q) hdg (k p e s m args below meth c G w0 H locs LS ws _ hC ⟨d1, d2, d3, d4, d5, d6, mrl.cons (v := .retAddr 2) (v' := .ref (G.2.2.2.1 2)) rfl d7b⟩)
end MTT
