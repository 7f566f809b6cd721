/-! ===== the reference's beginning ===== -/
section MTM
variable {l : Launch} {M : mM} {R : Room} {K : mK} {pc : Nat} {ls st : List Value} {h : mH} {n cc sc : Nat}
def mnaH (h : mH) (n : Nat) : mH := fun j => if j < n then h j else if j = n then .inr (.inl (3, 4, fun i => if i < 4 then some (n + 1 + i) else none)) else .inl (0, 0, fun _ => 0)
theorem mt_mna {index : Nat} (hdg : decode M.2.1 pc = .ok (.multianewarray index 2, 4)) (hlk : Cond.classLink M.1.cls index "[[I" ∈ mGw) (harr : Cond.arrayClass .int ∈ mGw) (hcc : cc + 5 ≤ R.cells) (hsc : sc + 4 ≤ R.slots) (k : mT l M R K (pc + 4) ls (.ref n :: st) (mnaH h n) (n + 5) (cc + 5) (sc + 4)) : mT l M R K pc ls (.int (nI 0) :: .int (nI 4) :: st) h n cc sc := by
  intro p e s m args below meth c G w0 H locs LS ws st' hC hD
  obtain ⟨d1, d2, d3, d4, d5, d6, d7⟩ := hD
  obtain ⟨t1, rfl, d7a⟩ := d7.int
  obtain ⟨t2, rfl, d7b⟩ := d7a.int
  have hC' := hC
  obtain ⟨hx0, -, hb, -, -, hown, hts, -, -, -, hmS, -⟩ := hC'
  have hcy : s.vm.findClass "[I" = some (G.2.1 0) := (hmS.1.2 0 _ rfl).2
  refine va_mna (X := ws) (L := []) (f := fun _ => .inl (G.2.1 0, 0, .inl (fun _ => 0))) (N' := 4) (K' := 0) (ty := .int) (z := (0, .inl (fun _ => 0))) hx0 hb hown (hts _ hlk) hmS.2.2.2.2.2.2.2 (hts _ harr) hcy hmS.1 (by rw [show va_pl [] (fun _ => (.inl (G.2.1 0, 0, .inl (fun _ => 0)) : va_E)) = [] from rfl, List.append_nil]; exact d2) (by rw [show va_pl [] (fun _ => (.inl (G.2.1 0, 0, .inl (fun _ => 0)) : va_E)) = [] from rfl, List.append_nil]; exact d3) d4 (fun q hq => Or.inr hq) (nI_pos (by decide)) (nI_pos (by decide)) (nI_clamp (by decide)) (nI_clamp (by decide)) (by decide) (by decide) (by decide) rfl rfl hcc hsc (fun _ => rfl) hdg (fun q r cA H1 r1 r2 g0 g1 g2 g3 => ?_)
  have hcA : cA = G.2.1 3 := by
    have h1 := (g0.2 (mTy G.2.1).length _ (by rw [List.getElem?_append_right (Nat.le_refl _), Nat.sub_self]; rfl)).2
    have h2 := (hmS.1.2 3 _ rfl).2
    exact Option.some.inj (Eq.trans (Eq.symm h1) h2)
  subst hcA
  have e9 : ∀ E : va_E, va_pl ([] ++ (List.range 4).map r) (vr_up (fun _ => E) ((List.range 4).map r) E) = [(r 0, E), (r 1, E), (r 2, E), (r 3, E)] := fun E => by simp [va_pl, vr_up, List.range, List.range.loop]
  rw [e9, List.append_assoc] at g1 g2
  generalize hT : ([(q, (.inl (G.2.1 3, 4, .inr (.inr (.inr (.inr (fun i => if i < 4 then some (r i) else none))))) : va_E))] ++ [(r 0, .inl (G.2.1 0, 0, .inl (fun _ => 0))), (r 1, .inl (G.2.1 0, 0, .inl (fun _ => 0))), (r 2, .inl (G.2.1 0, 0, .inl (fun _ => 0))), (r 3, .inl (G.2.1 0, 0, .inl (fun _ => 0)))] : va_W) = T at g1 g2
  have hlen : ws.length = n := d1.1
  have hE : mExt ws (ws ++ T) := mExt.push
  have hat : ∀ i x, T[i]? = some x → (ws ++ T)[n + i]? = some x := fun i x hx => by
    rw [List.getElem?_append_right (by omega), hlen, Nat.add_sub_cancel_left]; exact hx
  have hW : mW G (mnaH h n) (n + 5) (ws ++ T) := by
    refine ⟨by rw [List.length_append, hlen, ← hT]; rfl, fun j y hj => ?_⟩
    by_cases q1 : j < n
    · rw [List.getElem?_append_left (by omega)] at hj
      rw [show mnaH h n j = h j from if_pos q1]
      exact (d1.2 j y hj).mono hE
    · obtain ⟨i, rfl⟩ : ∃ i, j = n + i := ⟨j - n, by omega⟩
      rw [List.getElem?_append_right (by omega), hlen, Nat.add_sub_cancel_left] at hj
      match i, hj with
      | 0, hj =>
        rw [← hT] at hj
        cases hj
        rw [show mnaH h n (n + 0) = .inr (.inl (3, 4, fun i => if i < 4 then some (n + 1 + i) else none)) from (if_neg (by omega)).trans (if_pos rfl)]
        refine ⟨_, rfl, fun j => ?_⟩
        by_cases qj : j < 4
        · simp only [if_pos qj]
          have h5 : T[1 + j]? = some (r j, .inl (G.2.1 0, 0, .inl (fun _ => 0))) := by
            rw [← hT]
            obtain rfl | rfl | rfl | rfl : j = 0 ∨ j = 1 ∨ j = 2 ∨ j = 3 := by omega
            all_goals rfl
          exact ⟨_, by rw [Nat.add_assoc]; exact hat _ _ h5, rfl⟩
        · simp only [if_neg qj]; rfl
      | i + 1, hj =>
        have h6 : y.2 = .inl (G.2.1 0, 0, .inl (fun _ => 0)) := by
          rw [← hT] at hj
          match i, hj with
          | 0, hj => cases hj; rfl
          | 1, hj => cases hj; rfl
          | 2, hj => cases hj; rfl
          | 3, hj => cases hj; rfl
          | i + 4, hj => cases hj
        rw [show mnaH h n (n + (i + 1)) = .inl (0, 0, fun _ => 0) from (if_neg (by omega)).trans (if_neg (by omega))]
        exact h6
  refine k p e s m args below meth c G w0 H1 locs LS _ _ hC ⟨hW, g1, g2, g3, d5.tr hE, d6.mono hE, mrl.cons ⟨_, hat 0 _ (by rw [← hT]; rfl), rfl⟩ (d7b.mono hE)⟩
theorem mp_mna {index : Nat} (hdg : decode M.2.1 pc = .ok (.multianewarray index 2, 4)) (hlk : Cond.classLink M.1.cls index "[[I" ∈ mGw) (harr : Cond.arrayClass .int ∈ mGw) (hcc : cc + 5 ≤ R.cells) (hsc : sc + 4 ≤ R.slots) (k : ∀ h' : mH, h' n = .inr (.inl (3, 4, fun i => if i < 4 then some (n + 1 + i) else none)) → (∀ i, i < 4 → h' (n + 1 + i) = .inl (0, 0, fun _ => 0)) → (∀ j, j < n → h' j = h j) → mT l M R K (pc + 4) ls (.ref n :: st) h' (n + 5) (cc + 5) (sc + 4)) : mT l M R K pc ls (.int (nI 0) :: .int (nI 4) :: st) h n cc sc :=
  mt_mna hdg hlk harr hcc hsc (k _ ((if_neg (by omega)).trans (if_pos rfl)) (fun i hi => (if_neg (by omega)).trans (if_neg (by omega))) (fun j hj => if_pos hj))
end MTM

/-! ===== rows for bytes, statics, what lies outside the world ===== -/
section MTT
variable {l : Launch} {M : mM} {R : Room} {K : mK} {pc : Nat} {ls st : List Value} {h : mH} {n cc sc : Nat}
theorem mt_getsC {index : Nat} (hdg : decode M.2.1 pc = .ok (.getstatic index, 3)) (hlk : Cond.fieldLink M.1.cls index "java/lang/String" "COMPACT_STRINGS" "Z" ∈ mGw) (k : mT l M R K (pc + 3) ls (.int (nI 1) :: st) h n cc sc) : mT l M R K pc ls st h n cc sc := by
  intro p e s m args below meth c G w0 H locs LS ws st' hC hD
  have hC' := hC
  obtain ⟨d1, d2, d3, d4, d5, d6, d7⟩ := hD
  obtain ⟨hx0, -, hb, -, -, hown, hts, -, -, -, hmS, hmZ, -⟩ := hC'
  exact va_gets hx0 hb hmZ.2.2.1 d4 hown (hts _ hlk) (fun x q => q) hdg (k p e s m args below meth c G w0 H locs LS ws _ hC ⟨d1, d2, d3, d4, d5, d6, mrl.cons (v := .int (nI 1)) (v' := .int 1) rfl d7⟩)
theorem mt_getsO {index : Nat} (hdg : decode M.2.1 pc = .ok (.getstatic index, 3)) (hlk : Cond.fieldLink M.1.cls index "java/lang/Integer" "DigitOnes" "[B" ∈ mGw) (k : mT l M R K (pc + 3) ls (.retAddr 3 :: st) h n cc sc) : mT l M R K pc ls st h n cc sc := by
  intro p e s m args below meth c G w0 H locs LS ws st' hC hD
  have hC' := hC
  obtain ⟨d1, d2, d3, d4, d5, d6, d7⟩ := hD
  obtain ⟨hx0, -, hb, -, -, hown, hts, -, -, -, hmS, hmZ, -⟩ := hC'
  exact va_gets hx0 hb hmZ.2.2.2.1 d4 hown (hts _ hlk) (fun x q => q) hdg (k p e s m args below meth c G w0 H locs LS ws _ hC ⟨d1, d2, d3, d4, d5, d6, mrl.cons (v := .retAddr 3) (v' := .ref (G.2.2.2.1 3)) rfl d7⟩)
theorem mt_getsT {index : Nat} (hdg : decode M.2.1 pc = .ok (.getstatic index, 3)) (hlk : Cond.fieldLink M.1.cls index "java/lang/Integer" "DigitTens" "[B" ∈ mGw) (k : mT l M R K (pc + 3) ls (.retAddr 4 :: st) h n cc sc) : mT l M R K pc ls st h n cc sc := by
  intro p e s m args below meth c G w0 H locs LS ws st' hC hD
  have hC' := hC
  obtain ⟨d1, d2, d3, d4, d5, d6, d7⟩ := hD
  obtain ⟨hx0, -, hb, -, -, hown, hts, -, -, -, hmS, hmZ, -⟩ := hC'
  exact va_gets hx0 hb hmZ.2.2.2.2.1 d4 hown (hts _ hlk) (fun x q => q) hdg (k p e s m args below meth c G w0 H locs LS ws _ hC ⟨d1, d2, d3, d4, d5, d6, mrl.cons (v := .retAddr 4) (v' := .ref (G.2.2.2.1 4)) rfl d7⟩)
theorem mt_tb3 {j : Nat} (hdg : decode M.2.1 pc = .ok (.baload, 1)) (hj : j < 100) (k : ∀ v : Int32, mT l M R K (pc + 1) ls (.int v :: st) h n cc sc) : mT l M R K pc ls (.int (nI j) :: .retAddr 3 :: st) h n cc sc := by
  intro p e s m args below meth c G w0 H locs LS ws st' hC hD
  have hC' := hC
  obtain ⟨d1, d2, d3, d4, d5, d6, d7⟩ := hD
  obtain ⟨hx0, -, hb, -, -, hown, hts, -, -, -, hmS, hmZ, -⟩ := hC'
  obtain ⟨t1, rfl, d7a⟩ := d7.int
  obtain ⟨v', t', rfl, hv, d7b⟩ := d7a
  obtain rfl : v' = .ref (G.2.2.2.1 3) := hv
  obtain ⟨f, hT⟩ := hmZ.2.2.2.2.2.1
  exact va_tb hx0 hb hT d4 (vp_in_nI hj (by decide)) (v := .int (f j)) (by rw [nI_clamp (by omega)]) hdg (k (f j) p e s m args below meth c G w0 H locs LS ws _ hC ⟨d1, d2, d3, d4, d5, d6, mrl.cons (v := .int (f j)) (v' := .int (f j)) rfl d7b⟩)
theorem mt_tb4 {j : Nat} (hdg : decode M.2.1 pc = .ok (.baload, 1)) (hj : j < 100) (k : ∀ v : Int32, mT l M R K (pc + 1) ls (.int v :: st) h n cc sc) : mT l M R K pc ls (.int (nI j) :: .retAddr 4 :: st) h n cc sc := by
  intro p e s m args below meth c G w0 H locs LS ws st' hC hD
  have hC' := hC
  obtain ⟨d1, d2, d3, d4, d5, d6, d7⟩ := hD
  obtain ⟨hx0, -, hb, -, -, hown, hts, -, -, -, hmS, hmZ, -⟩ := hC'
  obtain ⟨t1, rfl, d7a⟩ := d7.int
  obtain ⟨v', t', rfl, hv, d7b⟩ := d7a
  obtain rfl : v' = .ref (G.2.2.2.1 4) := hv
  obtain ⟨f, hT⟩ := hmZ.2.2.2.2.2.2.1
  exact va_tb hx0 hb hT d4 (vp_in_nI hj (by decide)) (v := .int (f j)) (by rw [nI_clamp (by omega)]) hdg (k (f j) p e s m args below meth c G w0 H locs LS ws _ hC ⟨d1, d2, d3, d4, d5, d6, mrl.cons (v := .int (f j)) (v' := .int (f j)) rfl d7b⟩)
theorem mt_bastore {a len j : Nat} {x : Int32} {f : Nat → Int32} (hdg : decode M.2.1 pc = .ok (.bastore, 1)) (he : h a = .inl (1, len, f)) (hj : j < len) (hL : len < 2 ^ 31) (k : mT l M R K (pc + 1) ls st (mup h a (.inl (1, len, upd f j (vp_nar .byte x)))) n cc sc) : mT l M R K pc ls (.int x :: .int (nI j) :: .ref a :: st) h n cc sc := by
  intro p e s m args below meth c G w0 H locs LS ws st' hC hD
  obtain ⟨d1, d2, d3, d4, d5, d6, d7⟩ := hD
  obtain ⟨t0, rfl, d70⟩ := d7.int
  obtain ⟨t1, rfl, d7a⟩ := d70.int
  obtain ⟨⟨y, e'⟩, t', h1, rfl, d7b⟩ := d7a.ref
  have hr := d1.at h1
  rw [he] at hr
  cases (show e' = .inl (G.2.1 1, len, .inl f) from hr)
  refine va_bast hC.1 hC.2.2.1 hC.2.2.2.2.2.2.2.2.2.2.1.1 d2 d3 d4 a 1 h1 rfl (vp_in_nI hj hL) hdg (fun H1 locs1 g1 g2 g3 => ?_)
  rw [nI_clamp (Nat.lt_trans hj hL)] at g1 g2
  have hE := mExt.set (e := .inl (G.2.1 1, len, .inl (upd f j (vp_nar .byte x)))) h1
  exact k p e s m args below meth c G w0 H1 locs1 LS _ _ hC ⟨d1.set h1 rfl, g1, g2, g3, d5.tr hE, d6.mono hE, d7b.mono hE⟩
theorem mt_newarrayB {len : Nat} (hdg : decode M.2.1 pc = .ok (.newarray .byte, 2)) (harr : Cond.arrayClass .byte ∈ mGw) (hL : len < 2 ^ 27) (hcc : cc + 1 ≤ R.cells) (hsc : sc + len ≤ R.slots) (k : mT l M R K (pc + 2) ls (.ref n :: st) (mup h n (.inl (1, len, fun _ => 0))) (n + 1) (cc + 1) (sc + len)) : mT l M R K pc ls (.int (nI len) :: st) h n cc sc := by
  intro p e s m args below meth c G w0 H locs LS ws st' hC hD
  obtain ⟨d1, d2, d3, d4, d5, d6, d7⟩ := hD
  obtain ⟨t1, rfl, d7a⟩ := d7.int
  have hC' := hC
  obtain ⟨hx0, -, hb, -, -, hown, hts, -, -, -, hmS, -⟩ := hC'
  refine va_newa (atype := .byte) (ty := .byte) (a0 := (len, .inl (fun _ => 0))) hx0 hb (hts _ harr) rfl hmS.1 d2 d3 d4 (fun q hq => Or.inr hq) (fun _ => rfl) (nI_pos (by omega)) (nI_clamp (by omega)) (by show len * 1 ≤ _; omega) hcc hsc hdg (fun q cA H1 g0 g1 g2 g3 => ?_)
  have hcA : cA = G.2.1 1 := by
    have h1 := (g0.2 (mTy G.2.1).length _ (by rw [List.getElem?_append_right (Nat.le_refl _), Nat.sub_self]; rfl)).2
    have h2 := (hmS.1.2 1 _ rfl).2
    exact Option.some.inj (Eq.trans (Eq.symm h1) h2)
  subst hcA
  have hE : mExt ws (ws ++ [(q, .inl (G.2.1 1, len, .inl (fun _ => 0)))]) := mExt.push
  exact k p e s m args below meth c G w0 H1 locs LS _ _ hC ⟨d1.push rfl, g1, g2, g3, d5.tr hE, d6.mono hE, mrl.cons (d1.pushL rfl) (d7a.mono hE)⟩
theorem mt_ineg {x : Int32} (hdg : decode M.2.1 pc = .ok (.ineg, 1)) (k : mT l M R K (pc + 1) ls (.int (-x) :: st) h n cc sc) : mT l M R K pc ls (.int x :: st) h n cc sc := mt_lift k (fun _ _ _ hx hb hr => by
  obtain ⟨_, rfl, hr2⟩ := hr.int
  exact ⟨_, mrl.cons (v' := .int (-x)) rfl hr2, lv_ineg hx hb hdg⟩)
theorem mt_i2b {x : Int32} (hdg : decode M.2.1 pc = .ok (.i2b, 1)) (k : mT l M R K (pc + 1) ls (.int x.toInt8.toInt32 :: st) h n cc sc) : mT l M R K pc ls (.int x :: st) h n cc sc := mt_lift k (fun _ _ _ hx hb hr => by
  obtain ⟨_, rfl, hr2⟩ := hr.int
  exact ⟨_, mrl.cons (v' := .int x.toInt8.toInt32) rfl hr2, lv_i2b hx hb hdg rfl⟩)
theorem sh_r0 (x : Int32) : x >>> (nI 0 &&& 31) = x := sb_shr0 x
theorem sh_l0 (x : Int32) : x <<< (nI 0 &&& 31) = x := sb_shl0 x
theorem mt_ishr0 {x : Int32} (hdg : decode M.2.1 pc = .ok (.ishr, 1)) (k : mT l M R K (pc + 1) ls (.int x :: st) h n cc sc) : mT l M R K pc ls (.int (nI 0) :: .int x :: st) h n cc sc := mt_lift k (fun _ _ _ hx hb hr => by
  obtain ⟨_, rfl, hr2⟩ := hr.int
  obtain ⟨_, rfl, hr3⟩ := hr2.int
  exact ⟨_, mrl.cons (v' := .int x) rfl hr3, fun kk => lv_ishr hx hb hdg (by rw [sh_r0]; exact kk)⟩)
theorem mt_ishl0 {x : Int32} (hdg : decode M.2.1 pc = .ok (.ishl, 1)) (k : mT l M R K (pc + 1) ls (.int x :: st) h n cc sc) : mT l M R K pc ls (.int (nI 0) :: .int x :: st) h n cc sc := mt_lift k (fun _ _ _ hx hb hr => by
  obtain ⟨_, rfl, hr2⟩ := hr.int
  obtain ⟨_, rfl, hr3⟩ := hr2.int
  exact ⟨_, mrl.cons (v' := .int x) rfl hr3, fun kk => lv_ishl hx hb hdg (by rw [sh_l0]; exact kk)⟩)
theorem mt_ldcSp (hM : M.1.cls = "RunweaverModel") (hdg : decode M.2.1 pc = .ok (.ldc 122, 2)) (k : mT l M R K (pc + 2) ls (.retAddr 1 :: st) h n cc sc) : mT l M R K pc ls st h n cc sc := by
  intro p e s m args below meth c G w0 H locs LS ws st' hC hD
  have hC' := hC
  obtain ⟨d1, d2, d3, d4, d5, d6, d7⟩ := hD
  obtain ⟨hx0, -, hb, -, -, hown, hts, -, -, -, hmS, hmZ, -⟩ := hC'
  rw [hM] at hown
  exact va_ldcS hx0 hb hown hmS.2.2.2.2.1.2.2.2.2.2 hdg (k p e s m args below meth c G w0 H locs LS ws _ hC ⟨d1, d2, d3, d4, d5, d6, mrl.cons (v := .retAddr 1) (v' := .ref (G.2.2.2.1 1)) rfl d7⟩)
theorem mt_ldcE (hM : M.1.cls = "RunweaverModel") (hdg : decode M.2.1 pc = .ok (.ldc 117, 2)) (k : mT l M R K (pc + 2) ls (.float 0 :: st) h n cc sc) : mT l M R K pc ls st h n cc sc := by
  intro p e s m args below meth c G w0 H locs LS ws st' hC hD
  have hC' := hC
  obtain ⟨d1, d2, d3, d4, d5, d6, d7⟩ := hD
  obtain ⟨hx0, -, hb, -, -, hown, hts, -, -, -, hmS, hmZ, -⟩ := hC'
  rw [hM] at hown
  exact va_ldcS hx0 hb hown hmS.2.2.2.2.1.2.2.2.2.1 hdg (k p e s m args below meth c G w0 H locs LS ws _ hC ⟨d1, d2, d3, d4, d5, d6, mrl.cons (v := .float 0) (v' := .ref (G.2.2.1 4)) ⟨_, rfl⟩ d7⟩)
theorem mt_xlenB (hdg : decode M.2.1 pc = .ok (.arraylength, 1)) (k : mT l M R K (pc + 1) ls (.int (nI 1) :: st) h n cc sc) : mT l M R K pc ls (.retAddr 2 :: st) h n cc sc := by
  intro p e s m args below meth c G w0 H locs LS ws st' hC hD
  have hC' := hC
  obtain ⟨d1, d2, d3, d4, d5, d6, d7⟩ := hD
  obtain ⟨hx0, -, hb, -, -, hown, hts, -, -, -, hmS, hmZ, -⟩ := hC'
  obtain ⟨v', t', rfl, hv, d7b⟩ := d7
  obtain rfl : v' = .ref (G.2.2.2.1 2) := hv
  obtain ⟨f, ⟨cell, h1, h2, h3, h4, h5, h6, h7⟩, -⟩ := hmZ.2.2.2.2.2.2.2.2.2.2
  exact W.alen (n := nI 1) hx0 hb (by rw [d4.2.1 _ (Array.getElem?_eq_some_iff.mp h1).1 h7]; exact h1) h2 h5 rfl rfl hdg (k p e s m args below meth c G w0 H locs LS ws _ hC ⟨d1, d2, d3, d4, d5, d6, mrl.cons (v := .int (nI 1)) (v' := .int (nI 1)) rfl d7b⟩)
theorem mt_xcoder {index : Nat} (hdg : decode M.2.1 pc = .ok (.getfield index, 3)) (hlk : Cond.fieldLink M.1.cls index "java/lang/String" "coder" "B" ∈ mGw) (k : mT l M R K (pc + 3) ls (.int (nI 0) :: st) h n cc sc) : mT l M R K pc ls (.retAddr 1 :: st) h n cc sc := by
  intro p e s m args below meth c G w0 H locs LS ws st' hC hD
  have hC' := hC
  obtain ⟨d1, d2, d3, d4, d5, d6, d7⟩ := hD
  obtain ⟨hx0, -, hb, -, -, hown, hts, -, -, -, hmS, hmZ, -⟩ := hC'
  obtain ⟨v', t', rfl, hv, d7b⟩ := d7
  obtain rfl : v' = .ref (G.2.2.2.1 1) := hv
  exact vk_getf hx0 hb hmZ.2.2.2.2.2.2.2.2.1 d4 hown (hts _ hlk) (fun x q => q) hdg (k p e s m args below meth c G w0 H locs LS ws _ hC ⟨d1, d2, d3, d4, d5, d6, mrl.cons (v := .int (nI 0)) (v' := .int 0) rfl d7b⟩)
theorem mt_xvalue {index : Nat} (hdg : decode M.2.1 pc = .ok (.getfield index, 3)) (hlk : Cond.fieldLink M.1.cls index "java/lang/String" "value" "[B" ∈ mGw) (k : mT l M R K (pc + 3) ls (.retAddr 2 :: st) h n cc sc) : mT l M R K pc ls (.retAddr 1 :: st) h n cc sc := by
  intro p e s m args below meth c G w0 H locs LS ws st' hC hD
  have hC' := hC
  obtain ⟨d1, d2, d3, d4, d5, d6, d7⟩ := hD
  obtain ⟨hx0, -, hb, -, -, hown, hts, -, -, -, hmS, hmZ, -⟩ := hC'
  obtain ⟨v', t', rfl, hv, d7b⟩ := d7
  obtain rfl : v' = .ref (G.2.2.2.1 1) := hv
  exact vk_getf hx0 hb hmZ.2.2.2.2.2.2.2.2.2.1 d4 hown (hts _ hlk) (fun x q => q) hdg (k p e s m args below meth c G w0 H locs LS ws _ hC ⟨d1, d2, d3, d4, d5, d6, mrl.cons (v := .retAddr 2) (v' := .ref (G.2.2.2.1 2)) rfl d7b⟩)
end MTT

/-! ===== rows for bytes: copies; calls on what lies outside; calls of an inherited method ===== -/
def bFit (f : Nat → Int32) : Prop := ∀ i, fits .byte (.int (f i)) = true
section MTU
variable {l : Launch} {M : mM} {R : Room} {K : mK} {pc : Nat} {ls st : List Value} {h : mH} {n cc sc : Nat}
theorem mt_acopyB {a b la lb sp dp cnt index : Nat} {f g : Nat → Int32} (hdg : decode M.2.1 pc = .ok (.invokestatic index, 3)) (hlk : Cond.methodLink M.1.cls index arraycopyName ∈ mGw) (hnat : Cond.native arraycopyName ∈ mGw) (hst : Cond.static arraycopyName ∈ mGw) (hini : Cond.initialized "java/lang/System" ∈ mGw) (ha : h a = .inl (1, la, f)) (hb : h b = .inl (1, lb, g)) (hf : bFit f) (h4 : sp + cnt ≤ la) (h5 : dp + cnt ≤ lb) (hla : la < 2 ^ 31) (hlb : lb < 2 ^ 31) (hw : (st.map mcw).sum ≤ 8) (hR : 1 ≤ R.frames ∧ 8 + 18 ≤ R.locals) (k : mT l M R K (pc + 3) ls st (mup h b (.inl (1, lb, va_cpy f g sp dp cnt))) n cc sc) : mT l M R K pc ls (.int (nI cnt) :: .int (nI dp) :: .ref b :: .int (nI sp) :: .ref a :: st) h n cc sc := by
  intro p e s m args below meth c G w0 H locs LS ws st' hC hD
  obtain ⟨d1, d2, d3, d4, d5, d6, d7⟩ := hD
  obtain ⟨t1, rfl, d7a⟩ := d7.int
  obtain ⟨t2, rfl, d7b⟩ := d7a.int
  obtain ⟨⟨yb, eb⟩, t3, hwb, rfl, d7c⟩ := d7b.ref
  obtain ⟨t4, rfl, d7d⟩ := d7c.int
  obtain ⟨⟨ya, ea⟩, t5, hwa, rfl, d7e⟩ := d7d.ref
  have hra := d1.at hwa
  rw [ha] at hra
  cases (show ea = .inl (G.2.1 1, la, .inl f) from hra)
  have hrb := d1.at hwb
  rw [hb] at hrb
  cases (show eb = .inl (G.2.1 1, lb, .inl g) from hrb)
  have hC' := hC
  obtain ⟨hx, -, hbb, -, hml, hown, hts, -, -, -, hmS, -⟩ := hC'
  have e1 : (nI sp).toNatClampNeg = sp := nI_clamp (by omega)
  have e2 : (nI dp).toNatClampNeg = dp := nI_clamp (by omega)
  have e3 : (nI cnt).toNatClampNeg = cnt := nI_clamp (by omega)
  refine va_copyi hx hbb (hml.trans d6.choose_spec.1.1.symm) hown (hts _ hlk) (hts _ hnat) (hts _ hst) (hts _ hini) hmS.1 d2 d3 d4 a b 1 1 (ty := .byte) hwa hwb rfl rfl rfl (nI_pos (by omega)) (nI_pos (by omega)) (nI_pos (by omega)) (by rw [e1, e3]; exact h4) (by rw [e2, e3]; exact h5) (fun _ _ => hf _) hR.1 (Nat.le_trans (Nat.add_le_add_right (Nat.le_trans d7e.weight hw) _) hR.2) hdg (fun H1 locs1 g1 g2 g3 => ?_)
  rw [e1, e2, e3] at g1 g2
  have hE := mExt.set (e := .inl (G.2.1 1, lb, .inl (va_cpy f g sp dp cnt))) hwb
  exact k p e s m args below meth c G w0 H1 locs1 LS _ _ hC ⟨d1.set hwb rfl, g1, g2, g3, d5.tr hE, d6.mono hE, d7e.mono hE⟩
/-- out of the text " ": its one byte -/
theorem mt_xcopy {b lb dp index : Nat} {g : Nat → Int32} (hdg : decode M.2.1 pc = .ok (.invokestatic index, 3)) (hlk : Cond.methodLink M.1.cls index arraycopyName ∈ mGw) (hnat : Cond.native arraycopyName ∈ mGw) (hst : Cond.static arraycopyName ∈ mGw) (hini : Cond.initialized "java/lang/System" ∈ mGw) (hb : h b = .inl (1, lb, g)) (h5 : dp + 1 ≤ lb) (hlb : lb < 2 ^ 31) (hw : (st.map mcw).sum ≤ 8) (hR : 1 ≤ R.frames ∧ 8 + 18 ≤ R.locals) (k : ∀ f : Nat → Int32, fits .byte (.int (f 0)) = true → mT l M R K (pc + 3) ls st (mup h b (.inl (1, lb, va_cpy f g 0 dp 1))) n cc sc) : mT l M R K pc ls (.int (nI 1) :: .int (nI dp) :: .ref b :: .int (nI 0) :: .retAddr 2 :: st) h n cc sc := by
  intro p e s m args below meth c G w0 H locs LS ws st' hC hD
  obtain ⟨d1, d2, d3, d4, d5, d6, d7⟩ := hD
  obtain ⟨t1, rfl, d7a⟩ := d7.int
  obtain ⟨t2, rfl, d7b⟩ := d7a.int
  obtain ⟨⟨yb, eb⟩, t3, hwb, rfl, d7c⟩ := d7b.ref
  obtain ⟨t4, rfl, d7d⟩ := d7c.int
  obtain ⟨v', t5, rfl, hv, d7e⟩ := d7d
  obtain rfl : v' = .ref (G.2.2.2.1 2) := hv
  have hrb := d1.at hwb
  rw [hb] at hrb
  cases (show eb = .inl (G.2.1 1, lb, .inl g) from hrb)
  have hC' := hC
  obtain ⟨hx, -, hbb, -, hml, hown, hts, -, -, -, hmS, hmZ, -⟩ := hC'
  obtain ⟨f, hT, hfit⟩ := hmZ.2.2.2.2.2.2.2.2.2.2
  have e1 : (nI 0).toNatClampNeg = 0 := nI_clamp (by omega)
  have e2 : (nI dp).toNatClampNeg = dp := nI_clamp (by omega)
  have e3 : (nI 1).toNatClampNeg = 1 := nI_clamp (by omega)
  refine vk_copyt hx hbb (hml.trans d6.choose_spec.1.1.symm) hown (hts _ hlk) (hts _ hnat) (hts _ hst) (hts _ hini) hmS.1 d2 d3 d4 hT b 1 hwb rfl (nI_pos (by omega)) (nI_pos (by omega)) (nI_pos (by omega)) (by rw [e1, e3]; exact Nat.le_refl _) (by rw [e2, e3]; exact h5) (fun i hi => by rw [e3] at hi; obtain rfl : i = 0 := (by omega); rw [e1]; exact hfit) hR.1 (Nat.le_trans (Nat.add_le_add_right (Nat.le_trans (mrl.weight d7e) hw) _) hR.2) hdg (fun H1 locs1 g1 g2 g3 => ?_)
  rw [e1, e2, e3] at g1 g2
  have hE := mExt.set (e := .inl (G.2.1 1, lb, .inl (va_cpy f g 0 dp 1))) hwb
  exact k f hfit p e s m args below meth c G w0 H1 locs1 LS _ _ hC ⟨d1.set hwb rfl, g1, g2, g3, d5.tr hE, d6.mono hE, mrl.mono hE d7e⟩
/-- a call of a method of String on the text " " -/
theorem mt_callX {N : mM} {Rc : Room} {As stk : List Value} {index : Nat} {Φ : Option Value → mH → Nat → Prop} {X : String → mH → Nat → Prop}
    (hdg : decode M.2.1 pc = .ok (.invokevirtual index, 3)) (hCt : mC l N Rc (.retAddr 1 :: As) h n Φ X) (hN : mV N As.length) (hlk : Cond.methodLink M.1.cls index N.1 ∈ mGw) (hcn : N.1.cls = "java/lang/String") (hst : stk = As.reverse ++ .retAddr 1 :: st) (hw : (st.map mcw).sum ≤ 8) (hR : mRm R Rc N cc sc)
    (k : ∀ v h' n', Φ v h' n' → mT l M R K (pc + 3) ls (v.toList ++ st) h' n' (cc + Rc.cells) (sc + Rc.slots)) (kx : ∀ E h' n', X E h' n' → mTX l M R K pc ls E h' n' (cc + Rc.cells) (sc + Rc.slots)) : mT l M R K pc ls stk h n cc sc := by
  intro p e s m args below meth c G w0 H locs LS ws st' hC hD
  subst hst
  obtain ⟨d1, d2, d3, d4, d5, d6, d7⟩ := hD
  obtain ⟨sa, sb, rfl, s1, s2⟩ := mrl.split d7
  obtain ⟨v', t', rfl, hv, s3⟩ := s2
  obtain rfl : v' = .ref (G.2.2.2.1 1) := hv
  have hav : mrl G.2.2.2.1 ws (.retAddr 1 :: As) (.ref (G.2.2.2.1 1) :: sa.reverse) := mrl.cons rfl (by have := s1.rev; rwa [List.reverse_reverse] at this)
  have hC' := hC
  obtain ⟨hx, -, hbb, -, hml, hown, hts, -, -, -, hmS, hmZ, -⟩ := hC'
  obtain ⟨n1, n2, n3, n4, n5, n6⟩ := hN
  obtain ⟨cell, r1, r2, r3, -⟩ := hmZ.2.2.2.2.2.2.2.1.kept d4.2.1
  have hrev : sa ++ (Value.ref (G.2.2.2.1 1) :: t') = sa.reverse.reverse ++ (Value.ref (G.2.2.2.1 1) :: t') := by rw [List.reverse_reverse]
  have run := vx_runV (R := R) (locs := locs) (cells := cc) (slots := sc) (C := "java/lang/String") (As := sa.reverse) (rest := t') (g := F0 m pc LS (sa ++ (Value.ref (G.2.2.2.1 1) :: t'))) ⟨hx, hbb, hml, hown, hts⟩ (hCt G ws H.size _ d1 hav)
    (n := As.length) (index := index) (own := M.1.cls) (ret := N.2.2.2.1) (bytes := N.2.1) (maxL := N.2.2.1)
    ⟨callB_of As.length hts (mGoodG n1) (mWs_nil n6) rfl rfl (hts _ n4) (hts _ hlk) n5 hR.1, hts _ n2, by rw [← hcn]; exact hts _ n3⟩
    (b := G.2.2.2.1 1) ⟨mPc.blind, ⟨cell, r1, r2, r3⟩, mPc_at hC d2 d3 d4⟩ rfl (by rw [List.length_reverse, s1.len, List.length_reverse]) d6.choose_spec.1.1 hrev (lv_room (Nat.le_trans (mrl.weight s3) hw)) hdg hR.2 (e := e) (below := below) (meth := meth)
  exact mt_back hC ⟨d1, d2, d3, d4, d5, d6, s3⟩ run k kx
end MTU

/-! ===== rows for bytes: clone, checkcast; calls of an inherited method ===== -/
section MTV
variable {l : Launch} {M : mM} {R : Room} {K : mK} {pc : Nat} {ls st : List Value} {h : mH} {n cc sc : Nat}
theorem mt_castB {a len index : Nat} {f : Nat → Int32} (hdg : decode M.2.1 pc = .ok (.checkcast index, 3)) (hlk : Cond.classLink M.1.cls index "[B" ∈ mGw) (he : h a = .inl (1, len, f)) (k : mT l M R K (pc + 3) ls (.ref a :: st) h n cc sc) : mT l M R K pc ls (.ref a :: st) h n cc sc := by
  intro p e s m args below meth c G w0 H locs LS ws st' hC hD
  obtain ⟨d1, d2, d3, d4, d5, d6, d7⟩ := hD
  obtain ⟨⟨x, e'⟩, t', h1, rfl, d7b⟩ := d7.ref
  have hr := d1.at h1
  rw [he] at hr
  cases (show e' = .inl (G.2.1 1, len, .inl f) from hr)
  have hC' := hC
  obtain ⟨hx, -, hbb, -, hml, hown, hts, -, -, -, hmS, -⟩ := hC'
  exact va_castA hx hbb hown (hts _ hlk) d2 a h1 (hmS.1.2 1 _ rfl).2 hdg (k p e s m args below meth c G w0 H locs LS ws _ hC ⟨d1, d2, d3, d4, d5, d6, mrl.cons (v := .ref a) (v' := .ref x) ⟨_, h1, rfl⟩ d7b⟩)
theorem mt_cloneB {a len index : Nat} {f : Nat → Int32} (hdg : decode M.2.1 pc = .ok (.invokevirtual index, 3)) (hlk : Cond.methodLink M.1.cls index ⟨"[B", "clone", "()Ljava/lang/Object;"⟩ ∈ mGw) (hsame : Cond.sameMethod "[B" "java/lang/Object" "clone" "()Ljava/lang/Object;" ∈ mGw) (hnat : Cond.native ⟨"java/lang/Object", "clone", "()Ljava/lang/Object;"⟩ ∈ mGw) (hinst : Cond.instanceMethod ⟨"java/lang/Object", "clone", "()Ljava/lang/Object;"⟩ ∈ mGw) (hsel : Cond.selects "[B" ⟨"[B", "clone", "()Ljava/lang/Object;"⟩ ⟨"java/lang/Object", "clone", "()Ljava/lang/Object;"⟩ ∈ mGw) (hcl : Cond.castable "[B" "java/lang/Cloneable" ∈ mNw) (he : h a = .inl (1, len, f)) (hf : bFit f) (hw : (st.map mcw).sum ≤ 8) (hR : 1 ≤ R.frames ∧ 8 + 14 ≤ R.locals) (hcc : cc + 1 ≤ R.cells) (hsc : sc + len ≤ R.slots) (k : mT l M R K (pc + 3) ls (.ref n :: st) (mup h n (.inl (1, len, f))) (n + 1) (cc + 1) (sc + len)) : mT l M R K pc ls (.ref a :: st) h n cc sc := by
  intro p e s m args below meth c G w0 H locs LS ws st' hC hD
  obtain ⟨d1, d2, d3, d4, d5, d6, d7⟩ := hD
  obtain ⟨⟨x, e'⟩, t', h1, rfl, d7b⟩ := d7.ref
  have hr := d1.at h1
  rw [he] at hr
  cases (show e' = .inl (G.2.1 1, len, .inl f) from hr)
  have hC' := hC
  obtain ⟨hx, -, hbb, -, hml, hown, hts, -, -, -, hmS, -⟩ := hC'
  refine va_clone hx hbb (hml.trans d6.choose_spec.1.1.symm) hown (hts _ hlk) (hts _ hsame) (hts _ hnat) (hts _ hinst) (hts _ hsel) (hmS.2.2.2.2.2.1 _ hcl) hmS.1 d2 d3 d4 (fun q hq => Or.inr hq) a 1 (ty := .byte) h1 rfl (hmS.1.2 1 _ rfl).2 (fun i v hv => ?_) hR.1 (Nat.le_trans (Nat.add_le_add_right (Nat.le_trans (mrl.weight d7b) hw) _) hR.2) hcc hsc hdg (fun q H1 g0 g1 g2 g3 => ?_)
  · rw [vp_cell_i] at hv
    obtain ⟨q1, q2⟩ := Array.getElem?_eq_some_iff.mp hv
    have e9 := hv.symm.trans (arrV_read _ (fun j => Value.int (f j)) (by rw [arrV_size] at q1; exact q1))
    cases e9
    exact hf _
  · have hE : mExt ws (ws ++ [(q, .inl (G.2.1 1, len, .inl f))]) := mExt.push
    exact k p e s m args below meth c G w0 H1 locs LS _ _ hC ⟨d1.push rfl, g1, g2, g3, d5.tr hE, d6.mono hE, mrl.cons (d1.pushL rfl) (mrl.mono hE d7b)⟩
end MTV

/-! ===== the sorted row: by merging (the class), by ranks (the reference): one list ===== -/
def it (xs : List mIt) (k : Nat) : mIt := (xk xs k, xt xs k)
def rl (xs : List mIt) (a b : Nat) : Bool := decide (xk xs a < xk xs b) || (decide (xk xs a = xk xs b) && decide (a ≤ b))
theorem rl_iff {xs : List mIt} {a b : Nat} : rl xs a b = true ↔ (xk xs a).toInt < (xk xs b).toInt ∨ ((xk xs a).toInt = (xk xs b).toInt ∧ a ≤ b) := by
  unfold rl
  rw [Bool.or_eq_true, Bool.and_eq_true, decide_eq_true_iff, decide_eq_true_iff, decide_eq_true_iff, Int32.lt_iff_toInt_lt, ← Int32.toInt_inj]
theorem rl_trans {xs : List mIt} (a b c : Nat) : rl xs a b = true → rl xs b c = true → rl xs a c = true := by
  rw [rl_iff, rl_iff, rl_iff]
  omega
theorem rl_total {xs : List mIt} (a b : Nat) : (rl xs a b || rl xs b a) = true := by
  rw [Bool.or_eq_true, rl_iff, rl_iff]
  omega
theorem rl_anti {xs : List mIt} {a b : Nat} (h : rl xs a b = true) (h2 : rl xs b a = true) : a = b := by
  rw [rl_iff] at h h2
  omega
theorem rl_wle {xs : List mIt} {a b : Nat} (h : a < b) : rl xs a b = wle (it xs a) (it xs b) := by
  have e : wle (it xs a) (it xs b) = true ↔ ¬ (xk xs b).toInt < (xk xs a).toInt := by
    unfold wle it
    rw [Bool.not_eq_true', decide_eq_false_iff_not, Int32.lt_iff_toInt_lt]
  cases h1 : wle (it xs a) (it xs b) with
  | true =>
    have h2 := e.mp h1
    rw [rl_iff]
    omega
  | false =>
    rw [Bool.eq_false_iff]
    intro h2
    rw [rl_iff] at h2
    have h3 : ¬ ¬ (xk xs b).toInt < (xk xs a).toInt := fun z => by rw [e.mpr z] at h1; cases h1
    omega
theorem merge_map {α β : Type} {f : α → β} {r : α → α → Bool} {s : β → β → Bool} : ∀ (l l' : List α), (∀ a ∈ l, ∀ b ∈ l', r a b = s (f a) (f b)) → (List.merge l l' r).map f = List.merge (l.map f) (l'.map f) s := by
  intro l
  induction l with
  | nil => intro l' h; simp
  | cons a l ih =>
    intro l'
    induction l' with
    | nil => intro h; simp
    | cons b l' ih2 =>
      intro h
      have h0 := h a List.mem_cons_self b List.mem_cons_self
      rw [List.cons_merge_cons, List.map_cons, List.map_cons, List.cons_merge_cons, ← h0]
      split
      · rw [List.map_cons, ih (b :: l') (fun x hx y hy => h x (List.mem_cons_of_mem _ hx) y hy), List.map_cons]
      · rw [List.map_cons, ih2 (fun x hx y hy => h x hx y (List.mem_cons_of_mem _ hy)), List.map_cons]
/-- the items of the places s .. e - 1, in order -/
def Bk (xs : List mIt) (s e : Nat) (zs : List mIt) : Prop := ∃ B : List Nat, zs = B.map (it xs) ∧ B.Pairwise (fun a b => rl xs a b = true) ∧ B.Perm (List.range' s (e - s))
theorem Bk.merge {xs as bs : List mIt} {s m e : Nat} (hsm : s ≤ m) (hme : m ≤ e) (h1 : Bk xs s m as) (h2 : Bk xs m e bs) : Bk xs s e (List.merge as bs wle) := by
  obtain ⟨A, rfl, pA, qA⟩ := h1
  obtain ⟨B, rfl, pB, qB⟩ := h2
  refine ⟨List.merge A B (rl xs), (merge_map (f := it xs) (r := rl xs) (s := wle) A B (fun a ha b hb => rl_wle ?_)).symm, List.pairwise_merge rl_trans rl_total A B pA pB, ?_⟩
  · have h3 := qA.mem_iff.mp ha
    have h4 := qB.mem_iff.mp hb
    rw [List.mem_range'_1] at h3 h4
    omega
  · have h5 : List.range' s (m - s) ++ List.range' m (e - m) = List.range' s (e - s) := by
      have h6 := List.range'_append_1 (s := s) (m := m - s) (n := e - m)
      rw [show s + (m - s) = m by omega, show m - s + (e - m) = e - s by omega] at h6
      exact h6
    rw [← h5]
    exact List.Perm.trans (List.merge_perm_append (rl xs)) (List.Perm.append qA qB)
theorem Bk.uniq {xs as bs : List mIt} {s e : Nat} (h1 : Bk xs s e as) (h2 : Bk xs s e bs) : as = bs := by
  obtain ⟨A, rfl, pA, qA⟩ := h1
  obtain ⟨B, rfl, pB, qB⟩ := h2
  rw [List.Perm.eq_of_pairwise (fun a b _ _ h3 h4 => rl_anti h3 h4) pA pB (qA.trans qB.symm)]
theorem Bk.nil {xs : List mIt} {s e : Nat} (h : e ≤ s) : Bk xs s e [] := ⟨[], rfl, List.Pairwise.nil, by rw [show e - s = 0 by omega]; exact List.Perm.refl _⟩
/-- a rising stretch is in order as it is -/
theorem Bk.rising {xs : List mIt} {s e : Nat} (h : ∀ i j, s ≤ i → i < j → j < e → ¬ xk xs j < xk xs i) : Bk xs s e ((List.range' s (e - s)).map (it xs)) := by
  refine ⟨_, rfl, ?_, List.Perm.refl _⟩
  refine (List.pairwise_lt_range' (s := s) (n := e - s)).imp_of_mem (fun {a b} ha hb hab => ?_)
  rw [List.mem_range'_1] at ha hb
  have h1 := h a b (by omega) hab (by omega)
  rw [Int32.lt_iff_toInt_lt] at h1
  rw [rl_iff]
  omega
theorem span_map {xs : List mIt} {e : Nat} (he : e ≤ xs.length) : ∀ (d s : Nat), s + d = e → span xs s e = (List.range' s d).map (it xs) := by
  intro d
  induction d with
  | zero =>
    intro s h
    unfold span
    rw [List.drop_eq_nil_of_le (by rw [List.length_take]; omega)]
    rfl
  | succ d ih =>
    intro s h
    rw [span_cons (by omega) he, ih (s + 1) (by omega), List.range'_succ, List.map_cons]
    rfl
theorem mlp_count {c : Nat → Prop} {dc : ∀ j, Decidable (c j)} : ∀ (d s a : Nat), mlp (fun j acc => if c j then acc + 1 else acc) d s a = a + (List.range' s d).countP (fun j => decide (c j)) := by
  intro d
  induction d with
  | zero => intro s a; rfl
  | succ d ih =>
    intro s a
    rw [List.range'_succ, List.countP_cons]
    show mlp _ d (s + 1) (if c s then a + 1 else a) = _
    rw [ih]
    by_cases h : c s
    · rw [if_pos h, if_pos (by simpa using h)]; omega
    · rw [if_neg h, if_neg (by simpa using h)]; omega
theorem rank_at {xs : List mIt} {P : List Nat} (hp : P.Pairwise (fun a b => rl xs a b = true)) (hq : P.Perm (List.range' 0 xs.length)) {i : Nat} (hi : i < P.length) : rankf xs P[i] = i := by
  have hnd : P.Nodup := hq.nodup_iff.mpr (List.nodup_range' (s := 0) (n := xs.length))
  unfold rankf
  rw [mlp_count, Nat.sub_zero, Nat.zero_add, ← hq.countP_eq]
  have hs : P = P.take i ++ (P[i] :: P.drop (i + 1)) := by rw [← List.drop_eq_getElem_cons hi, List.take_append_drop]
  have hp2 := hp
  have hn2 := hnd
  rw [hs] at hp2 hn2
  obtain ⟨p1, p2, p3⟩ := List.pairwise_append.mp hp2
  obtain ⟨p4, p5⟩ := List.pairwise_cons.mp p2
  obtain ⟨n1, n2, n3⟩ := List.nodup_append.mp hn2
  obtain ⟨n4, n5⟩ := List.nodup_cons.mp n2
  have key : ∀ (c : Nat → Bool), (∀ a ∈ P.take i, c a = true) → c P[i] = false → (∀ a ∈ P.drop (i + 1), c a = false) → P.countP c = i := by
    intro c c1 c2 c3
    have e1 : (P.take i ++ (P[i] :: P.drop (i + 1))).countP c = i := by
      rw [List.countP_append, List.countP_cons_of_neg (by rw [c2]; decide), List.countP_eq_length.mpr c1, List.countP_eq_zero.mpr (fun a ha => by rw [c3 a ha]; decide), List.length_take]
      omega
    rwa [← hs] at e1
  refine key _ (fun a ha => ?_) ?_ (fun a ha => ?_)
  · have h1 := p3 a ha P[i] List.mem_cons_self
    have h2 : a ≠ P[i] := n3 a ha P[i] List.mem_cons_self
    rw [rl_iff] at h1
    rw [decide_eq_true_iff, Int32.lt_iff_toInt_lt, ← Int32.toInt_inj]
    omega
  · rw [decide_eq_false_iff_not, Int32.lt_iff_toInt_lt]
    omega
  · have h1 := p4 a ha
    have h2 : a ≠ P[i] := fun z => n4 (z ▸ ha)
    rw [rl_iff] at h1
    rw [decide_eq_false_iff_not, Int32.lt_iff_toInt_lt, ← Int32.toInt_inj]
    omega
theorem scat_of {xs : List mIt} {i K : Nat} : ∀ (d s : Nat) (p : Nat → Nat), (∀ k, s ≤ k → k < s + d → rankf xs k = i → k = K) → ((s ≤ K ∧ K < s + d ∧ rankf xs K = i) ∨ p i = K) → mlp (scS xs) d s p i = K := by
  intro d
  induction d with
  | zero =>
    intro s p _ h
    rcases h with h | h
    · omega
    · exact h
  | succ d ih =>
    intro s p h1 h2
    refine ih (s + 1) (scS xs s p) (fun k k1 k2 k3 => h1 k (by omega) (by omega) k3) ?_
    by_cases hs : i = rankf xs s
    · exact Or.inr ((if_pos hs).trans (h1 s (Nat.le_refl _) (by omega) hs.symm))
    · rcases h2 with ⟨h3, h4, h5⟩ | h2
      · by_cases e : s = K
        · subst e
          exact absurd h5.symm hs
        · exact Or.inl ⟨by omega, by omega, h5⟩
      · exact Or.inr ((if_neg hs).trans h2)
/-- by ranks -/
theorem rank_bk {xs zs : List mIt} (h : Bk xs 0 xs.length zs) : chF xs (scat xs) xs.length = zs := by
  obtain ⟨P, rfl, hp, hq⟩ := h
  rw [Nat.sub_zero] at hq
  have hl : P.length = xs.length := by rw [hq.length_eq, List.length_range']
  apply List.ext_getElem
  · rw [chF_l, List.length_map, hl]
  · intro i h1 h2
    rw [chF_l] at h1
    have hi : i < P.length := by omega
    have e : scat xs i = P[i] := by
      unfold scat
      refine scat_of _ _ _ (fun k k1 k2 k3 => ?_) (Or.inl ⟨Nat.zero_le _, ?_, rank_at hp hq hi⟩)
      · have hk : k ∈ P := hq.mem_iff.mpr (List.mem_range'_1.mpr ⟨Nat.zero_le _, by omega⟩)
        obtain ⟨j, hj, rfl⟩ := List.getElem_of_mem hk
        have := rank_at hp hq hj
        rw [this] at k3
        subst k3
        rfl
      · have := List.mem_range'_1.mp (hq.mem_iff.mp (List.getElem_mem hi))
        omega
    rw [xk_get (by rw [chF_l]; exact h1), List.getElem_map]
    unfold chF it
    rw [xk_zip h1, xt_zip h1, e]
/-! by merging -/
def Blk (xs : List mIt) (wd : Nat) (ys : List mIt) : Prop := ys.length = xs.length ∧ ∀ s, s < xs.length → wd ∣ s → Bk xs s (min (s + wd) xs.length) (span ys s (min (s + wd) xs.length))
theorem mpass_span {ys : List mIt} {wd : Nat} (hw : 0 < wd) : ∀ (d s : Nat) (p : List mIt × Int32), ys.length ≤ s + d → p.1.length = min s ys.length → (mpass ys wd d s p).1.take p.1.length = p.1 ∧ ∀ s', s ≤ s' → 2 * wd ∣ s' - s → s' < ys.length → span (mpass ys wd d s p).1 s' (min (s' + 2 * wd) ys.length) = List.merge (span ys s' (min (s' + wd) ys.length)) (span ys (min (s' + wd) ys.length) (min (s' + 2 * wd) ys.length)) wle := by
  intro d
  induction d with
  | zero =>
    intro s p h hp
    exact ⟨List.take_length, fun s' h1 _ h3 => absurd h3 (by omega)⟩
  | succ d ih =>
    intro s p h hp
    by_cases hs : s < ys.length
    · rw [mpass, if_pos hs]
      have hM : (List.merge (span ys s (min (s + wd) ys.length)) (span ys (min (s + wd) ys.length) (min (s + 2 * wd) ys.length)) wle).length = min (s + 2 * wd) ys.length - s := by
        rw [List.length_merge, span_len (Nat.min_le_right _ _), span_len (Nat.min_le_right _ _)]
        omega
      obtain ⟨i1, i2⟩ := ih (s + 2 * wd) (p.1 ++ List.merge (span ys s (min (s + wd) ys.length)) (span ys (min (s + wd) ys.length) (min (s + 2 * wd) ys.length)) wle, p.2 + winv (span ys s (min (s + wd) ys.length)) (span ys (min (s + wd) ys.length) (min (s + 2 * wd) ys.length))) (by omega) (by rw [List.length_append, hM]; omega)
      generalize (mpass ys wd d (s + 2 * wd) (p.1 ++ List.merge (span ys s (min (s + wd) ys.length)) (span ys (min (s + wd) ys.length) (min (s + 2 * wd) ys.length)) wle, p.2 + winv (span ys s (min (s + wd) ys.length)) (span ys (min (s + wd) ys.length) (min (s + 2 * wd) ys.length)))).1 = R at i1 i2
      dsimp only at i1
      refine ⟨?_, fun s' h1 h2 h3 => ?_⟩
      · have := congrArg (List.take p.1.length) i1
        rw [List.take_take, List.take_left, Nat.min_eq_left (by rw [List.length_append]; omega)] at this
        exact this
      · by_cases e : s' = s
        · subst e
          unfold span
          rw [show min (s' + 2 * wd) ys.length = (p.1 ++ List.merge (span ys s' (min (s' + wd) ys.length)) (span ys (min (s' + wd) ys.length) (min (s' + 2 * wd) ys.length)) wle).length by rw [List.length_append, hM]; omega, i1]
          rw [List.drop_append_of_le_length (by omega), List.drop_eq_nil_of_le (by omega), List.nil_append]
          rw [show (p.1 ++ List.merge (span ys s' (min (s' + wd) ys.length)) (span ys (min (s' + wd) ys.length) (min (s' + 2 * wd) ys.length)) wle).length = min (s' + 2 * wd) ys.length by rw [List.length_append, hM]; omega]
          rfl
        · obtain ⟨k, hk⟩ := h2
          have hk0 : 0 < k := by
            rcases Nat.eq_zero_or_pos k with z | z
            · subst z; omega
            · exact z
          obtain ⟨k', rfl⟩ : ∃ k', k = k' + 1 := ⟨k - 1, by omega⟩
          rw [Nat.mul_add, Nat.mul_one] at hk
          exact i2 s' (by omega) ⟨k', by omega⟩ h3
    · rw [mpass, if_neg hs]
      exact ⟨List.take_length, fun s' h1 _ h3 => absurd h3 (by omega)⟩
theorem Blk.round {xs ys : List mIt} {wd : Nat} (hw : 0 < wd) (h : Blk xs wd ys) : Blk xs (wd * 2) (mround ys wd).1 := by
  obtain ⟨h1, h2⟩ := h
  refine ⟨(mround_len hw).trans h1, fun s hs hd => ?_⟩
  have h3 := (mpass_span (ys := ys) hw ys.length 0 ([], nI 0) (by omega) (by simp)).2 s (Nat.zero_le _) (by rw [Nat.sub_zero, Nat.mul_comm]; exact hd) (by omega)
  rw [h1] at h3
  unfold mround
  rw [h1, Nat.mul_comm wd 2, h3]
  have d1 : wd ∣ s := Nat.dvd_trans ⟨2, rfl⟩ hd
  refine Bk.merge (by omega) (by omega) (h2 s hs d1) ?_
  by_cases e : s + wd < xs.length
  · rw [Nat.min_eq_left (by omega), show s + 2 * wd = s + wd + wd by omega]
    exact h2 (s + wd) e (Nat.dvd_add d1 (Nat.dvd_refl _))
  · rw [Nat.min_eq_right (by omega), Nat.min_eq_right (by omega)]
    unfold span
    rw [List.drop_eq_nil_of_le (by rw [List.length_take]; omega)]
    exact Bk.nil (Nat.le_refl _)
theorem Blk.all {xs ys : List mIt} {wd : Nat} (h : Blk xs wd ys) (hw : xs.length ≤ wd) : Bk xs 0 xs.length ys := by
  obtain ⟨h1, h2⟩ := h
  rcases Nat.eq_zero_or_pos xs.length with e | e
  · rw [e] at h1
    rw [List.eq_nil_of_length_eq_zero h1]
    exact Bk.nil (by omega)
  · have h3 := h2 0 e ⟨0, rfl⟩
    rw [Nat.zero_add, Nat.min_eq_right hw, ← h1, span_all] at h3
    rw [← h1]
    exact h3
theorem msrt_bk {xs : List mIt} : ∀ (d wd : Nat) (p : List mIt × Int32), 0 < wd → xs.length ≤ wd + d → Blk xs wd p.1 → Bk xs 0 xs.length (msrt d wd p).1 := by
  intro d
  induction d with
  | zero => intro wd p hw h hb; exact hb.all (by omega)
  | succ d ih =>
    intro wd p hw h hb
    rw [msrt]
    by_cases q : wd < p.1.length
    · rw [if_pos q]
      exact ih (wd * 2) _ (by omega) (by omega) (hb.round hw)
    · rw [if_neg q]
      exact hb.all (by have := hb.1; omega)
theorem msort_bk {xs : List mIt} : Bk xs 0 xs.length (msort xs).1 := by
  refine msrt_bk _ _ _ (by decide) (by omega) ⟨rfl, fun s hs _ => ?_⟩
  rw [Nat.min_eq_left (by omega)]
  show Bk xs s (s + 1) (span xs s (s + 1))
  rw [span_map (by omega) 1 s rfl]
  exact ⟨[s], rfl, List.pairwise_singleton _ _, by rw [show s + 1 - s = 1 by omega]; exact List.Perm.refl _⟩
/-- the class's sorted row is the reference's -/
theorem msort_scat {xs : List mIt} : chF xs (scat xs) xs.length = (msort xs).1 := rank_bk msort_bk
/-- rising, pair by pair -/
theorem mall_all {p : Nat → Bool} : ∀ (d i : Nat), mall p d i = true ↔ ∀ j, i ≤ j → j < i + d → p j = true := by
  intro d
  induction d with
  | zero => intro i; exact ⟨fun _ j h1 h2 => absurd h2 (by omega), fun _ => rfl⟩
  | succ d ih =>
    intro i
    show (p i && mall p d (i + 1)) = true ↔ _
    rw [Bool.and_eq_true, ih]
    constructor
    · rintro ⟨h1, h2⟩ j j1 j2
      by_cases e : j = i
      · subst e; exact h1
      · exact h2 j (by omega) (by omega)
    · intro h
      exact ⟨h i (Nat.le_refl _) (by omega), fun j j1 j2 => h j (by omega) (by omega)⟩
theorem rising_iff {xs : List mIt} : q_isRising xs = true ↔ ∀ i j, i < j → j < xs.length → ¬ xk xs j < xk xs i := by
  unfold q_isRising
  rw [mall_all]
  constructor
  · intro h i j hij
    induction j with
    | zero => omega
    | succ j ih =>
      intro hj
      have h1 := h (j + 1) (by omega) (by omega)
      rw [decide_eq_true_iff, Nat.add_sub_cancel, Int32.lt_iff_toInt_lt] at h1
      by_cases e : i = j
      · subst e; rw [Int32.lt_iff_toInt_lt]; exact h1
      · have h2 := ih (by omega) (by omega)
        rw [Int32.lt_iff_toInt_lt] at h2 ⊢
        omega
  · intro h j j1 j2
    rw [decide_eq_true_iff]
    exact h (j - 1) j (by omega) (by omega)
theorem rising_part {xs : List mIt} {s e : Nat} (he : e ≤ xs.length) (hs : s ≤ e) (h : ∀ i j, s ≤ i → i < j → j < e → ¬ xk xs j < xk xs i) : Bk xs s e (span xs s e) := by
  rw [span_map he (e - s) s (by omega)]
  exact Bk.rising h
/-- two rising stretches woven: the whole in order -/
theorem weave_scat {xs : List mIt} {m : Nat} (hm : m ≤ xs.length) (h1 : ∀ i j, i < j → j < m → ¬ xk xs j < xk xs i) (h2 : ∀ i j, m ≤ i → i < j → j < xs.length → ¬ xk xs j < xk xs i) : chF xs (scat xs) xs.length = weave xs m :=
  rank_bk (Bk.merge (Nat.zero_le _) hm (rising_part hm (Nat.zero_le _) (fun i j _ => h1 i j)) (rising_part (Nat.le_refl _) hm h2))

/-! ===== acts: the class's next state is the reference's ===== -/
theorem it_get {xs : List mIt} {i : Nat} : it xs i = xs.getD i (0, 0) := rfl
theorem xs_ext {xs ys : List mIt} (hl : xs.length = ys.length) (h : ∀ i, i < xs.length → it xs i = it ys i) : xs = ys := by
  refine List.ext_getElem hl (fun i h1 h2 => ?_)
  rw [xk_get h1, xk_get h2]
  exact h i h1
theorem it_app_lt {xs zs : List mIt} {i : Nat} (h : i < xs.length) : it (xs ++ zs) i = it xs i := by
  unfold it
  rw [xk_app_lt h, xt_app_lt h]
theorem it_app_ge {xs zs : List mIt} {i : Nat} (h : xs.length ≤ i) : it (xs ++ zs) i = it zs (i - xs.length) := by
  rw [it_get, it_get, List.getD_eq_getElem?_getD, List.getD_eq_getElem?_getD, List.getElem?_append_right h]
theorem it_span {xs : List mIt} {s e i : Nat} (he : e ≤ xs.length) (hi : i < e - s) : it (span xs s e) i = it xs (s + i) := by
  unfold span
  rw [it_get, it_get, List.getD_eq_getElem?_getD, List.getD_eq_getElem?_getD, List.getElem?_drop, List.getElem?_take, if_pos (by omega)]
theorem it_zip {f g : Nat → Int32} {n i : Nat} (h : i < n) : it (zipF f g n) i = (f i, g i) := by
  unfold it
  rw [xk_zip h, xt_zip h]
theorem it_chF {xs : List mIt} {pl : Nat → Nat} {n i : Nat} (h : i < n) : it (chF xs pl n) i = it xs (pl i) := it_zip h
theorem it_rv {xs : List mIt} : ∀ {d i : Nat}, i < d → it (rv xs d) i = it xs (d - 1 - i)
  | d + 1, 0, _ => rfl
  | d + 1, i + 1, h => by
    show it (rv xs d) i = _
    rw [it_rv (by omega), show d + 1 - 1 - (i + 1) = d - 1 - i by omega]
theorem clear_eq {xs : List mIt} {pl : Nat → Nat} : chF xs pl 0 = [] := rfl
theorem drop_eq {xs : List mIt} {p : Nat} (hp : p < xs.length) : chF xs (drF p) (xs.length - 1) = span xs 0 p ++ span xs (p + 1) xs.length := by
  have l1 : (span xs 0 p).length = p := by rw [span_len (by omega)]; omega
  refine xs_ext (by rw [chF_l, List.length_append, l1, span_len (Nat.le_refl _)]; omega) (fun i hi => ?_)
  rw [chF_l] at hi
  rw [it_chF hi]
  unfold drF
  by_cases q : i < p
  · rw [if_pos q, it_app_lt (by omega), it_span (by omega) (by omega), Nat.zero_add]
  · rw [if_neg q, it_app_ge (by omega), it_span (Nat.le_refl _) (by omega), l1, show p + 1 + (i - p) = i + 1 by omega]
theorem turn_eq {xs : List mIt} : chF xs (tnF xs.length) xs.length = rv xs xs.length := by
  refine xs_ext (by rw [chF_l, rv_len]) (fun i hi => ?_)
  rw [chF_l] at hi
  rw [it_chF hi, it_rv hi]
  rfl
theorem roll_eq {xs : List mIt} {b : Nat} (hb : b ≤ xs.length) : chF xs (rlF b xs.length) xs.length = span xs b xs.length ++ span xs 0 b := by
  have l1 : (span xs b xs.length).length = xs.length - b := span_len (Nat.le_refl _)
  refine xs_ext (by rw [chF_l, List.length_append, l1, span_len hb]; omega) (fun i hi => ?_)
  rw [chF_l] at hi
  rw [it_chF hi]
  unfold rlF
  by_cases q : i < xs.length - b
  · rw [it_app_lt (by omega), it_span (Nat.le_refl _) (by omega), Nat.mod_eq_of_lt (by omega), Nat.add_comm]
  · rw [it_app_ge (by omega), it_span hb (by omega), l1, Nat.zero_add, show i + b = (i - (xs.length - b)) + xs.length by omega, Nat.add_mod_right, Nat.mod_eq_of_lt (by omega)]
theorem keep_eq {xs : List mIt} {p t : Nat} (ht : t ≤ xs.length) : zipF (fun i => xk xs (p + i)) (fun i => xt xs (p + i)) (t - p) = span xs p t := by
  refine xs_ext (by rw [zipF_len, span_len ht]) (fun i hi => ?_)
  rw [zipF_len] at hi
  rw [it_zip hi, it_span ht hi]
  rfl
theorem made_nst {r : Nat} {g : Int32} : madeF r g 0 = nst (decide (r < 2)) g := by
  unfold madeF nst
  by_cases q : 1 < r
  · rw [if_pos q, if_neg (by simp; omega)]
  · rw [if_neg q, if_pos (by simp; omega)]
    exact Int32.add_zero g
theorem made_ngv {r : Nat} {g : Int32} : madeG r 1 g = ngv (decide (r < 2)) g := by
  unfold madeG ngv
  by_cases q : 1 < r
  · rw [if_pos q, if_neg (by simp; omega)]
  · rw [if_neg q, if_pos (by simp; omega)]
theorem it_jn {xs : List mIt} {f g : Nat → Int32} {m i : Nat} (h : i < xs.length + m) : it (jnL xs f g m) i = if i < xs.length then it xs i else (f (i - xs.length), g (i - xs.length)) := by
  unfold jnL
  rw [it_zip h]
  unfold bothF
  split
  · rfl
  · rfl
theorem add_eq {xs : List mIt} {key : Int32} {r : Nat} {g : Int32} : jnL xs (fun _ => key) (madeF r g) 1 = xs ++ [(key, nst (decide (r < 2)) g)] := by
  refine xs_ext (by rw [jnL_len, List.length_append]; rfl) (fun i hi => ?_)
  rw [jnL_len] at hi
  rw [it_jn hi]
  split
  · rename_i q
    rw [it_app_lt q]
  · rename_i q
    obtain rfl : i = xs.length := by omega
    rw [it_app_ge (Nat.le_refl _), Nat.sub_self, made_nst]
    rfl
/-! what is brought from another row -/
def bst (t ft : Bool) (xs : List mIt) (g : Int32) (i k : Nat) : Int32 := if t = true then (if ft = true then xt xs k else g + nI (k - i)) else -1
def bgv (t ft : Bool) (d : Nat) (g : Int32) : Int32 := if t = true then (if ft = true then g else g + nI d) else g
theorem nI_step {g : Int32} {a : Nat} : g + nI 1 + nI a = g + nI (a + 1) := by rw [Int32.add_assoc, nI_add, Nat.add_comm]
theorem bring_go {xs : List mIt} {t ft : Bool} : ∀ (d i : Nat) (ys : List mIt) (g : Int32), mlp (stBring xs t ft) d i (ys, g) = (ys ++ (List.range' i d).map (fun k => (xk xs k, bst t ft xs g i k)), bgv t ft d g) := by
  intro d
  induction d with
  | zero =>
    intro i ys g
    show (ys, g) = _
    rw [show (List.range' i 0) = [] from rfl, List.map_nil, List.append_nil]
    unfold bgv
    cases t <;> cases ft <;> simp [show nI 0 = (0 : Int32) from rfl]
  | succ d ih =>
    intro i ys g
    show mlp (stBring xs t ft) d (i + 1) (ys ++ [(xk xs i, cst t ft (xt xs i) g)], cgv t ft g) = _
    rw [ih, List.range'_succ, List.map_cons, List.append_assoc]
    have e1 : bgv t ft d (cgv t ft g) = bgv t ft (d + 1) g := by
      unfold bgv cgv
      cases t <;> cases ft <;> simp only [if_true, if_false, Bool.false_eq_true, nI_step]
    have e2 : cst t ft (xt xs i) g = bst t ft xs g i i := by
      unfold cst bst
      rw [Nat.sub_self, show nI 0 = (0 : Int32) from rfl, Int32.add_zero]
    have e3 : (List.range' (i + 1) d).map (fun k => (xk xs k, bst t ft xs (cgv t ft g) (i + 1) k)) = (List.range' (i + 1) d).map (fun k => (xk xs k, bst t ft xs g i k)) := by
      refine List.map_congr_left (fun k hk => ?_)
      have hk2 := List.mem_range'_1.mp hk
      refine congrArg (fun z => (xk xs k, z)) ?_
      unfold bst cgv
      cases t <;> cases ft <;> simp only [if_true, if_false, Bool.false_eq_true]
      rw [nI_step, show k - (i + 1) + 1 = k - i by omega]
    rw [e1, e2, e3]
    rfl
theorem bring_jn {xs ys : List mIt} {r q : Nat} {g : Int32} : (bringL xs (decide (r < 2)) (decide (q < 2)) ys g).1 = jnL ys (xk xs) (comF r q xs.length xs g) xs.length ∧ (bringL xs (decide (r < 2)) (decide (q < 2)) ys g).2 = comG r q xs.length g := by
  unfold bringL
  rw [bring_go, Nat.sub_zero]
  constructor
  · dsimp only
    refine xs_ext (by rw [List.length_append, List.length_map, List.length_range', jnL_len]) (fun i hi => ?_)
    rw [List.length_append, List.length_map, List.length_range'] at hi
    rw [it_jn hi]
    split
    · rename_i h
      rw [it_app_lt h]
    · rename_i h
      rw [it_app_ge (by omega), it_get, List.getD_eq_getElem?_getD, List.getElem?_map, List.getElem?_range' (by omega)]
      show (xk xs (0 + 1 * (i - ys.length)), bst _ _ xs g 0 (0 + 1 * (i - ys.length))) = _
      rw [Nat.zero_add, Nat.one_mul]
      refine congrArg (fun z => (xk xs (i - ys.length), z)) ?_
      unfold bst comF madeF
      rw [Nat.sub_zero]
      by_cases q1 : 1 < r
      · rw [if_neg (by simp; omega), if_pos (Or.inl q1), if_pos q1]
      · rw [if_pos (by simp; omega)]
        by_cases q2 : 1 < q
        · rw [if_neg (by simp; omega), if_pos (Or.inr q2), if_neg q1]
        · rw [if_pos (by simp; omega), if_neg (by omega)]
  · dsimp only
    unfold bgv comG madeG
    by_cases q1 : 1 < r
    · rw [if_neg (by simp; omega), if_pos (Or.inl q1), if_pos q1]
    · rw [if_pos (by simp; omega)]
      by_cases q2 : 1 < q
      · rw [if_neg (by simp; omega), if_pos (Or.inr q2), if_neg q1]
      · rw [if_pos (by simp; omega), if_neg (by omega)]
theorem jn_nil {xs : List mIt} {f : Nat → Int32} {m : Nat} : jnL [] (xk xs) f m = zipF (xk xs) f m := by
  refine xs_ext (by rw [jnL_len, zipF_len]; exact Nat.zero_add _) (fun i hi => ?_)
  rw [jnL_len] at hi
  rw [it_jn hi, if_neg (show ¬ i < ([] : List mIt).length from Nat.not_lt_zero _), it_zip (by simpa using hi)]
  rfl
/-! wrong pairs: none where a row rises -/
theorem side_1 {x y : Int32} : sideF x y = nI 1 ↔ y < x := by
  unfold sideF
  by_cases h1 : x < y
  · rw [if_pos h1]
    rw [Int32.lt_iff_toInt_lt] at h1 ⊢
    exact ⟨fun z => absurd z (by decide), fun z => by omega⟩
  · rw [if_neg h1]
    by_cases h2 : x = y
    · rw [if_pos h2, h2, Int32.lt_iff_toInt_lt]
      exact ⟨fun z => absurd z (by decide), fun z => absurd z (by omega)⟩
    · rw [if_neg h2]
      rw [Int32.lt_iff_toInt_lt] at h1 ⊢
      rw [← Int32.toInt_inj] at h2
      exact ⟨fun _ => by omega, fun _ => rfl⟩
theorem sum_in {c : Nat → Prop} {dc : ∀ o, Decidable (c o)} : ∀ (d s a : Nat), ∃ m, m ≤ d ∧ mlp (fun o (acc : Int32) => acc + (if c o then nI 1 else nI 0)) d s (nI a) = nI (a + m) ∧ (m = 0 ↔ ∀ o, s ≤ o → o < s + d → ¬ c o) := by
  intro d
  induction d with
  | zero => intro s a; exact ⟨0, Nat.le_refl _, rfl, ⟨fun _ o h1 h2 => absurd h2 (by omega), fun _ => rfl⟩⟩
  | succ d ih =>
    intro s a
    by_cases h : c s
    · obtain ⟨m, m1, m2, m3⟩ := ih (s + 1) (a + 1)
      refine ⟨m + 1, by omega, ?_, ⟨fun z => absurd z (by omega), fun z => absurd h (z s (Nat.le_refl _) (by omega))⟩⟩
      show mlp _ d (s + 1) (nI a + (if c s then nI 1 else nI 0)) = _
      rw [if_pos h, nI_add, m2, show a + 1 + m = a + (m + 1) by omega]
    · obtain ⟨m, m1, m2, m3⟩ := ih (s + 1) a
      refine ⟨m, by omega, ?_, ?_⟩
      · show mlp _ d (s + 1) (nI a + (if c s then nI 1 else nI 0)) = _
        rw [if_neg h, nI_add]
        exact m2
      · rw [m3]
        exact ⟨fun z o o1 o2 => if e : o = s then e ▸ h else z o (by omega) (by omega), fun z o o1 o2 => z o (by omega) (by omega)⟩
theorem pairs_in {xs : List mIt} {how : Int32} : ∀ (d s a : Nat), ∃ m, m ≤ d * (s + d) ∧ mlp (fun k acc => mlp (prS xs how k) (k - 0) 0 acc) d s (nI a) = nI (a + m) ∧ (m = 0 ↔ ∀ k o, s ≤ k → k < s + d → o < k → ¬ sideF (xk xs o) (xk xs k) = how) := by
  intro d
  induction d with
  | zero => intro s a; exact ⟨0, Nat.zero_le _, rfl, ⟨fun _ k o h1 h2 _ => absurd h2 (by omega), fun _ => rfl⟩⟩
  | succ d ih =>
    intro s a
    obtain ⟨m1, k1, k2, k3⟩ := sum_in (c := fun o => sideF (xk xs o) (xk xs s) = how) (dc := fun _ => inferInstance) (s - 0) 0 a
    obtain ⟨m2, j1, j2, j3⟩ := ih (s + 1) (a + m1)
    refine ⟨m1 + m2, ?_, ?_, ?_⟩
    · have e1 : (d + 1) * (s + (d + 1)) = d * (s + 1 + d) + (s + (d + 1)) := by rw [Nat.add_mul, Nat.one_mul, show s + (d + 1) = s + 1 + d by omega]
      omega
    · show mlp _ d (s + 1) (mlp (prS xs how s) (s - 0) 0 (nI a)) = _
      rw [show mlp (prS xs how s) (s - 0) 0 (nI a) = nI (a + m1) from k2, j2, Nat.add_assoc]
    · constructor
      · intro z k o h1 h2 h3
        by_cases e : k = s
        · subst e
          exact k3.mp (by omega) o (Nat.zero_le _) (by omega)
        · exact j3.mp (by omega) k o (by omega) (by omega) h3
      · intro z
        have z1 := k3.mpr (fun o _ h2 => z s o (Nat.le_refl _) (by omega) (by omega))
        have z2 := j3.mpr (fun k o h1 h2 h3 => z k o (by omega) (by omega) h3)
        omega
theorem wrong_pos {xs : List mIt} (hL : xs.length ≤ 320) : (0 < mq_pairs xs (nI 1)) ↔ q_isRising xs = false := by
  obtain ⟨m, m1, m2, m3⟩ := pairs_in (xs := xs) (how := nI 1) xs.length 0 0
  have e : mq_pairs xs (nI 1) = nI (0 + m) := m2
  have hb : xs.length * (0 + xs.length) ≤ 320 * 320 := by
    rw [Nat.zero_add]
    exact Nat.mul_le_mul hL hL
  rw [e, Nat.zero_add, mI_gt0 (by omega)]
  have h9 : m = 0 ↔ q_isRising xs = true := by
    rw [m3, rising_iff]
    constructor
    · intro z i j h1 h2 h3
      exact z j i (Nat.zero_le _) (by omega) h1 (side_1.mpr h3)
    · intro z k o _ h2 h3 h4
      exact z o k h3 (by omega) (side_1.mp h4)
  cases hq : q_isRising xs with
  | true => have := h9.mpr hq; exact ⟨fun z => absurd z (by omega), fun z => by cases z⟩
  | false =>
    have : m ≠ 0 := fun z => by rw [h9.mp z] at hq; cases hq
    exact ⟨fun _ => rfl, fun _ => by omega⟩
/-! patterns -/
theorem pat_key {p k m : Nat} {a : Int32} {b : Nat} (hp : p < 7) (hb : 0 < b) : patKey p k m a b = mpat p k m a b := by
  match p, hp with
  | 0, _ => rfl
  | 1, _ => rfl
  | 2, _ => rfl
  | 3, _ => rfl
  | 4, _ =>
    show (if k / b % 2 = 0 then a + nI (k % b) else a + nI b - nI 1 - nI (k % b)) = a + (if k / b % 2 = 0 then nI (k % b) else nI (b - 1 - k % b))
    split
    · rfl
    · have h1 : k % b < b := Nat.mod_lt _ hb
      obtain ⟨c, hc⟩ : ∃ c, b = c + (k % b) + 1 := ⟨b - 1 - k % b, by omega⟩
      rw [show b - 1 - k % b = c by omega]
      generalize k % b = j at hc
      subst hc
      rw [← nI_add (c + j) 1, ← nI_add c j, ← Int32.add_assoc, Int32.add_sub_cancel, ← Int32.add_assoc, Int32.add_sub_cancel]
  | 5, _ => rfl
  | 6, _ => rfl
def fst9 (bl : Bool) (g : Int32) (i k : Nat) : Int32 := if bl = true then g + nI (k - i) else -1
theorem fst_0 {bl : Bool} {g : Int32} {i : Nat} : nst bl g = fst9 bl g i i := by
  unfold nst fst9
  rw [Nat.sub_self, show nI 0 = (0 : Int32) from rfl, Int32.add_zero]
theorem fst_s {bl : Bool} {g : Int32} {i k : Nat} (h : i < k) : fst9 bl (ngv bl g) (i + 1) k = fst9 bl g i k := by
  unfold fst9 ngv
  cases bl <;> simp only [if_true, if_false, Bool.false_eq_true]
  rw [nI_step, show k - (i + 1) + 1 = k - i by omega]
def fgv (bl : Bool) (d : Nat) (g : Int32) : Int32 := if bl = true then g + nI d else g
theorem fgv_0 {bl : Bool} {g : Int32} : fgv bl 0 g = g := by
  unfold fgv
  cases bl <;> simp [show nI 0 = (0 : Int32) from rfl]
theorem fgv_s {bl : Bool} {g : Int32} {d : Nat} : fgv bl d (ngv bl g) = fgv bl (d + 1) g := by
  unfold fgv ngv
  cases bl <;> simp only [if_true, if_false, Bool.false_eq_true, nI_step]
theorem pat_go {p m : Nat} {a : Int32} {b : Nat} {bl : Bool} : ∀ (d i : Nat) (ys : List mIt) (g : Int32), mlp (stPat p m a b bl) d i (ys, g) = (ys ++ (List.range' i d).map (fun k => (patKey p k m a b, fst9 bl g i k)), fgv bl d g) := by
  intro d
  induction d with
  | zero =>
    intro i ys g
    rw [fgv_0]
    exact Prod.ext (List.append_nil ys).symm rfl
  | succ d ih =>
    intro i ys g
    show mlp (stPat p m a b bl) d (i + 1) (ys ++ [(patKey p i m a b, nst bl g)], ngv bl g) = _
    rw [ih, List.range'_succ, List.map_cons, List.append_assoc, fgv_s, fst_0 (i := i)]
    have e3 : (List.range' (i + 1) d).map (fun k => (patKey p k m a b, fst9 bl (ngv bl g) (i + 1) k)) = (List.range' (i + 1) d).map (fun k => (patKey p k m a b, fst9 bl g i k)) := List.map_congr_left (fun k hk => by rw [fst_s (by have := List.mem_range'_1.mp hk; omega)])
    rw [e3]
    rfl
theorem drs_s {x : Int32} (k : Nat) : drs (drw x) k = drs x (k + 1) := by
  induction k with
  | zero => simp only [drs]
  | succ k ih =>
    simp only [drs] at ih ⊢
    rw [ih]
theorem drw_go {bl : Bool} : ∀ (d i : Nat) (ys : List mIt) (g x : Int32), ∃ x', mlp (stDrw bl) d i (ys, g, x) = (ys ++ (List.range' i d).map (fun k => (drk (drs x (k - i + 1)), fst9 bl g i k)), fgv bl d g, x') := by
  intro d
  induction d with
  | zero =>
    intro i ys g x
    rw [fgv_0]
    exact ⟨x, Prod.ext (List.append_nil ys).symm rfl⟩
  | succ d ih =>
    intro i ys g x
    obtain ⟨x', h⟩ := ih (i + 1) (ys ++ [(drk (drw x), nst bl g)]) (ngv bl g) (drw x)
    refine ⟨x', ?_⟩
    show mlp (stDrw bl) d (i + 1) (ys ++ [(drk (drw x), nst bl g)], ngv bl g, drw x) = _
    rw [h, List.range'_succ, List.map_cons, List.append_assoc, fgv_s, fst_0 (i := i)]
    have e3 : (List.range' (i + 1) d).map (fun k => (drk (drs (drw x) (k - (i + 1) + 1)), fst9 bl (ngv bl g) (i + 1) k)) = (List.range' (i + 1) d).map (fun k => (drk (drs x (k - i + 1)), fst9 bl g i k)) := List.map_congr_left (fun k hk => by
      have hk2 := List.mem_range'_1.mp hk
      rw [fst_s (by omega), drs_s, show k - (i + 1) + 1 + 1 = k - i + 1 by omega])
    rw [e3, Nat.sub_self]
    rfl
theorem fill_eq {p m : Nat} {a : Int32} {b r : Nat} {g : Int32} (hp : p < 8) (hb : 0 < b) : (fillL p m a b (decide (r < 2)) g).1 = zipF (flF p m a b) (madeF r g) m ∧ (fillL p m a b (decide (r < 2)) g).2 = madeG r m g := by
  have hg : ∀ i k : Nat, fst9 (decide (r < 2)) g 0 k = madeF r g k := fun i k => by
    unfold fst9 madeF
    rw [Nat.sub_zero]
    by_cases q : 1 < r
    · rw [if_pos q, if_neg (by simp; omega)]
    · rw [if_neg q, if_pos (by simp; omega)]
  have hv : fgv (decide (r < 2)) m g = madeG r m g := by
    unfold fgv madeG
    by_cases q : 1 < r
    · rw [if_pos q, if_neg (by simp; omega)]
    · rw [if_neg q, if_pos (by simp; omega)]
  have hz : ∀ f : Nat → Int32, ([] : List mIt) ++ (List.range' 0 m).map (fun k => (f k, fst9 (decide (r < 2)) g 0 k)) = zipF f (madeF r g) m := fun f => by
    unfold zipF
    rw [List.nil_append, List.range_eq_range']
    exact List.map_congr_left (fun k _ => by rw [hg 0 k])
  unfold fillL
  by_cases h7 : p = 7
  · rw [if_pos h7]
    obtain ⟨x', h⟩ := drw_go (bl := decide (r < 2)) (m - 0) 0 [] g (drx a b)
    rw [h]
    refine ⟨?_, hv⟩
    dsimp only
    rw [Nat.sub_zero]
    refine (hz (fun k => drk (drs (drx a b) (k - 0 + 1)))).trans ?_
    refine congrArg (fun f => zipF f (madeF r g) m) (funext fun k => ?_)
    unfold flF
    rw [if_pos h7, Nat.sub_zero]
  · rw [if_neg h7, pat_go]
    refine ⟨?_, hv⟩
    dsimp only
    rw [Nat.sub_zero]
    refine (hz (fun k => patKey p k m a b)).trans ?_
    refine congrArg (fun f => zipF f (madeF r g) m) (funext fun k => ?_)
    unfold flF
    rw [if_neg h7, pat_key (by omega) hb]
/-! the next states -/
def stOf (S : cS) (o : Nat × Value × cS) : cS := if o.1 = 0 then o.2.2 else S
def lenOk (S : cS) : Prop := ∀ r, r < 4 → (S.1 r).length ≤ rroom r
theorem dAt_c {S : cS} {k : Nat} {x : Int32} {f g : Nat → Nat × Value × cS} (hk : k < 2 ^ 31) (h : ∀ j, j < k → (g j).2.2 = stOf S (f j)) : (dAt S k x g).2.2 = stOf S (dAt S k x f) := by
  rcases q : inN k x with _ | j
  · rw [dAt_n q, dAt_n q]; rfl
  · obtain ⟨hj, rfl⟩ := inN_of q hk
    rw [dAt_s hj hk, dAt_s hj hk]
    exact h j hj
theorem dArg_c {S : cS} {k : Nat} {x : Int32} {f g : Nat → Nat × Value × cS} (hk : k < 2 ^ 31) (h : ∀ j, j < k → (g j).2.2 = stOf S (f j)) : (dArg S k x g).2.2 = stOf S (dArg S k x f) := by
  rcases q : inN k x with _ | j
  · rw [dArg_n q, dArg_n q]; rfl
  · obtain ⟨hj, rfl⟩ := inN_of q hk
    rw [dArg_s hj hk, dArg_s hj hk]
    exact h j hj
theorem dFit_c {S : cS} {b : Bool} {f g : Nat × Value × cS} (h : g.2.2 = stOf S f) : (dFit S b g).2.2 = stOf S (dFit S b f) := by
  cases b with
  | true => rw [dFit_s rfl, dFit_s rfl]; exact h
  | false => rw [dFit_n rfl, dFit_n rfl]; rfl
theorem dB_c {S : cS} {x : Int32} {f g : Nat → Nat × Value × cS} (h : ∀ j, 0 < j → (g j).2.2 = stOf S (f j)) : (dB S x g).2.2 = stOf S (dB S x f) := by
  by_cases q : x < 1 ∨ nI 99 < x
  · rw [dB_n q, dB_n q]; rfl
  · obtain ⟨bn, hbn, hb0, rfl⟩ := dB_in (fun z => q (Or.inl z)) (fun z => q (Or.inr z))
    rw [dB_s hbn hb0, dB_s hbn hb0]
    exact h bn hb0
theorem dKeep_c {S : cS} {L : Nat} {x y : Int32} {f g : Nat → Nat → Nat × Value × cS} (hL : L < 2 ^ 30) (h : ∀ p t, p ≤ t → t ≤ L → (g p t).2.2 = stOf S (f p t)) : (dKeep S L x y g).2.2 = stOf S (dKeep S L x y f) := by
  by_cases q : x < 0 ∨ y < x ∨ nI L < y
  · rw [keep_neg q, keep_neg q]; rfl
  · obtain ⟨p, hp, t, ht, hpt, rfl, rfl⟩ := keep_in (fun z => q (Or.inl z)) (fun z => q (Or.inr (Or.inl z))) (fun z => q (Or.inr (Or.inr z))) hL
    rw [keep_pos hpt ht hL, keep_pos hpt ht hL]
    exact h p t hpt (by omega)
theorem eqS_clear {S : cS} {row : Int32} : (mp_clear S row).2.2 = stOf S (sp_clear S row) := dAt_c (by decide) (fun _ _ => rfl)
theorem eqS_drop {S : cS} {row place : Int32} (hS : lenOk S) : (mp_drop S row place).2.2 = stOf S (sp_drop S row place) :=
  dAt_c (by decide) (fun r hr => dAt_c (by have := hS r hr; have := @rroom_le r; omega) (fun p hp => congrArg (fun z => cAct (cSet S r z)) (drop_eq hp)))
theorem eqS_put {S : cS} {row place key : Int32} (hS : lenOk S) : (mp_put S row place key).2.2 = stOf S (sp_put S row place key) :=
  dAt_c (by decide) (fun r hr => dAt_c (by have := hS r hr; have := @rroom_le r; omega) (fun p hp => dFit_c (by
    show cAct (cGiv (cSet S r ((S.1 r).set p (key, madeF r S.2.1 0))) (madeG r 1 S.2.1)) = cAct (cGiv (cSet S r ((S.1 r).set p (key, nst (decide (r < 2)) S.2.1))) (ngv (decide (r < 2)) S.2.1))
    rw [made_nst, made_ngv])))
theorem eqS_add {S : cS} {row key : Int32} (hS : lenOk S) : (mp_add S row key).2.2 = stOf S (sp_add S row key) :=
  dAt_c (by decide) (fun r hr => dFit_c (by
    have h1 := hS r hr
    by_cases q : (S.1 r).length = rroom r
    · rw [if_pos q, if_pos (by omega)]; rfl
    · rw [if_neg q, if_neg (by omega)]
      show cAct (cGiv (cSet S r (jnL (S.1 r) (fun _ => key) (madeF r S.2.1) 1)) (madeG r 1 S.2.1)) = _
      rw [add_eq, made_ngv]
      rfl))
theorem eqS_exchange {S : cS} {row place : Int32} (hS : lenOk S) : (mp_exchange S row place).2.2 = stOf S (sp_exchange S row place) :=
  dAt_c (by decide) (fun r hr => dAt_c (by have := hS r hr; have := @rroom_le r; omega) (fun p hp => rfl))
theorem eqS_swap {S : cS} {row place other : Int32} (hS : lenOk S) : (mp_swap S row place other).2.2 = stOf S (sp_swap S row place other) :=
  dAt_c (by decide) (fun r hr => dAt_c (by have := hS r hr; have := @rroom_le r; omega) (fun p hp => dAt_c (by have := hS r hr; have := @rroom_le r; omega) (fun q hq => rfl)))
theorem eqS_turn {S : cS} {row : Int32} : (mp_turn S row).2.2 = stOf S (sp_turn S row) := dAt_c (by decide) (fun r _ => congrArg (fun z => cAct (cSet S r z)) turn_eq)
theorem eqS_roll {S : cS} {row by_ : Int32} (hS : lenOk S) : (mp_roll S row by_).2.2 = stOf S (sp_roll S row by_) :=
  dAt_c (by decide) (fun r hr => dArg_c (by have := hS r hr; have := @rroom_le r; omega) (fun b hb => congrArg (fun z => cAct (cSet S r z)) (roll_eq (by omega))))
theorem eqS_keep {S : cS} {row from_ to : Int32} (hS : lenOk S) : (mp_keep S row from_ to).2.2 = stOf S (sp_keep S row from_ to) :=
  dAt_c (by decide) (fun r hr => dKeep_c (by have := hS r hr; have := @rroom_le r; omega) (fun p t hpt ht => congrArg (fun z => cAct (cSet S r z)) (keep_eq ht)))
theorem eqS_sort {S : cS} {row : Int32} : (mp_sort S row).2.2 = stOf S (sp_sort S row) := dAt_c (by decide) (fun r _ => congrArg (fun z => cAct (cSet S r z)) msort_scat)
theorem eqS_copy {S : cS} {row into : Int32} (hS : lenOk S) : (mp_copy S row into).2.2 = stOf S (sp_copy S row into) :=
  dAt_c (by decide) (fun r hr => dAt_c (by decide) (fun q hq => by
    have h1 := hS r hr
    have h2 := hS q hq
    by_cases e : r = q
    · subst e
      rw [if_neg (by omega), if_pos rfl, if_pos rfl]; rfl
    · rw [if_neg e, if_neg e]
      by_cases f : rroom q < (S.1 r).length
      · rw [if_pos f, if_pos f]; rfl
      · rw [if_neg f, if_neg f]
        show cAct (cGiv (cSet S q (zipF (xk (S.1 r)) (comF q r (S.1 r).length (S.1 r) S.2.1) (S.1 r).length)) (comG q r (S.1 r).length S.2.1)) = _
        obtain ⟨b1, b2⟩ := bring_jn (xs := S.1 r) (ys := []) (r := q) (q := r) (g := S.2.1)
        rw [← jn_nil, ← b1, ← b2]
        rfl))
theorem eqS_join {S : cS} {row other : Int32} (hS : lenOk S) : (mp_join S row other).2.2 = stOf S (sp_join S row other) :=
  dAt_c (by decide) (fun r hr => dAt_c (by decide) (fun q hq => by
    have h1 := hS r hr
    by_cases f : rroom r < (S.1 r).length + (S.1 q).length
    · rw [if_pos f, if_pos (by omega)]; rfl
    · rw [if_neg f, if_neg (by omega)]
      show cAct (cGiv (cSet S r (jnL (S.1 r) (xk (S.1 q)) (comF r q (S.1 q).length (S.1 q) S.2.1) (S.1 q).length)) (comG r q (S.1 q).length S.2.1)) = _
      obtain ⟨b1, b2⟩ := bring_jn (xs := S.1 q) (ys := S.1 r) (r := r) (q := q) (g := S.2.1)
      rw [← b1, ← b2]
      rfl))
theorem xk_jn_lt {xs : List mIt} {f g : Nat → Int32} {m i : Nat} (h : i < xs.length) : xk (jnL xs f g m) i = xk xs i := congrArg Prod.fst ((it_jn (f := f) (g := g) (m := m) (show i < xs.length + m by omega)).trans (if_pos h))
theorem xk_jn_ge {xs : List mIt} {f g : Nat → Int32} {m i : Nat} (h : ¬ i < xs.length) (h2 : i < xs.length + m) : xk (jnL xs f g m) i = f (i - xs.length) := congrArg Prod.fst ((it_jn (f := f) (g := g) h2).trans (if_neg h))
theorem eqS_merge {S : cS} {row other : Int32} (hS : lenOk S) : (mp_merge S row other).2.2 = stOf S (sp_merge S row other) :=
  dAt_c (by decide) (fun r hr => dAt_c (by decide) (fun q hq => by
    have h1 := hS r hr
    have h2 := hS q hq
    have h3 := @rroom_le r
    have h4 := @rroom_le q
    have w1 := wrong_pos (xs := S.1 r) (by omega)
    have w2 := wrong_pos (xs := S.1 q) (by omega)
    by_cases e1 : q_isRising (S.1 r) = false
    · rw [if_pos (w1.mpr e1), if_pos e1]; rfl
    · rw [if_neg (fun z => e1 (w1.mp z)), if_neg e1]
      by_cases e2 : q_isRising (S.1 q) = false
      · rw [if_pos (w2.mpr e2), if_pos e2]; rfl
      · rw [if_neg (fun z => e2 (w2.mp z)), if_neg e2]
        by_cases f : rroom r < (S.1 r).length + (S.1 q).length
        · rw [if_pos f, if_pos (by omega)]; rfl
        · rw [if_neg f, if_neg (by omega)]
          obtain ⟨b1, b2⟩ := bring_jn (xs := S.1 q) (ys := S.1 r) (r := r) (q := q) (g := S.2.1)
          have r1 := rising_iff.mp (eq_true_of_ne_false e1)
          have r2 := rising_iff.mp (eq_true_of_ne_false e2)
          have w : chF (jnL (S.1 r) (xk (S.1 q)) (comF r q (S.1 q).length (S.1 q) S.2.1) (S.1 q).length) (scat (jnL (S.1 r) (xk (S.1 q)) (comF r q (S.1 q).length (S.1 q) S.2.1) (S.1 q).length)) (jnL (S.1 r) (xk (S.1 q)) (comF r q (S.1 q).length (S.1 q) S.2.1) (S.1 q).length).length = weave (jnL (S.1 r) (xk (S.1 q)) (comF r q (S.1 q).length (S.1 q) S.2.1) (S.1 q).length) (S.1 r).length := by
            refine weave_scat (by rw [jnL_len]; omega) (fun i j hij hj => ?_) (fun i j hi hij hj => ?_)
            · rw [xk_jn_lt hj, xk_jn_lt (show i < (S.1 r).length by omega)]
              exact r1 i j hij hj
            · rw [jnL_len] at hj
              rw [xk_jn_ge (by omega) hj, xk_jn_ge (by omega) (by omega)]
              exact r2 _ _ (by omega) (by omega)
          refine (congrArg (fun z => cAct (cGiv (cSet S r z) (comG r q (S.1 q).length S.2.1))) (w.trans (show weave (jnL (S.1 r) (xk (S.1 q)) (comF r q (S.1 q).length (S.1 q) S.2.1) (S.1 q).length) (S.1 r).length = weave (bringL (S.1 q) (decide (r < 2)) (decide (q < 2)) (S.1 r) S.2.1).1 (S.1 r).length from by rw [b1]))).trans ?_
          rw [← b2]
          rfl))
theorem eqS_fill {S : cS} {row many pattern a b : Int32} : (mp_fill S row many pattern a b).2.2 = stOf S (sp_fill S row many pattern a b) :=
  dAt_c (by decide) (fun r hr => dArg_c (by have := @rroom_le r; omega) (fun m hm => dArg_c (by decide) (fun p hp => dFit_c (dB_c (fun bn hb => by
    obtain ⟨b1, b2⟩ := fill_eq (p := p) (m := m) (a := a) (b := bn) (r := r) (g := S.2.1) hp hb
    show cAct (cGiv (cSet S r (zipF (flF p m a bn) (madeF r S.2.1) m)) (madeG r m S.2.1)) = _
    rw [← b1, ← b2]
    rfl)))))

/-! ===== the comparing: rows; questions leave the state ===== -/
section MTZ
variable {l : Launch} {M : mM} {R : Room} {K : mK} {pc : Nat} {ls st : List Value} {h : mH} {n cc sc : Nat}
theorem mt_getfieldN {a ci i : Nat} {C host : String} {T : u_T} {N index : Nat} {ty0 : Nat → FieldType} {fs : List Value} {v : Value} (hc : mCl ci C T N ty0) (hk : i < N) (hlink : Cond.fieldLinkNest M.1.cls index (T i).1 (T i).2.1 (T i).2.2.1 host ∈ mNw) (hdg : decode M.2.1 pc = .ok (.getfield index, 3)) (he : h a = .inr (.inr (ci, fs))) (hv : fs[i]? = some v) (k : mT l M R K (pc + 3) ls (v :: st) h n cc sc) : mT l M R K pc ls (.ref a :: st) h n cc sc := by
  intro p e s m args below meth c G w0 H locs LS ws st' hC hD
  obtain ⟨d1, d2, d3, d4, d5, d6, d7⟩ := hD
  obtain ⟨⟨x, e'⟩, t', h1, rfl, d7a⟩ := d7.ref
  have hr := d1.at h1
  rw [he] at hr
  obtain ⟨fs', rfl, h3⟩ := hr
  obtain ⟨v', h4, h5⟩ := h3.get hv
  have hC' := hC
  obtain ⟨hx, -, hb, -, -, hown, hts, -, -, -, hmS, -⟩ := hC'
  exact va_getN hx hb hts hc.2.1 hown hmS.1 d2 a h1 hc.1 i hk (va_Nw.use rfl (hmS.2.2.2.2.2.1 _ hlink)) (fun _ q => q) h4 hdg (k p e s m args below meth c G w0 H locs LS ws _ hC ⟨d1, d2, d3, d4, d5, d6, mrl.cons h5 d7a⟩)
theorem mt_lcmpE {x : Int64} (hdg : decode M.2.1 pc = .ok (.lcmp, 1)) (k : mT l M R K (pc + 1) ls (.int (nI 0) :: st) h n cc sc) : mT l M R K pc ls (.long x :: .long x :: st) h n cc sc := mt_lift k (fun _ _ _ hx hb hr => by
  obtain ⟨_, rfl, hr2⟩ := hr.long
  obtain ⟨_, rfl, hr3⟩ := hr2.long
  exact ⟨_, mrl.cons (v' := .int (nI 0)) rfl hr3, fun kk => W.lcmp hx hb hdg (by rw [show lg_cmp x x = nI 0 from by unfold lg_cmp; rw [if_neg (by rw [gt_iff_lt, Int64.lt_iff_toInt_lt]; omega), if_pos rfl]; rfl]; exact kk)⟩)
end MTZ
theorem lenOk_of {h : mH} {S : cS} (C : cAt h S) : lenOk S := fun r hr => (C.2.2.2.1 r hr).len.1
/-- a question leaves the state -/
def qP (S : cS) (o : Nat × Value × cS) : Prop := o.2.2 = S
theorem dAt_q {S : cS} {k : Nat} {x : Int32} {f : Nat → Nat × Value × cS} (hf : ∀ r, qP S (f r)) : qP S (dAt S k x f) := by
  unfold dAt
  split
  · rfl
  · exact hf _
theorem dArg_q {S : cS} {k : Nat} {x : Int32} {f : Nat → Nat × Value × cS} (hf : ∀ r, qP S (f r)) : qP S (dArg S k x f) := by
  unfold dArg
  split
  · rfl
  · exact hf _
theorem dFit_q {S : cS} {k : Bool} {o : Nat × Value × cS} (hf : qP S o) : qP S (dFit S k o) := by
  unfold dFit
  split
  · exact hf
  · rfl
theorem stOf_q {S : cS} {o : Nat × Value × cS} (h : qP S o) : stOf S o = S := by
  unfold stOf
  split
  · exact h
  · rfl
abbrev rX4_thrown : Room := { frames := 0, cells := 0, slots := 0, locals := 0 }
theorem kX4_thrown {l : Launch} (hl : l.stackTraces = false) {h : mH} {n : Nat} {S : cS} {th : Int32} (C : h 27 = mObj S th) : mC l mX4_thrown rX4_thrown [.ref 27] h n (mRi th h n) mNX := by
  refine mm_enter hl (by decide +kernel) rfl rfl rfl (Nat.le_of_ble_eq_true rfl) ?_
  show mT _ _ _ _ 0 [.ref 27] [] _ _ 0 0
  refine mt_aload_n dX4_thrown_0 rfl rfl ?_
  refine mt_getfield mKX4 (i := 6) (by decide) mw_1059 dX4_thrown_1 C rfl ?_
  refine mt_ireturn dX4_thrown_4 rfl rfl (Nat.le_of_ble_eq_true rfl) (Nat.le_of_ble_eq_true rfl) ?_
  exact ⟨rfl, rfl, rfl⟩
theorem qst_sp_many {S : cS} {row : Int32} : qP S (sp_many S row) := by
  unfold sp_many
  repeat' first | rfl | refine dAt_q (fun r => ?_) | refine dArg_q (fun r => ?_) | refine dFit_q ?_ | split
theorem qst_sp_key {S : cS} {row : Int32} {place : Int32} : qP S (sp_key S row place) := by
  unfold sp_key
  repeat' first | rfl | refine dAt_q (fun r => ?_) | refine dArg_q (fun r => ?_) | refine dFit_q ?_ | split
theorem qst_sp_stamp {S : cS} {row : Int32} {place : Int32} : qP S (sp_stamp S row place) := by
  unfold sp_stamp
  repeat' first | rfl | refine dAt_q (fun r => ?_) | refine dArg_q (fun r => ?_) | refine dFit_q ?_ | split
theorem qst_sp_rank {S : cS} {row : Int32} {place : Int32} : qP S (sp_rank S row place) := by
  unfold sp_rank
  repeat' first | rfl | refine dAt_q (fun r => ?_) | refine dArg_q (fun r => ?_) | refine dFit_q ?_ | split
theorem qst_sp_would {S : cS} {row : Int32} {place : Int32} : qP S (sp_would S row place) := by
  unfold sp_would
  repeat' first | rfl | refine dAt_q (fun r => ?_) | refine dArg_q (fun r => ?_) | refine dFit_q ?_ | split
theorem qst_mp_would {S : cS} {row : Int32} {place : Int32} : qP S (mp_would S row place) := by
  unfold mp_would
  repeat' first | rfl | refine dAt_q (fun r => ?_) | refine dArg_q (fun r => ?_) | refine dFit_q ?_ | split
theorem qst_sp_wouldStamp {S : cS} {row : Int32} {place : Int32} : qP S (sp_wouldStamp S row place) := by
  unfold sp_wouldStamp
  repeat' first | rfl | refine dAt_q (fun r => ?_) | refine dArg_q (fun r => ?_) | refine dFit_q ?_ | split
theorem qst_mp_wouldStamp {S : cS} {row : Int32} {place : Int32} : qP S (mp_wouldStamp S row place) := by
  unfold mp_wouldStamp
  repeat' first | rfl | refine dAt_q (fun r => ?_) | refine dArg_q (fun r => ?_) | refine dFit_q ?_ | split
theorem qst_sp_wrongAt {S : cS} {row : Int32} {place : Int32} : qP S (sp_wrongAt S row place) := by
  unfold sp_wrongAt
  repeat' first | rfl | refine dAt_q (fun r => ?_) | refine dArg_q (fun r => ?_) | refine dFit_q ?_ | split
theorem qst_mp_wrongAt {S : cS} {row : Int32} {place : Int32} : qP S (mp_wrongAt S row place) := by
  unfold mp_wrongAt
  repeat' first | rfl | refine dAt_q (fun r => ?_) | refine dArg_q (fun r => ?_) | refine dFit_q ?_ | split
theorem qst_sp_after {S : cS} {row : Int32} {place : Int32} : qP S (sp_after S row place) := by
  unfold sp_after
  repeat' first | rfl | refine dAt_q (fun r => ?_) | refine dArg_q (fun r => ?_) | refine dFit_q ?_ | split
theorem qst_mp_after {S : cS} {row : Int32} {place : Int32} : qP S (mp_after S row place) := by
  unfold mp_after
  repeat' first | rfl | refine dAt_q (fun r => ?_) | refine dArg_q (fun r => ?_) | refine dFit_q ?_ | split
theorem qst_sp_runAt {S : cS} {row : Int32} {place : Int32} : qP S (sp_runAt S row place) := by
  unfold sp_runAt
  repeat' first | rfl | refine dAt_q (fun r => ?_) | refine dArg_q (fun r => ?_) | refine dFit_q ?_ | split
theorem qst_sp_isSorted {S : cS} {row : Int32} : qP S (sp_isSorted S row) := by
  unfold sp_isSorted
  repeat' first | rfl | refine dAt_q (fun r => ?_) | refine dArg_q (fun r => ?_) | refine dFit_q ?_ | split
theorem qst_mp_isSorted {S : cS} {row : Int32} : qP S (mp_isSorted S row) := by
  unfold mp_isSorted
  repeat' first | rfl | refine dAt_q (fun r => ?_) | refine dArg_q (fun r => ?_) | refine dFit_q ?_ | split
theorem qst_sp_isFalling {S : cS} {row : Int32} : qP S (sp_isFalling S row) := by
  unfold sp_isFalling
  repeat' first | rfl | refine dAt_q (fun r => ?_) | refine dArg_q (fun r => ?_) | refine dFit_q ?_ | split
theorem qst_mp_isFalling {S : cS} {row : Int32} : qP S (mp_isFalling S row) := by
  unfold mp_isFalling
  repeat' first | rfl | refine dAt_q (fun r => ?_) | refine dArg_q (fun r => ?_) | refine dFit_q ?_ | split
theorem qst_sp_isKept {S : cS} {row : Int32} : qP S (sp_isKept S row) := by
  unfold sp_isKept
  repeat' first | rfl | refine dAt_q (fun r => ?_) | refine dArg_q (fun r => ?_) | refine dFit_q ?_ | split
theorem qst_mp_isKept {S : cS} {row : Int32} : qP S (mp_isKept S row) := by
  unfold mp_isKept
  repeat' first | rfl | refine dAt_q (fun r => ?_) | refine dArg_q (fun r => ?_) | refine dFit_q ?_ | split
theorem qst_sp_wrong {S : cS} {row : Int32} {how : Int32} : qP S (sp_wrong S row how) := by
  unfold sp_wrong
  repeat' first | rfl | refine dAt_q (fun r => ?_) | refine dArg_q (fun r => ?_) | refine dFit_q ?_ | split
theorem qst_mp_wrong {S : cS} {row : Int32} {how : Int32} : qP S (mp_wrong S row how) := by
  unfold mp_wrong
  repeat' first | rfl | refine dAt_q (fun r => ?_) | refine dArg_q (fun r => ?_) | refine dFit_q ?_ | split
theorem qst_sp_right {S : cS} {row : Int32} : qP S (sp_right S row) := by
  unfold sp_right
  repeat' first | rfl | refine dAt_q (fun r => ?_) | refine dArg_q (fun r => ?_) | refine dFit_q ?_ | split
theorem qst_mp_right {S : cS} {row : Int32} : qP S (mp_right S row) := by
  unfold mp_right
  repeat' first | rfl | refine dAt_q (fun r => ?_) | refine dArg_q (fun r => ?_) | refine dFit_q ?_ | split
theorem qst_sp_ties {S : cS} {row : Int32} : qP S (sp_ties S row) := by
  unfold sp_ties
  repeat' first | rfl | refine dAt_q (fun r => ?_) | refine dArg_q (fun r => ?_) | refine dFit_q ?_ | split
theorem qst_mp_ties {S : cS} {row : Int32} : qP S (mp_ties S row) := by
  unfold mp_ties
  repeat' first | rfl | refine dAt_q (fun r => ?_) | refine dArg_q (fun r => ?_) | refine dFit_q ?_ | split
theorem qst_sp_runs {S : cS} {row : Int32} : qP S (sp_runs S row) := by
  unfold sp_runs
  repeat' first | rfl | refine dAt_q (fun r => ?_) | refine dArg_q (fun r => ?_) | refine dFit_q ?_ | split
theorem qst_mp_runs {S : cS} {row : Int32} : qP S (mp_runs S row) := by
  unfold mp_runs
  repeat' first | rfl | refine dAt_q (fun r => ?_) | refine dArg_q (fun r => ?_) | refine dFit_q ?_ | split
theorem qst_sp_longest {S : cS} {row : Int32} : qP S (sp_longest S row) := by
  unfold sp_longest
  repeat' first | rfl | refine dAt_q (fun r => ?_) | refine dArg_q (fun r => ?_) | refine dFit_q ?_ | split
theorem qst_mp_longest {S : cS} {row : Int32} : qP S (mp_longest S row) := by
  unfold mp_longest
  repeat' first | rfl | refine dAt_q (fun r => ?_) | refine dArg_q (fun r => ?_) | refine dFit_q ?_ | split
theorem qst_sp_count {S : cS} {row : Int32} {key : Int32} : qP S (sp_count S row key) := by
  unfold sp_count
  repeat' first | rfl | refine dAt_q (fun r => ?_) | refine dArg_q (fun r => ?_) | refine dFit_q ?_ | split
theorem qst_mp_count {S : cS} {row : Int32} {key : Int32} : qP S (mp_count S row key) := by
  unfold mp_count
  repeat' first | rfl | refine dAt_q (fun r => ?_) | refine dArg_q (fun r => ?_) | refine dFit_q ?_ | split
theorem qst_sp_below {S : cS} {row : Int32} {key : Int32} : qP S (sp_below S row key) := by
  unfold sp_below
  repeat' first | rfl | refine dAt_q (fun r => ?_) | refine dArg_q (fun r => ?_) | refine dFit_q ?_ | split
theorem qst_mp_below {S : cS} {row : Int32} {key : Int32} : qP S (mp_below S row key) := by
  unfold mp_below
  repeat' first | rfl | refine dAt_q (fun r => ?_) | refine dArg_q (fun r => ?_) | refine dFit_q ?_ | split
theorem qst_sp_first {S : cS} {row : Int32} {key : Int32} {isLast : Bool} : qP S (sp_first S row key isLast) := by
  unfold sp_first
  repeat' first | rfl | refine dAt_q (fun r => ?_) | refine dArg_q (fun r => ?_) | refine dFit_q ?_ | split
theorem qst_mp_first {S : cS} {row : Int32} {key : Int32} {isLast : Bool} : qP S (mp_first S row key isLast) := by
  unfold mp_first
  repeat' first | rfl | refine dAt_q (fun r => ?_) | refine dArg_q (fun r => ?_) | refine dFit_q ?_ | split
theorem qst_sp_end {S : cS} {row : Int32} {isGreatest : Bool} : qP S (sp_end S row isGreatest) := by
  unfold sp_end
  repeat' first | rfl | refine dAt_q (fun r => ?_) | refine dArg_q (fun r => ?_) | refine dFit_q ?_ | split
theorem qst_mp_end {S : cS} {row : Int32} {isGreatest : Bool} : qP S (mp_end S row isGreatest) := by
  unfold mp_end
  repeat' first | rfl | refine dAt_q (fun r => ?_) | refine dArg_q (fun r => ?_) | refine dFit_q ?_ | split
theorem qst_sp_unlike {S : cS} {row : Int32} : qP S (sp_unlike S row) := by
  unfold sp_unlike
  repeat' first | rfl | refine dAt_q (fun r => ?_) | refine dArg_q (fun r => ?_) | refine dFit_q ?_ | split
theorem qst_mp_unlike {S : cS} {row : Int32} : qP S (mp_unlike S row) := by
  unfold mp_unlike
  repeat' first | rfl | refine dAt_q (fun r => ?_) | refine dArg_q (fun r => ?_) | refine dFit_q ?_ | split
theorem qst_sp_most {S : cS} {row : Int32} : qP S (sp_most S row) := by
  unfold sp_most
  repeat' first | rfl | refine dAt_q (fun r => ?_) | refine dArg_q (fun r => ?_) | refine dFit_q ?_ | split
theorem qst_mp_most {S : cS} {row : Int32} : qP S (mp_most S row) := by
  unfold mp_most
  repeat' first | rfl | refine dAt_q (fun r => ?_) | refine dArg_q (fun r => ?_) | refine dFit_q ?_ | split
theorem qst_sp_sum {S : cS} {row : Int32} : qP S (sp_sum S row) := by
  unfold sp_sum
  repeat' first | rfl | refine dAt_q (fun r => ?_) | refine dArg_q (fun r => ?_) | refine dFit_q ?_ | split
theorem qst_mp_sum {S : cS} {row : Int32} : qP S (mp_sum S row) := by
  unfold mp_sum
  repeat' first | rfl | refine dAt_q (fun r => ?_) | refine dArg_q (fun r => ?_) | refine dFit_q ?_ | split
theorem qst_sp_same {S : cS} {row : Int32} {other : Int32} : qP S (sp_same S row other) := by
  unfold sp_same
  repeat' first | rfl | refine dAt_q (fun r => ?_) | refine dArg_q (fun r => ?_) | refine dFit_q ?_ | split
theorem qst_mp_same {S : cS} {row : Int32} {other : Int32} : qP S (mp_same S row other) := by
  unfold mp_same
  repeat' first | rfl | refine dAt_q (fun r => ?_) | refine dArg_q (fun r => ?_) | refine dFit_q ?_ | split
theorem qst_sp_bag {S : cS} {row : Int32} {other : Int32} : qP S (sp_bag S row other) := by
  unfold sp_bag
  repeat' first | rfl | refine dAt_q (fun r => ?_) | refine dArg_q (fun r => ?_) | refine dFit_q ?_ | split
theorem qst_mp_bag {S : cS} {row : Int32} {other : Int32} : qP S (mp_bag S row other) := by
  unfold mp_bag
  repeat' first | rfl | refine dAt_q (fun r => ?_) | refine dArg_q (fun r => ?_) | refine dFit_q ?_ | split
theorem qst_sp_mark {S : cS} {row : Int32} {isStamps : Bool} : qP S (sp_mark S row isStamps) := by
  unfold sp_mark
  repeat' first | rfl | refine dAt_q (fun r => ?_) | refine dArg_q (fun r => ?_) | refine dFit_q ?_ | split
theorem qst_sp_house {S : cS} {what : Int32} : qP S (sp_house S what) := by
  unfold sp_house
  repeat' first | rfl | refine dAt_q (fun r => ?_) | refine dArg_q (fun r => ?_) | refine dFit_q ?_ | split
theorem qst_mp_house {S : cS} {what : Int32} : qP S (mp_house S what) := by
  unfold mp_house
  repeat' first | rfl | refine dAt_q (fun r => ?_) | refine dArg_q (fun r => ?_) | refine dFit_q ?_ | split

/-! ===== the answers alike, one question or act after another ===== -/
/-- the reference's outcome o' is the class's o: its kind, and its answer where it is let -/
def vEq (o o' : Nat × Value × cS) : Prop := o'.1 = o.1 ∧ (o.1 = 0 → o'.2.1 = o.2.1)
theorem vEq.rf {o : Nat × Value × cS} : vEq o o := ⟨rfl, fun _ => rfl⟩
theorem vEq.of {v v' : Value} {S S' : cS} (h : v' = v) : vEq (0, v, S) (0, v', S') := ⟨rfl, fun _ => h⟩
theorem dAt_v {S : cS} {k : Nat} {x : Int32} {f g : Nat → Nat × Value × cS} (hk : k < 2 ^ 31) (h : ∀ j, j < k → vEq (f j) (g j)) : vEq (dAt S k x f) (dAt S k x g) := by
  rcases q : inN k x with _ | j
  · rw [dAt_n q, dAt_n q]; exact vEq.rf
  · obtain ⟨hj, rfl⟩ := inN_of q hk
    rw [dAt_s hj hk, dAt_s hj hk]
    exact h j hj
theorem dArg_v {S : cS} {k : Nat} {x : Int32} {f g : Nat → Nat × Value × cS} (hk : k < 2 ^ 31) (h : ∀ j, j < k → vEq (f j) (g j)) : vEq (dArg S k x f) (dArg S k x g) := by
  rcases q : inN k x with _ | j
  · rw [dArg_n q, dArg_n q]; exact vEq.rf
  · obtain ⟨hj, rfl⟩ := inN_of q hk
    rw [dArg_s hj hk, dArg_s hj hk]
    exact h j hj
theorem dFit_v {S : cS} {b : Bool} {f g : Nat × Value × cS} (h : vEq f g) : vEq (dFit S b f) (dFit S b g) := by
  cases b with
  | true => rw [dFit_s rfl, dFit_s rfl]; exact h
  | false => rw [dFit_n rfl, dFit_n rfl]; exact vEq.rf
theorem dB_v {S : cS} {x : Int32} {f g : Nat → Nat × Value × cS} (h : ∀ j, 0 < j → vEq (f j) (g j)) : vEq (dB S x f) (dB S x g) := by
  by_cases q : x < 1 ∨ nI 99 < x
  · rw [dB_n q, dB_n q]; exact vEq.rf
  · obtain ⟨bn, hbn, hb0, rfl⟩ := dB_in (fun z => q (Or.inl z)) (fun z => q (Or.inr z))
    rw [dB_s hbn hb0, dB_s hbn hb0]
    exact h bn hb0
theorem dKeep_v {S : cS} {L : Nat} {x y : Int32} {f g : Nat → Nat → Nat × Value × cS} (hL : L < 2 ^ 30) (h : ∀ p t, p ≤ t → t ≤ L → vEq (f p t) (g p t)) : vEq (dKeep S L x y f) (dKeep S L x y g) := by
  by_cases q : x < 0 ∨ y < x ∨ nI L < y
  · rw [keep_neg q, keep_neg q]; exact vEq.rf
  · obtain ⟨p, hp, t, ht, hpt, rfl, rfl⟩ := keep_in (fun z => q (Or.inl z)) (fun z => q (Or.inr (Or.inl z))) (fun z => q (Or.inr (Or.inr z))) hL
    rw [keep_pos hpt ht hL, keep_pos hpt ht hL]
    exact h p t hpt (by omega)
theorem eqV_many {S : cS} {row : Int32} : vEq (sp_many S row) (sp_many S row) := vEq.rf
theorem eqV_key {S : cS} {row place : Int32} : vEq (sp_key S row place) (sp_key S row place) := vEq.rf
theorem eqV_stamp {S : cS} {row place : Int32} : vEq (sp_stamp S row place) (sp_stamp S row place) := vEq.rf
theorem eqV_rank {S : cS} {row place : Int32} : vEq (sp_rank S row place) (sp_rank S row place) := vEq.rf
theorem eqV_runAt {S : cS} {row place : Int32} : vEq (sp_runAt S row place) (sp_runAt S row place) := vEq.rf
theorem eqV_mark {S : cS} {row : Int32} {isStamps : Bool} : vEq (sp_mark S row isStamps) (sp_mark S row isStamps) := vEq.rf
theorem lenOk.lt {S : cS} (hS : lenOk S) {r : Nat} (hr : r < 4) : (S.1 r).length < 2 ^ 30 := by
  have h1 := hS r hr
  have h2 := @rroom_le r
  omega
theorem eqV_put {S : cS} {row place key : Int32} (hS : lenOk S) : vEq (sp_put S row place key) (mp_put S row place key) := dAt_v (by decide) (fun r hr => dAt_v (by have := hS.lt hr; omega) (fun p _ => dFit_v (vEq.of rfl)))
theorem eqV_drop {S : cS} {row place : Int32} (hS : lenOk S) : vEq (sp_drop S row place) (mp_drop S row place) := dAt_v (by decide) (fun r hr => dAt_v (by have := hS.lt hr; omega) (fun p _ => vEq.of rfl))
theorem eqV_clear {S : cS} {row : Int32} : vEq (sp_clear S row) (mp_clear S row) := dAt_v (by decide) (fun r _ => vEq.of rfl)
theorem eqV_fill {S : cS} {row many pattern a b : Int32} : vEq (sp_fill S row many pattern a b) (mp_fill S row many pattern a b) := dAt_v (by decide) (fun r _ => dArg_v (by have := @rroom_le r; omega) (fun m _ => dArg_v (by decide) (fun p _ => dFit_v (dB_v (fun bn _ => vEq.of rfl)))))
theorem eqV_add {S : cS} {row key : Int32} (hS : lenOk S) : vEq (sp_add S row key) (mp_add S row key) := dAt_v (by decide) (fun r hr => dFit_v (by
  have h1 := hS r hr
  by_cases q : (S.1 r).length = rroom r
  · rw [if_pos q, if_pos (by omega)]; exact vEq.rf
  · rw [if_neg q, if_neg (by omega)]
    exact vEq.of (by rw [List.length_append]; rfl)))
theorem eqV_keep {S : cS} {row from_ to : Int32} (hS : lenOk S) : vEq (sp_keep S row from_ to) (mp_keep S row from_ to) := dAt_v (by decide) (fun r hr => dKeep_v (hS.lt hr) (fun p t _ ht => vEq.of (by rw [span_len ht])))
theorem eqV_copy {S : cS} {row into : Int32} (hS : lenOk S) : vEq (sp_copy S row into) (mp_copy S row into) := dAt_v (by decide) (fun r hr => dAt_v (by decide) (fun q hq => by
  have h1 := hS r hr
  by_cases e : r = q
  · subst e
    rw [if_pos rfl, if_neg (by omega), if_pos rfl]; exact vEq.of rfl
  · rw [if_neg e, if_neg e]
    by_cases f : rroom q < (S.1 r).length
    · rw [if_pos f, if_pos f]; exact vEq.rf
    · rw [if_neg f, if_neg f]
      exact vEq.of (by rw [bringL_len, List.length_nil, Nat.zero_add])))
theorem eqV_join {S : cS} {row other : Int32} (hS : lenOk S) : vEq (sp_join S row other) (mp_join S row other) := dAt_v (by decide) (fun r hr => dAt_v (by decide) (fun q hq => by
  have h1 := hS r hr
  by_cases f : rroom r < (S.1 r).length + (S.1 q).length
  · rw [if_pos f, if_pos (by omega)]; exact vEq.rf
  · rw [if_neg f, if_neg (by omega)]
    exact vEq.of (by rw [bringL_len])))
theorem eqV_merge {S : cS} {row other : Int32} (hS : lenOk S) : vEq (sp_merge S row other) (mp_merge S row other) := dAt_v (by decide) (fun r hr => dAt_v (by decide) (fun q hq => by
  have h1 := hS r hr
  have h2 := hS q hq
  have h3 := @rroom_le r
  have h4 := @rroom_le q
  have w1 := wrong_pos (xs := S.1 r) (by omega)
  have w2 := wrong_pos (xs := S.1 q) (by omega)
  by_cases e1 : q_isRising (S.1 r) = false
  · rw [if_pos (w1.mpr e1), if_pos e1]; exact vEq.rf
  · rw [if_neg (fun z => e1 (w1.mp z)), if_neg e1]
    by_cases e2 : q_isRising (S.1 q) = false
    · rw [if_pos (w2.mpr e2), if_pos e2]; exact vEq.rf
    · rw [if_neg (fun z => e2 (w2.mp z)), if_neg e2]
      by_cases f : rroom r < (S.1 r).length + (S.1 q).length
      · rw [if_pos f, if_pos (by omega)]; exact vEq.rf
      · rw [if_neg f, if_neg (by omega)]
        exact vEq.of (by rw [weave_len (by rw [bringL_len]; omega), bringL_len, chF_l, jnL_len])))
theorem swp_xk {xs : List mIt} {p q i : Nat} (hp : p < xs.length) (hq : q < xs.length) : xk (swp xs p q) i = if i = q then xk xs p else if i = p then xk xs q else xk xs i := by
  unfold swp
  rw [xk_put (by rw [List.length_set]; exact hq)]
  split
  · rfl
  · rw [xk_put hp]
theorem eqV_swap {S : cS} {row place other : Int32} (hS : lenOk S) : vEq (sp_swap S row place other) (mp_swap S row place other) := dAt_v (by decide) (fun r hr => dAt_v (by have := hS.lt hr; omega) (fun p hp => dAt_v (by have := hS.lt hr; omega) (fun q hq => vEq.of (by
  rw [swp_xk hp hq, swp_xk hp hq, if_pos (rfl : q = q)]
  by_cases e : p = q
  · subst e
    rw [if_pos rfl]
  · rw [if_neg e, if_pos rfl]
    by_cases f : xk (S.1 r) p = xk (S.1 r) q
    · rw [if_pos f.symm, if_pos f]
    · rw [if_neg (fun z => f z.symm), if_neg f]))))
theorem other_unl {xs ys : List mIt} (h : xs.length = ys.length) : mlp (unlF (xk xs) (xk ys)) (xs.length - 0) 0 (nI 0) = q_otherKeys xs ys := by
  unfold q_otherKeys
  rw [← h, Nat.min_self]
  refine mlp_congr (fun j b _ _ => ?_)
  unfold unlF
  by_cases e : xk xs j = xk ys j
  · rw [if_pos e, if_pos e]; exact Int32.add_zero b
  · rw [if_neg e, if_neg e]; rfl
theorem eqV_turn {S : cS} {row : Int32} : vEq (sp_turn S row) (mp_turn S row) := dAt_v (by decide) (fun r _ => vEq.of (by rw [turn_eq, other_unl rv_len.symm]))
theorem eqV_roll {S : cS} {row by_ : Int32} (hS : lenOk S) : vEq (sp_roll S row by_) (mp_roll S row by_) := dAt_v (by decide) (fun r hr => dArg_v (by have := hS.lt hr; omega) (fun b hb => vEq.of (by
  have hl : (S.1 r).length = (span (S.1 r) b (S.1 r).length ++ span (S.1 r) 0 b).length := by
    rw [List.length_append, span_len (Nat.le_refl _), span_len (by omega)]
    omega
  rw [roll_eq (by omega), other_unl hl])))
theorem eqV_sort {S : cS} {row : Int32} : vEq (sp_sort S row) (mp_sort S row) := dAt_v (by decide) (fun r _ => vEq.of (by
  rw [msort_scat]
  refine congrArg Value.int ?_
  unfold q_otherItems
  rw [msort_len, Nat.min_self]
  refine mlp_congr (fun j b _ _ => ?_)
  unfold srS
  by_cases e : xk (S.1 r) j = xk (msort (S.1 r)).1 j ∧ xt (S.1 r) j = xt (msort (S.1 r)).1 j
  · rw [if_pos e, if_pos e]; exact Int32.add_zero b
  · rw [if_neg e, if_neg e]; rfl))
theorem it_scat {xs : List mIt} {p : Nat} (hp : p < xs.length) : it (msort xs).1 p = it xs (scat xs p) := by rw [← msort_scat, it_chF hp]
theorem eqV_would {S : cS} {row place : Int32} (hS : lenOk S) : vEq (sp_would S row place) (mp_would S row place) := dAt_v (by decide) (fun r hr => dAt_v (by have := hS.lt hr; omega) (fun p hp => vEq.of (congrArg Value.int (congrArg Prod.fst (it_scat hp)).symm)))
theorem eqV_wouldStamp {S : cS} {row place : Int32} (hS : lenOk S) : vEq (sp_wouldStamp S row place) (mp_wouldStamp S row place) := dAt_v (by decide) (fun r hr => dAt_v (by have := hS.lt hr; omega) (fun p hp => vEq.of (congrArg Value.int (congrArg Prod.snd (it_scat hp)).symm)))
theorem wrong_0 {xs : List mIt} (hL : xs.length ≤ 320) : (mq_pairs xs (nI 1) = 0) ↔ q_isRising xs = true := by
  obtain ⟨m, m1, m2, m3⟩ := pairs_in (xs := xs) (how := nI 1) xs.length 0 0
  have e : mq_pairs xs (nI 1) = nI (0 + m) := m2
  have hb : xs.length * (0 + xs.length) ≤ 320 * 320 := by
    rw [Nat.zero_add]
    exact Nat.mul_le_mul hL hL
  rw [e, Nat.zero_add, mI_eq0 (by omega), m3, rising_iff]
  constructor
  · intro z i j h1 h2 h3
    exact z j i (Nat.zero_le _) (by omega) h1 (side_1.mpr h3)
  · intro z k o _ h2 h3 h4
    exact z o k h3 (by omega) (side_1.mp h4)
theorem mb_iff {a b : Bool} (h : a = true ↔ b = true) : Value.int (mb a) = Value.int (mb b) := by
  rw [Bool.eq_iff_iff.mpr h]
theorem lenOk.le {S : cS} (hS : lenOk S) {r : Nat} (hr : r < 4) : (S.1 r).length ≤ 320 := Nat.le_trans (hS r hr) rroom_le
theorem eqV_isSorted {S : cS} {row : Int32} (hS : lenOk S) : vEq (sp_isSorted S row) (mp_isSorted S row) := dAt_v (by decide) (fun r hr => vEq.of (mb_iff (by rw [decide_eq_true_iff]; exact wrong_0 (hS.le hr))))
theorem eqV_isKept {S : cS} {row : Int32} : vEq (sp_isKept S row) (mp_isKept S row) := dAt_v (by decide) (fun r _ => vEq.of (mb_iff (by
  unfold q_keepsStamps
  rw [mall_all, mall_all]
  constructor
  · intro h j j1 j2
    have h1 := h j j1 j2
    rw [decide_eq_true_iff] at h1 ⊢
    exact fun z => h1 ⟨z.1.symm, z.2⟩
  · intro h j j1 j2
    have h1 := h j j1 j2
    rw [decide_eq_true_iff] at h1 ⊢
    exact fun z => h1 ⟨z.1.symm, z.2⟩)))
theorem eqV_sum {S : cS} {row : Int32} : vEq (sp_sum S row) (mp_sum S row) := dAt_v (by decide) (fun r _ => vEq.of rfl)
theorem side_0 {x y : Int32} : sideF x y = nI 0 ↔ x = y := by
  unfold sideF
  by_cases h1 : x < y
  · rw [if_pos h1]
    exact ⟨fun z => absurd z (by decide), fun z => by rw [z, Int32.lt_iff_toInt_lt] at h1; omega⟩
  · rw [if_neg h1]
    by_cases h2 : x = y
    · rw [if_pos h2]; exact ⟨fun _ => h2, fun _ => rfl⟩
    · rw [if_neg h2]; exact ⟨fun z => absurd z (by decide), fun z => absurd z h2⟩
theorem side_m {x y : Int32} : sideF x y = -1 ↔ x < y := by
  unfold sideF
  by_cases h1 : x < y
  · rw [if_pos h1]; exact ⟨fun _ => h1, fun _ => rfl⟩
  · rw [if_neg h1]
    by_cases h2 : x = y
    · rw [if_pos h2]; exact ⟨fun z => absurd z (by decide), fun z => absurd z h1⟩
    · rw [if_neg h2]; exact ⟨fun z => absurd z (by decide), fun z => absurd z h1⟩
theorem eqV_count {S : cS} {row key : Int32} : vEq (sp_count S row key) (mp_count S row key) := dAt_v (by decide) (fun r _ => dFit_v (vEq.of (by
  refine congrArg Value.int ?_
  unfold mq_often q_itemsWith
  refine mlp_congr (fun j b _ _ => ?_)
  unfold ofS
  by_cases e : xk (S.1 r) j = key
  · rw [if_pos (side_0.mpr e), if_pos e]; rfl
  · rw [if_neg (fun z => e (side_0.mp z)), if_neg e]; exact Int32.add_zero b)))
theorem eqV_below {S : cS} {row key : Int32} : vEq (sp_below S row key) (mp_below S row key) := dAt_v (by decide) (fun r _ => dFit_v (vEq.of (by
  refine congrArg Value.int ?_
  unfold mq_often q_itemsBelow
  refine mlp_congr (fun j b _ _ => ?_)
  unfold ofS
  by_cases e : xk (S.1 r) j < key
  · rw [if_pos (side_m.mpr e), if_pos e]; rfl
  · rw [if_neg (fun z => e (side_m.mp z)), if_neg e]; exact Int32.add_zero b)))
theorem eqV_same {S : cS} {row other : Int32} : vEq (sp_same S row other) (mp_same S row other) := dAt_v (by decide) (fun r _ => dAt_v (by decide) (fun q _ => vEq.of (by
  by_cases e : (S.1 r).length = (S.1 q).length
  · rw [other_unl e]
  · rw [decide_eq_false e, Bool.false_and, Bool.false_and])))

/-! ===== pairs of a row, counted ===== -/
/-- the pairs i < j of a row with c of their keys -/
def pr (c : Int32 → Int32 → Bool) : List mIt → Nat
  | [] => 0
  | a :: l => l.countP (fun b => c a.1 b.1) + pr c l
/-- the pairs across two rows -/
def cr (c : Int32 → Int32 → Bool) (as bs : List mIt) : Nat := (as.map (fun a => bs.countP (fun b => c a.1 b.1))).sum
theorem cr_nil {c : Int32 → Int32 → Bool} {bs : List mIt} : cr c [] bs = 0 := rfl
theorem cr_cons {c : Int32 → Int32 → Bool} {a : mIt} {as bs : List mIt} : cr c (a :: as) bs = bs.countP (fun b => c a.1 b.1) + cr c as bs := by
  unfold cr
  rw [List.map_cons, List.sum_cons]
theorem cr_app {c : Int32 → Int32 → Bool} {as as' bs : List mIt} : cr c (as ++ as') bs = cr c as bs + cr c as' bs := by
  unfold cr
  rw [List.map_append, List.sum_append]
theorem cr_appR {c : Int32 → Int32 → Bool} : ∀ {as bs bs' : List mIt}, cr c as (bs ++ bs') = cr c as bs + cr c as bs'
  | [], _, _ => rfl
  | a :: as, bs, bs' => by
    rw [cr_cons, cr_cons, cr_cons, List.countP_append, cr_appR]
    omega
theorem pr_app {c : Int32 → Int32 → Bool} : ∀ {as bs : List mIt}, pr c (as ++ bs) = pr c as + pr c bs + cr c as bs
  | [], bs => by
    rw [List.nil_append, cr_nil]
    show pr c bs = 0 + pr c bs + 0
    omega
  | a :: as, bs => by
    show (as ++ bs).countP _ + pr c (as ++ bs) = (as.countP _ + pr c as) + pr c bs + _
    rw [List.countP_append, pr_app, cr_cons]
    omega
theorem cr_permL {c : Int32 → Int32 → Bool} {as as' bs : List mIt} (h : as.Perm as') : cr c as bs = cr c as' bs := by
  induction h with
  | nil => rfl
  | cons a _ ih => rw [cr_cons, cr_cons, ih]
  | swap a b l => rw [cr_cons, cr_cons, cr_cons, cr_cons]; omega
  | trans _ _ i1 i2 => exact i1.trans i2
theorem cr_permR {c : Int32 → Int32 → Bool} {bs bs' : List mIt} (h : bs.Perm bs') : ∀ {as : List mIt}, cr c as bs = cr c as bs'
  | [] => rfl
  | a :: as => by rw [cr_cons, cr_cons, h.countP_eq, cr_permR h]
theorem pr_congr {c d : Int32 → Int32 → Bool} (h : ∀ x y, c x y = d x y) (l : List mIt) : pr c l = pr d l := by
  rw [show c = d from funext fun x => funext fun y => h x y]
theorem pr_perm {c : Int32 → Int32 → Bool} (hc : ∀ x y, c x y = c y x) {l l' : List mIt} (h : l.Perm l') : pr c l = pr c l' := by
  induction h with
  | nil => rfl
  | cons a h1 ih =>
    show List.countP _ _ + _ = List.countP _ _ + _
    rw [h1.countP_eq, ih]
  | swap a b l =>
    show List.countP _ (a :: l) + (List.countP _ l + pr c l) = List.countP _ (b :: l) + (List.countP _ l + pr c l)
    rw [List.countP_cons, List.countP_cons, hc a.1 b.1]
    omega
  | trans _ _ i1 i2 => exact i1.trans i2
theorem pr_le {c : Int32 → Int32 → Bool} : ∀ {l : List mIt}, pr c l ≤ l.length * l.length
  | [] => Nat.zero_le _
  | a :: l => by
    have h1 : l.countP (fun b => c a.1 b.1) ≤ l.length := List.countP_le_length
    have h2 := @pr_le c l
    show l.countP _ + pr c l ≤ (l.length + 1) * (l.length + 1)
    rw [Nat.add_mul, Nat.mul_add, Nat.one_mul, Nat.mul_one]
    omega
theorem drop_it {xs : List mIt} {s : Nat} (h : s < xs.length) : xs.drop s = it xs s :: xs.drop (s + 1) := by
  rw [List.drop_eq_getElem_cons h, xk_get h]
  rfl
theorem take_it {xs : List mIt} {s : Nat} (h : s < xs.length) : xs.take (s + 1) = xs.take s ++ [it xs s] := by
  rw [List.take_succ_eq_append_getElem h, xk_get h]
  rfl
theorem range_it {xs : List mIt} : ∀ (d s : Nat), s + d = xs.length → (List.range' s d).map (it xs) = xs.drop s := by
  intro d
  induction d with
  | zero => intro s h; rw [List.drop_eq_nil_of_le (by omega)]; rfl
  | succ d ih => intro s h; rw [List.range'_succ, List.map_cons, ih (s + 1) (by omega), drop_it (s := s) (by omega)]
theorem take_range {xs : List mIt} {s : Nat} (h : s ≤ xs.length) : (List.range' 0 s).map (it xs) = xs.take s := by
  rw [← span_map h s 0 (Nat.zero_add s)]
  unfold span
  rw [List.drop_zero]
theorem mlp_nI {c : Nat → Prop} {dc : ∀ j, Decidable (c j)} : ∀ (d s a : Nat), mlp (fun j (acc : Int32) => if c j then acc + 1 else acc) d s (nI a) = nI (a + (List.range' s d).countP (fun j => decide (c j))) := by
  intro d
  induction d with
  | zero => intro s a; rfl
  | succ d ih =>
    intro s a
    rw [List.range'_succ, List.countP_cons]
    show mlp _ d (s + 1) (if c s then nI a + 1 else nI a) = _
    by_cases h : c s
    · rw [if_pos h, if_pos (by simpa using h), nI_1, ih]
      exact congrArg nI (by omega)
    · rw [if_neg h, if_neg (by simpa using h), ih]
      exact congrArg nI (by omega)
theorem mlp_nI2 {c : Nat → Prop} {dc : ∀ j, Decidable (c j)} (d s a : Nat) : mlp (fun j (acc : Int32) => acc + (if c j then nI 1 else nI 0)) d s (nI a) = nI (a + (List.range' s d).countP (fun j => decide (c j))) := by
  rw [← mlp_nI]
  refine mlp_congr (fun j b _ _ => ?_)
  by_cases h : c j
  · rw [if_pos h, if_pos h]; rfl
  · rw [if_neg h, if_neg h]; exact Int32.add_zero b
/-- the reference's count -/
theorem pairs_pr {xs : List mIt} {how : Int32} : mq_pairs xs how = nI (pr (fun x y => decide (sideF x y = how)) xs) := by
  have h : ∀ (d s : Nat), s + d = xs.length → mlp (fun k acc => mlp (prS xs how k) (k - 0) 0 acc) d s (nI (pr (fun x y => decide (sideF x y = how)) (xs.take s))) = nI (pr (fun x y => decide (sideF x y = how)) xs) := by
    intro d
    induction d with
    | zero => intro s h; rw [List.take_of_length_le (by omega)]; rfl
    | succ d ih =>
      intro s h
      rw [← ih (s + 1) (by omega)]
      show mlp _ d (s + 1) (mlp (prS xs how s) (s - 0) 0 (nI _)) = _
      refine congrArg (mlp _ d (s + 1)) ?_
      refine (mlp_nI2 (c := fun o => sideF (xk xs o) (xk xs s) = how) (s - 0) 0 _).trans ?_
      rw [take_it (by omega), pr_app, Nat.sub_zero, ← take_range (show s ≤ xs.length by omega)]
      refine congrArg nI ?_
      have e1 : cr (fun x y => decide (sideF x y = how)) ((List.range' 0 s).map (it xs)) [it xs s] = (List.range' 0 s).countP (fun j => decide (sideF (xk xs j) (xk xs s) = how)) := by
        generalize List.range' 0 s = l
        induction l with
        | nil => rfl
        | cons a l ih2 =>
          rw [List.map_cons, cr_cons, ih2, List.countP_singleton, List.countP_cons]
          exact Nat.add_comm _ _
      rw [e1]
      show _ = _ + (0 + 0) + _
      omega
  have h0 := h xs.length 0 (Nat.zero_add _)
  rw [List.take_zero] at h0
  exact h0
/-- the class's count, each with those behind it -/
theorem loops_pr {xs : List mIt} {c : Int32 → Int32 → Prop} {dc : ∀ x y, Decidable (c x y)} : mlp (fun i acc => mlp (fun j (acc : Int32) => if c (xk xs i) (xk xs j) then acc + 1 else acc) (xs.length - (i + 1)) (i + 1) acc) (xs.length - 0) 0 (nI 0) = nI (pr (fun x y => decide (c x y)) xs) := by
  have h : ∀ (d s a : Nat), s + d = xs.length → mlp (fun i acc => mlp (fun j (acc : Int32) => if c (xk xs i) (xk xs j) then acc + 1 else acc) (xs.length - (i + 1)) (i + 1) acc) d s (nI a) = nI (a + pr (fun x y => decide (c x y)) (xs.drop s)) := by
    intro d
    induction d with
    | zero => intro s a h; rw [List.drop_eq_nil_of_le (by omega)]; rfl
    | succ d ih =>
      intro s a h
      show mlp _ d (s + 1) (mlp (fun j (acc : Int32) => if c (xk xs s) (xk xs j) then acc + 1 else acc) (xs.length - (s + 1)) (s + 1) (nI a)) = _
      rw [mlp_nI (c := fun j => c (xk xs s) (xk xs j)), ih (s + 1) _ (by omega), drop_it (s := s) (by omega)]
      refine congrArg nI ?_
      show _ = a + (List.countP _ (xs.drop (s + 1)) + pr _ (xs.drop (s + 1)))
      rw [← range_it (xs.length - (s + 1)) (s + 1) (by omega), List.countP_map]
      rw [range_it (xs.length - (s + 1)) (s + 1) (by omega)]
      exact Nat.add_assoc _ _ _
  have h0 := h (xs.length - 0) 0 0 (by omega)
  rw [h0, Nat.zero_add, List.drop_zero]
def cW (x y : Int32) : Bool := decide (y < x)
theorem wrong_pr {xs : List mIt} : mq_pairs xs (nI 1) = nI (pr cW xs) := by
  rw [pairs_pr, pr_congr (fun x y => show decide (sideF x y = nI 1) = cW x y from by unfold cW; exact decide_eq_decide.mpr side_1)]
theorem wrongQ_pr {xs : List mIt} : q_wrongPairs xs = nI (pr cW xs) := loops_pr (c := fun x y => y < x) (dc := fun _ _ => inferInstance)
theorem right_eq {xs : List mIt} : mq_pairs xs (-1) = q_rightPairs xs := by
  rw [pairs_pr]
  refine Eq.trans ?_ (loops_pr (xs := xs) (c := fun x y => x < y) (dc := fun _ _ => inferInstance)).symm
  exact congrArg nI (pr_congr (fun x y => decide_eq_decide.mpr side_m) xs)
theorem eqV_right {S : cS} {row : Int32} : vEq (sp_right S row) (mp_right S row) := dAt_v (by decide) (fun r _ => vEq.of (congrArg Value.int right_eq))
/-! what merging counts -/
def kSorted (l : List mIt) : Prop := l.Pairwise (fun a b => ¬ b.1 < a.1)
theorem kSorted.zero {l : List mIt} (h : kSorted l) : pr cW l = 0 := by
  induction l with
  | nil => rfl
  | cons a l ih =>
    obtain ⟨h1, h2⟩ := List.pairwise_cons.mp h
    show List.countP _ l + pr cW l = 0
    rw [ih h2, List.countP_eq_zero.mpr (fun b hb => by
      have := h1 b hb
      unfold cW
      simpa using this)]
theorem Bk.sorted {xs zs : List mIt} {s e : Nat} (h : Bk xs s e zs) : kSorted zs := by
  obtain ⟨B, rfl, hp, -⟩ := h
  unfold kSorted
  rw [List.pairwise_map]
  refine hp.imp (fun {a b} hab => ?_)
  rw [rl_iff] at hab
  show ¬ xk xs b < xk xs a
  rw [Int32.lt_iff_toInt_lt]
  omega
theorem winv_cr : ∀ {as bs : List mIt}, kSorted as → kSorted bs → winv as bs = nI (cr cW as bs)
  | [], bs, _, _ => by rw [show winv [] bs = 0 from by cases bs <;> simp [winv], cr_nil]; rfl
  | a :: as, [], _, _ => by
    rw [winv_nil]
    have : cr cW (a :: as) [] = 0 := by
      rw [cr_cons]
      show 0 + _ = 0
      have h : ∀ l : List mIt, cr cW l [] = 0 := fun l => by
        induction l with
        | nil => rfl
        | cons x l ih => rw [cr_cons, ih]; rfl
      rw [h as]
    rw [this]
    rfl
  | a :: as, b :: bs, ha, hb => by
    obtain ⟨a1, a2⟩ := List.pairwise_cons.mp ha
    obtain ⟨b1, b2⟩ := List.pairwise_cons.mp hb
    by_cases h : b.1 < a.1
    · rw [winv_r h, winv_cr ha b2, nI_add]
      refine congrArg nI ?_
      have e1 : cr cW (a :: as) (b :: bs) = cr cW (a :: as) [b] + cr cW (a :: as) bs := cr_appR (bs := [b])
      have e2 : ∀ l : List mIt, (∀ x ∈ l, b.1 < x.1) → cr cW l [b] = l.length := by
        intro l
        induction l with
        | nil => intro _; rfl
        | cons x l ih =>
          intro hx
          rw [cr_cons, ih (fun y hy => hx y (List.mem_cons_of_mem _ hy)), List.countP_singleton, if_pos (show cW x.1 b.1 = true from decide_eq_true (hx x List.mem_cons_self))]
          exact Nat.add_comm _ _
      rw [e1, e2 (a :: as) (fun x hx => by
        rcases List.mem_cons.mp hx with rfl | hx
        · exact h
        · have h3 := a1 x hx
          rw [Int32.lt_iff_toInt_lt] at h h3 ⊢
          omega)]
      rfl
    · rw [winv_l h, winv_cr a2 hb, cr_cons]
      refine congrArg nI ?_
      rw [List.countP_eq_zero.mpr (fun y hy => ?_), Nat.zero_add]
      have h4 : ¬ y.1 < a.1 := by
        rcases List.mem_cons.mp hy with rfl | hy
        · exact h
        · have h3 := b1 y hy
          rw [Int32.lt_iff_toInt_lt] at h h3 ⊢
          omega
      show ¬ cW a.1 y.1 = true
      unfold cW
      simpa using h4
theorem span_split {xs : List mIt} {s m e : Nat} (h1 : s ≤ m) (h2 : m ≤ e) (he : e ≤ xs.length) : span xs s e = span xs s m ++ span xs m e := by
  rw [span_map he (e - s) s (by omega), span_map (Nat.le_trans h2 he) (m - s) s (by omega), span_map he (e - m) m (by omega), ← List.map_append]
  refine congrArg (List.map (it xs)) ?_
  have h6 := List.range'_append_1 (s := s) (m := m - s) (n := e - m)
  rw [show s + (m - s) = m by omega, show m - s + (e - m) = e - s by omega] at h6
  exact h6.symm
theorem mpass_pr {ys : List mIt} {wd : Nat} (hw : 0 < wd) (hb : ∀ s, s < ys.length → wd ∣ s → kSorted (span ys s (min (s + wd) ys.length))) : ∀ (d s a : Nat) (p : List mIt × Int32), ys.length ≤ s + d → 2 * wd ∣ s → p.2 = nI a → ∃ a', (mpass ys wd d s p).2 = nI a' ∧ a' + pr cW (mpass ys wd d s p).1 = a + pr cW (p.1 ++ span ys (min s ys.length) ys.length) := by
  intro d
  induction d with
  | zero =>
    intro s a p h _ hp
    refine ⟨a, hp, ?_⟩
    rw [show min s ys.length = ys.length by omega]
    unfold span
    rw [List.drop_eq_nil_of_le (by rw [List.length_take]; omega), List.append_nil]
    rfl
  | succ d ih =>
    intro s a p h hd hp
    by_cases hs : s < ys.length
    · rw [mpass, if_pos hs]
      have d1 : wd ∣ s := Nat.dvd_trans ⟨2, Nat.mul_comm 2 wd⟩ hd
      have k1 := hb s hs d1
      have k2 : kSorted (span ys (min (s + wd) ys.length) (min (s + 2 * wd) ys.length)) := by
        by_cases e : s + wd < ys.length
        · have := hb (s + wd) e (Nat.dvd_add d1 (Nat.dvd_refl _))
          rw [Nat.min_eq_left (show s + wd ≤ ys.length by omega), show s + 2 * wd = s + wd + wd by omega]
          exact this
        · rw [Nat.min_eq_right (by omega), Nat.min_eq_right (by omega)]
          unfold span
          rw [List.drop_eq_nil_of_le (by rw [List.length_take]; omega)]
          exact List.Pairwise.nil
      have hwi := winv_cr k1 k2
      obtain ⟨a', r1, r2⟩ := ih (s + 2 * wd) (a + cr cW (span ys s (min (s + wd) ys.length)) (span ys (min (s + wd) ys.length) (min (s + 2 * wd) ys.length))) (p.1 ++ List.merge (span ys s (min (s + wd) ys.length)) (span ys (min (s + wd) ys.length) (min (s + 2 * wd) ys.length)) wle, p.2 + winv (span ys s (min (s + wd) ys.length)) (span ys (min (s + wd) ys.length) (min (s + 2 * wd) ys.length))) (by omega) (Nat.dvd_add hd (Nat.dvd_refl _)) (by rw [hp, hwi, nI_add])
      refine ⟨a', r1, r2.trans ?_⟩
      have e0 : span ys (min s ys.length) ys.length = span ys s (min (s + wd) ys.length) ++ (span ys (min (s + wd) ys.length) (min (s + 2 * wd) ys.length) ++ span ys (min (s + 2 * wd) ys.length) ys.length) := by
        rw [Nat.min_eq_left (Nat.le_of_lt hs), ← span_split (by omega) (by omega) (Nat.le_refl _), ← span_split (by omega) (by omega) (Nat.le_refl _)]
      rw [e0]
      generalize span ys s (min (s + wd) ys.length) = A at *
      generalize span ys (min (s + wd) ys.length) (min (s + 2 * wd) ys.length) = B at *
      generalize span ys (min (s + 2 * wd) ys.length) ys.length = T
      have pm : (List.merge A B wle).Perm (A ++ B) := List.merge_perm_append wle
      have sm : kSorted (List.merge A B wle) := by
        unfold kSorted at k1 k2 ⊢
        have t1 : ∀ a b c : mIt, wle a b = true → wle b c = true → wle a c = true := by
          intro a b c
          unfold wle
          rw [Bool.not_eq_true', Bool.not_eq_true', Bool.not_eq_true', decide_eq_false_iff_not, decide_eq_false_iff_not, decide_eq_false_iff_not, Int32.lt_iff_toInt_lt, Int32.lt_iff_toInt_lt, Int32.lt_iff_toInt_lt]
          omega
        have t2 : ∀ a b : mIt, (wle a b || wle b a) = true := by
          intro a b
          unfold wle
          rw [Bool.or_eq_true, Bool.not_eq_true', Bool.not_eq_true', decide_eq_false_iff_not, decide_eq_false_iff_not, Int32.lt_iff_toInt_lt, Int32.lt_iff_toInt_lt]
          omega
        have cv : ∀ a b : mIt, (¬ b.1 < a.1) ↔ wle a b = true := by
          intro a b
          unfold wle
          rw [Bool.not_eq_true', decide_eq_false_iff_not]
        exact (List.pairwise_merge t1 t2 A B (k1.imp (fun {a b} q => (cv a b).mp q)) (k2.imp (fun {a b} q => (cv a b).mp q))).imp (fun {a b} q => (cv a b).mpr q)
      dsimp only
      rw [pr_app, pr_app, pr_app, pr_app, pr_app, cr_app, cr_appR, cr_appR, cr_appR, sm.zero, k1.zero, k2.zero, cr_permL pm, cr_permR pm, cr_app, cr_appR]
      omega
    · rw [mpass, if_neg hs]
      refine ⟨a, hp, ?_⟩
      rw [show min s ys.length = ys.length by omega]
      unfold span
      rw [List.drop_eq_nil_of_le (by rw [List.length_take]; omega), List.append_nil]
theorem msrt_pr {xs : List mIt} : ∀ (d wd a : Nat) (p : List mIt × Int32), 0 < wd → xs.length ≤ wd + d → Blk xs wd p.1 → p.2 = nI a → (msrt d wd p).2 = nI (a + pr cW p.1) := by
  intro d
  induction d with
  | zero =>
    intro wd a p hw h hb hp
    show p.2 = _
    rw [(hb.all (by omega)).sorted.zero, hp, Nat.add_zero]
  | succ d ih =>
    intro wd a p hw h hb hp
    rw [msrt]
    by_cases q : wd < p.1.length
    · rw [if_pos q]
      obtain ⟨a', r1, r2⟩ := mpass_pr (ys := p.1) hw (fun s hs hd => by
        have := hb.2 s (by have := hb.1; omega) hd
        rw [← hb.1] at this
        exact this.sorted) p.1.length 0 0 ([], nI 0) (by omega) ⟨0, rfl⟩ rfl
      rw [Nat.zero_min, span_all, List.nil_append, Nat.zero_add] at r2
      refine (ih (wd * 2) (a + a') ((mround p.1 wd).1, p.2 + (mround p.1 wd).2) (by omega) (by omega) (hb.round hw) ?_).trans ?_
      · show p.2 + (mround p.1 wd).2 = _
        rw [hp, show (mround p.1 wd).2 = nI a' from r1, nI_add]
      · refine congrArg nI ?_
        rw [← r2]
        show a + a' + pr cW (mround p.1 wd).1 = a + (a' + pr cW (mround p.1 wd).1)
        omega
    · rw [if_neg q]
      show p.2 = _
      rw [(hb.all (by have := hb.1; omega)).sorted.zero, hp, Nat.add_zero]
theorem blk_1 {xs : List mIt} : Blk xs 1 xs := by
  refine ⟨rfl, fun s hs _ => ?_⟩
  rw [Nat.min_eq_left (by omega)]
  rw [span_map (by omega) 1 s rfl]
  exact ⟨[s], rfl, List.pairwise_singleton _ _, by rw [show s + 1 - s = 1 by omega]; exact List.Perm.refl _⟩
/-- what sorting tells: the pairs that stood wrong -/
theorem msort_wrong {xs : List mIt} : (msort xs).2 = mq_pairs xs (nI 1) := by
  rw [wrong_pr]
  refine (msrt_pr (xs := xs) xs.length 1 0 (xs, nI 0) (by decide) (by omega) blk_1 rfl).trans ?_
  rw [Nat.zero_add]
theorem inN_2 {x : Int32} : inN 2 x = if x = 0 then some 0 else if x = 1 then some 1 else none := by
  unfold inN
  by_cases h0 : x < 0
  · rw [if_pos (Or.inl h0), if_neg (fun z => by rw [z] at h0; exact absurd h0 (by decide)), if_neg (fun z => by rw [z] at h0; exact absurd h0 (by decide))]
  · obtain ⟨j, hj, rfl⟩ := nI_of h0
    by_cases h1 : j < 2
    · rw [if_neg (fun z => z.elim h0 (fun w => w (nI_lt h1 (by decide)))), nI_clamp hj]
      obtain rfl | rfl : j = 0 ∨ j = 1 := by omega
      · rfl
      · rfl
    · rw [if_pos (Or.inr (fun w => h1 ((nI_ltI hj (by decide)).mp w))), if_neg (fun z => h1 (by have := (mI_eq0 hj).mp z; omega)), if_neg (fun z => h1 (by have := (nI_eq hj (show 1 < 2 ^ 31 by decide)).mp z; omega))]
theorem eqV_wrong {S : cS} {row how : Int32} : vEq (sp_wrong S row how) (mp_wrong S row how) := dAt_v (by decide) (fun r _ => by
  by_cases h0 : how = 0
  · rw [if_pos h0]
    subst h0
    rw [show dArg S 2 (0 : Int32) (fun _ => (0, Value.int (mq_pairs (S.1 r) (nI 1)), S)) = (0, Value.int (mq_pairs (S.1 r) (nI 1)), S) from dArg_s (k := 2) (j := 0) (by decide) (by decide)]
    exact vEq.of (by rw [msort_wrong])
  · rw [if_neg h0]
    by_cases h1 : how = 1
    · rw [if_pos h1]
      subst h1
      rw [show dArg S 2 (1 : Int32) (fun _ => (0, Value.int (mq_pairs (S.1 r) (nI 1)), S)) = (0, Value.int (mq_pairs (S.1 r) (nI 1)), S) from dArg_s (k := 2) (j := 1) (by decide) (by decide)]
      exact vEq.of (by rw [wrongQ_pr, wrong_pr])
    · rw [if_neg h1, dArg_n (show inN 2 how = none by rw [inN_2, if_neg h0, if_neg h1])]
      exact vEq.rf)
theorem wronger_side {xs : List mIt} {p : Nat} : sideF (xk xs (p + 1)) (xk xs p) = q_wrongerByExchange xs p := by
  unfold sideF q_wrongerByExchange
  by_cases h1 : xk xs p = xk xs (p + 1)
  · rw [if_pos h1, if_neg (fun z => by rw [h1, Int32.lt_iff_toInt_lt] at z; omega), if_pos h1.symm]
  · rw [if_neg h1]
    by_cases h2 : xk xs p < xk xs (p + 1)
    · rw [if_pos h2, if_neg (fun z => by rw [Int32.lt_iff_toInt_lt] at z h2; omega), if_neg (fun z => h1 z.symm)]
    · rw [if_neg h2, if_pos (by rw [Int32.lt_iff_toInt_lt] at h2 ⊢; rw [← Int32.toInt_inj] at h1; omega)]
theorem eqV_after {S : cS} {row place : Int32} (hS : lenOk S) : vEq (sp_after S row place) (mp_after S row place) := dAt_v (by decide) (fun r hr => dAt_v (by have := hS.lt hr; omega) (fun p _ => vEq.of (by rw [msort_wrong, wronger_side])))
/-! two neighbours exchanged -/
theorem swp_split {xs : List mIt} {p : Nat} (hp : p + 1 < xs.length) : xs = xs.take p ++ (it xs p :: it xs (p + 1) :: xs.drop (p + 2)) ∧ swp xs p (p + 1) = xs.take p ++ (it xs (p + 1) :: it xs p :: xs.drop (p + 2)) := by
  have e1 : xs = xs.take p ++ (it xs p :: it xs (p + 1) :: xs.drop (p + 2)) := by
    rw [← drop_it hp, ← drop_it (by omega), List.take_append_drop]
  refine ⟨e1, ?_⟩
  have hl : (xs.take p).length = p := by rw [List.length_take]; omega
  refine xs_ext (by rw [swp_len, List.length_append, List.length_cons, List.length_cons, List.length_drop, hl]; omega) (fun i hi => ?_)
  rw [swp_len] at hi
  have hsw : it (swp xs p (p + 1)) i = if i = p + 1 then it xs p else if i = p then it xs (p + 1) else it xs i := by
    unfold it swp
    rw [xk_put (by rw [List.length_set]; exact hp), xt_put (by rw [List.length_set]; exact hp)]
    split
    · rfl
    · rw [xk_put (by omega), xt_put (by omega)]
      split
      · rfl
      · rfl
  rw [hsw]
  by_cases h1 : i < p
  · rw [if_neg (by omega), if_neg (by omega), it_app_lt (by omega)]
    conv => lhs; rw [e1]
    rw [it_app_lt (by omega)]
  · rw [it_app_ge (by omega), hl]
    by_cases h2 : i = p
    · subst h2
      rw [if_neg (by omega), if_pos rfl, Nat.sub_self]
      rfl
    · by_cases h3 : i = p + 1
      · subst h3
        rw [if_pos rfl, show p + 1 - p = 1 by omega]
        rfl
      · rw [if_neg h3, if_neg h2]
        conv => lhs; rw [e1]
        rw [it_app_ge (by omega), hl, show i - p = (i - p - 2) + 1 + 1 by omega]
        rfl
theorem exch_eq {xs : List mIt} {p : Nat} (hp : p + 1 < xs.length) : mq_pairs (swp xs p (p + 1)) (nI 1) - mq_pairs xs (nI 1) = q_wrongerByExchange xs p := by
  obtain ⟨e1, e2⟩ := swp_split hp
  rw [wrong_pr, wrong_pr, e2]
  have hx : pr cW xs = pr cW (xs.take p ++ (it xs p :: it xs (p + 1) :: xs.drop (p + 2))) := congrArg (pr cW) e1
  rw [hx]
  have hpm : cr cW (xs.take p) (it xs (p + 1) :: it xs p :: xs.drop (p + 2)) = cr cW (xs.take p) (it xs p :: it xs (p + 1) :: xs.drop (p + 2)) := cr_permR (List.Perm.swap _ _ _)
  rw [pr_app, pr_app, hpm]
  have f1 : pr cW (it xs (p + 1) :: it xs p :: xs.drop (p + 2)) = ((if cW (xk xs (p + 1)) (xk xs p) = true then 1 else 0) + (xs.drop (p + 2)).countP (fun b => cW (xk xs (p + 1)) b.1)) + ((xs.drop (p + 2)).countP (fun b => cW (xk xs p) b.1) + pr cW (xs.drop (p + 2))) := by
    show List.countP _ (it xs p :: xs.drop (p + 2)) + (_ + _) = _
    rw [List.countP_cons]
    show List.countP (fun b => cW (xk xs (p + 1)) b.1) (xs.drop (p + 2)) + (if cW (xk xs (p + 1)) (xk xs p) = true then 1 else 0) + (List.countP (fun b => cW (xk xs p) b.1) (xs.drop (p + 2)) + pr cW (xs.drop (p + 2))) = _
    omega
  have f2 : pr cW (it xs p :: it xs (p + 1) :: xs.drop (p + 2)) = ((if cW (xk xs p) (xk xs (p + 1)) = true then 1 else 0) + (xs.drop (p + 2)).countP (fun b => cW (xk xs p) b.1)) + ((xs.drop (p + 2)).countP (fun b => cW (xk xs (p + 1)) b.1) + pr cW (xs.drop (p + 2))) := by
    show List.countP _ (it xs (p + 1) :: xs.drop (p + 2)) + (_ + _) = _
    rw [List.countP_cons]
    show List.countP (fun b => cW (xk xs p) b.1) (xs.drop (p + 2)) + (if cW (xk xs p) (xk xs (p + 1)) = true then 1 else 0) + (List.countP (fun b => cW (xk xs (p + 1)) b.1) (xs.drop (p + 2)) + pr cW (xs.drop (p + 2))) = _
    omega
  rw [f1, f2]
  generalize (xs.drop (p + 2)).countP (fun b => cW (xk xs p) b.1) = u
  generalize (xs.drop (p + 2)).countP (fun b => cW (xk xs (p + 1)) b.1) = v
  generalize pr cW (xs.drop (p + 2)) = w
  generalize pr cW (xs.take p) = t
  generalize cr cW (xs.take p) (it xs p :: it xs (p + 1) :: xs.drop (p + 2)) = z
  unfold q_wrongerByExchange cW
  by_cases h1 : xk xs p = xk xs (p + 1)
  · rw [if_pos h1, if_neg (by simp only [decide_eq_true_eq]; rw [h1, Int32.lt_iff_toInt_lt]; omega), if_neg (by simp only [decide_eq_true_eq]; rw [h1, Int32.lt_iff_toInt_lt]; omega), show t + (0 + v + (u + w)) + z = t + (0 + u + (v + w)) + z by omega, Int32.sub_self]
    rfl
  · rw [if_neg h1]
    by_cases h2 : xk xs p < xk xs (p + 1)
    · rw [if_pos h2, if_pos (by simpa using h2), if_neg (by simp only [decide_eq_true_eq]; rw [Int32.lt_iff_toInt_lt] at h2 ⊢; omega), show t + (1 + v + (u + w)) + z = (t + (0 + u + (v + w)) + z) + 1 by omega, ← nI_1, Int32.add_comm, Int32.add_sub_cancel]
      rfl
    · have h3 : xk xs (p + 1) < xk xs p := by rw [Int32.lt_iff_toInt_lt] at h2 ⊢; rw [← Int32.toInt_inj] at h1; omega
      rw [if_neg h2, if_neg (by simpa using h2), if_pos (by simpa using h3), show t + (1 + u + (v + w)) + z = (t + (0 + v + (u + w)) + z) + 1 by omega]
      generalize t + (0 + v + (u + w)) + z = q
      rw [← nI_1, Int32.sub_eq_add_neg, Int32.neg_add, Int32.sub_eq_add_neg, ← Int32.add_assoc, Int32.add_right_neg, Int32.zero_add]
theorem eqV_exchange {S : cS} {row place : Int32} (hS : lenOk S) : vEq (sp_exchange S row place) (mp_exchange S row place) := dAt_v (by decide) (fun r hr => dAt_v (by have := hS.lt hr; omega) (fun p hp => vEq.of (congrArg Value.int (exch_eq (by omega)))))
/-! wrong pairs with one item -/
theorem mlp_app {α : Type} {f : Nat → α → α} : ∀ (d e s : Nat) (a : α), mlp f (d + e) s a = mlp f e (s + d) (mlp f d s a) := by
  intro d
  induction d with
  | zero => intro e s a; rw [Nat.zero_add]; rfl
  | succ d ih =>
    intro e s a
    rw [show d + 1 + e = (d + e) + 1 by omega]
    show mlp f (d + e) (s + 1) (f s a) = _
    rw [ih, show s + 1 + d = s + (d + 1) by omega]
    rfl
theorem wrongAt_eq {xs : List mIt} {p : Nat} (hp : p < xs.length) : mlp (wAt xs p) (xs.length - 0) 0 (nI 0) = q_wrongPairsWith xs p := by
  unfold q_wrongPairsWith
  rw [show xs.length - 0 = p + (1 + (xs.length - (p + 1))) by omega, mlp_app, mlp_app, Nat.zero_add]
  have h1 : mlp (wAt xs p) p 0 (nI 0) = mlp (fun j acc => if xk xs p < xk xs j then acc + 1 else acc) (p - 0) 0 (nI 0) := by
    rw [Nat.sub_zero]
    refine mlp_congr (fun j b _ h => ?_)
    unfold wAt
    by_cases e : xk xs p < xk xs j
    · rw [if_pos (Or.inl ⟨by omega, e⟩), if_pos e]; rfl
    · rw [if_neg (by rintro (⟨-, z⟩ | ⟨z, -⟩); exact e z; omega), if_neg e]; exact Int32.add_zero b
  have h2 : ∀ a : Int32, mlp (wAt xs p) 1 p a = a := fun a => by
    show wAt xs p p a = a
    unfold wAt
    rw [if_neg (by rintro (⟨z, -⟩ | ⟨z, -⟩) <;> omega)]
    exact Int32.add_zero a
  rw [h1, h2]
  refine mlp_congr (fun j b h _ => ?_)
  unfold wAt
  by_cases e : xk xs j < xk xs p
  · rw [if_pos (Or.inr ⟨by omega, e⟩), if_pos e]; rfl
  · rw [if_neg (by rintro (⟨z, -⟩ | ⟨-, z⟩); omega; exact e z), if_neg e]; exact Int32.add_zero b
theorem eqV_wrongAt {S : cS} {row place : Int32} (hS : lenOk S) : vEq (sp_wrongAt S row place) (mp_wrongAt S row place) := dAt_v (by decide) (fun r hr => dAt_v (by have := hS.lt hr; omega) (fun p hp => vEq.of (congrArg Value.int (wrongAt_eq hp))))
/-! falling throughout -/
theorem pr_zero {c : Int32 → Int32 → Bool} {xs : List mIt} : pr c xs = 0 ↔ xs.Pairwise (fun a b => c a.1 b.1 = false) := by
  induction xs with
  | nil => exact ⟨fun _ => List.Pairwise.nil, fun _ => rfl⟩
  | cons a l ih =>
    rw [List.pairwise_cons, ← ih]
    show List.countP _ l + pr c l = 0 ↔ _
    rw [Nat.add_eq_zero_iff, List.countP_eq_zero]
    constructor
    · rintro ⟨h1, h2⟩
      exact ⟨fun b hb => by have := h1 b hb; simpa using this, h2⟩
    · rintro ⟨h1, h2⟩
      exact ⟨fun b hb => by rw [h1 b hb]; decide, h2⟩
theorem pairwise_it {xs : List mIt} {R : mIt → mIt → Prop} : xs.Pairwise R ↔ ∀ i j, i < j → j < xs.length → R (it xs i) (it xs j) := by
  rw [List.pairwise_iff_getElem]
  constructor
  · intro h i j hij hj
    have := h i j (by omega) hj hij
    rw [xk_get (by omega), xk_get hj] at this
    exact this
  · intro h i j hi hj hij
    rw [xk_get hi, xk_get hj]
    exact h i j hij hj
theorem falls_iff {xs : List mIt} : q_fallsThroughout xs = true ↔ ∀ i j, i < j → j < xs.length → xk xs j < xk xs i := by
  unfold q_fallsThroughout
  rw [mall_all]
  constructor
  · intro h i j hij
    induction j with
    | zero => omega
    | succ j ih =>
      intro hj
      have h1 := h (j + 1) (by omega) (by omega)
      rw [decide_eq_true_iff, Nat.add_sub_cancel, Int32.lt_iff_toInt_lt] at h1
      by_cases e : i = j
      · subst e; rw [Int32.lt_iff_toInt_lt]; exact h1
      · have h2 := ih (by omega) (by omega)
        rw [Int32.lt_iff_toInt_lt] at h2 ⊢
        omega
  · intro h j j1 j2
    rw [decide_eq_true_iff]
    exact h (j - 1) j (by omega) (by omega)
theorem eqV_isFalling {S : cS} {row : Int32} (hS : lenOk S) : vEq (sp_isFalling S row) (mp_isFalling S row) := dAt_v (by decide) (fun r hr => vEq.of (mb_iff (by
  have hL := hS.le hr
  generalize S.1 r = xs at hL
  have hb : xs.length * xs.length ≤ 320 * 320 := Nat.mul_le_mul hL hL
  rw [decide_eq_true_iff, pairs_pr, pairs_pr, nI_add]
  have b1 := @pr_le (fun x y => decide (sideF x y = nI 0)) xs
  have b2 := @pr_le (fun x y => decide (sideF x y = -1)) xs
  rw [mI_eq0 (by omega), Nat.add_eq_zero_iff, pr_zero, pr_zero, pairwise_it, pairwise_it, falls_iff]
  constructor
  · rintro ⟨h1, h2⟩ i j hij hj
    have e1 := h1 i j hij hj
    have e2 := h2 i j hij hj
    rw [decide_eq_false_iff_not, side_0] at e1
    rw [decide_eq_false_iff_not, side_m] at e2
    show xk xs j < xk xs i
    have e3 : ¬ xk xs i = xk xs j := e1
    have e4 : ¬ xk xs i < xk xs j := e2
    rw [Int32.lt_iff_toInt_lt] at e4 ⊢
    rw [← Int32.toInt_inj] at e3
    omega
  · intro h
    refine ⟨fun i j hij hj => ?_, fun i j hij hj => ?_⟩
    · have e := h i j hij hj
      rw [decide_eq_false_iff_not, side_0]
      show ¬ xk xs i = xk xs j
      intro z
      rw [z, Int32.lt_iff_toInt_lt] at e
      omega
    · have e := h i j hij hj
      rw [decide_eq_false_iff_not, side_m]
      show ¬ xk xs i < xk xs j
      rw [Int32.lt_iff_toInt_lt] at e ⊢
      omega)))

/-! ===== further answers alike ===== -/
def cT (x y : Int32) : Bool := decide (x = y)
theorem cr_one {c : Int32 → Int32 → Bool} {x : mIt} : ∀ {as : List mIt}, cr c as [x] = as.countP (fun a => c a.1 x.1)
  | [] => rfl
  | a :: as => by
    rw [cr_cons, cr_one, List.countP_singleton, List.countP_cons]
    omega
theorem pr_snoc {c : Int32 → Int32 → Bool} {l : List mIt} {x : mIt} : pr c (l ++ [x]) = pr c l + l.countP (fun a => c a.1 x.1) := by
  rw [pr_app, cr_one]
  show _ + (0 + 0) + _ = _
  omega
theorem msort_perm {xs : List mIt} : (msort xs).1.Perm xs := by
  obtain ⟨B, e, -, q⟩ := @msort_bk xs
  rw [e]
  have h := q.map (it xs)
  rw [Nat.sub_zero, take_range (Nat.le_refl _), List.take_length] at h
  exact h
theorem ties_go {ys : List mIt} (hs : kSorted ys) : ∀ (d s a b : Nat), 1 ≤ s → s + d = ys.length → a = pr cT (ys.take s) → b = (ys.take (s - 1)).countP (fun z => cT z.1 (xk ys (s - 1))) → (mlp (fun i (p : Int32 × Int32) => let al := if xk ys i = xk ys (i - 1) then p.2 + 1 else 0; (p.1 + al, al)) d s (nI a, nI b)).1 = nI (pr cT ys) := by
  intro d
  induction d with
  | zero =>
    intro s a b _ h ha _
    rw [ha, List.take_of_length_le (by omega)]
    rfl
  | succ d ih =>
    intro s a b h1 h ha hb
    obtain ⟨s, rfl⟩ : ∃ t, s = t + 1 := ⟨s - 1, by omega⟩
    rw [Nat.add_sub_cancel] at hb
    have ho := pairwise_it.mp hs
    have ht : ys.take (s + 1) = ys.take s ++ [it ys s] := take_it (by omega)
    have key : (if xk ys (s + 1) = xk ys s then nI b + 1 else 0) = nI ((ys.take (s + 1)).countP (fun z => cT z.1 (xk ys (s + 1)))) := by
      rw [ht, List.countP_append, List.countP_singleton]
      by_cases e : xk ys (s + 1) = xk ys s
      · rw [if_pos e, e, if_pos (show cT (it ys s).1 (xk ys s) = true from decide_eq_true rfl), ← hb, nI_1]
      · rw [if_neg e, if_neg (show ¬ cT (it ys s).1 (xk ys (s + 1)) = true from fun z => e (of_decide_eq_true z).symm), List.countP_eq_zero.mpr (fun z hz => ?_)]
        · rfl
        · obtain ⟨j, hj, rfl⟩ := List.getElem_of_mem hz
          rw [List.length_take] at hj
          rw [List.getElem_take, xk_get (by omega)]
          intro w
          have w2 : xk ys j = xk ys (s + 1) := of_decide_eq_true w
          have o1 : ¬ xk ys s < xk ys j := ho j s (by omega) (by omega)
          have o2 : ¬ xk ys (s + 1) < xk ys s := ho s (s + 1) (by omega) (by omega)
          rw [Int32.lt_iff_toInt_lt] at o1 o2
          rw [← Int32.toInt_inj] at e w2
          omega
    show (mlp _ d (s + 1 + 1) (nI a + (if xk ys (s + 1) = xk ys (s + 1 - 1) then nI b + 1 else 0), (if xk ys (s + 1) = xk ys (s + 1 - 1) then nI b + 1 else 0))).1 = _
    rw [Nat.add_sub_cancel, key, nI_add]
    refine ih (s + 1 + 1) _ _ (by omega) (by omega) ?_ (by rw [Nat.add_sub_cancel])
    rw [take_it (show s + 1 < ys.length by omega), pr_snoc, ← ha]
    rfl
theorem ties_sorted {ys : List mIt} (hs : kSorted ys) : q_tiedPairsOfSorted ys = nI (pr cT ys) := by
  unfold q_tiedPairsOfSorted
  rcases Nat.eq_zero_or_pos ys.length with e | e
  · rw [List.eq_nil_of_length_eq_zero e]
    rfl
  · refine ties_go hs (ys.length - 1) 1 0 0 (Nat.le_refl _) (by omega) ?_ ?_
    · rw [take_it e, List.take_zero]
      rfl
    · rfl
theorem cT_comm (x y : Int32) : cT x y = cT y x := decide_eq_decide.mpr ⟨Eq.symm, Eq.symm⟩
theorem ties_pr {xs : List mIt} : q_tiedPairsOfSorted (msort xs).1 = nI (pr cT xs) := by rw [ties_sorted msort_bk.sorted, pr_perm cT_comm msort_perm]
theorem ties_eq {xs : List mIt} : mq_pairs xs (nI 0) = q_tiedPairsOfSorted (msort xs).1 := by
  rw [ties_pr, pairs_pr]
  exact congrArg nI (pr_congr (fun x y => decide_eq_decide.mpr side_0) xs)
theorem eqV_ties {S : cS} {row : Int32} : vEq (sp_ties S row) (mp_ties S row) := dAt_v (by decide) (fun r _ => vEq.of (congrArg Value.int ties_eq))
/-! house -/
theorem house_go {S : cS} (hS : lenOk S) : ∀ (d s a : Nat) (b : Int32), s + d ≤ 4 → mlp (mhS S) d s (a, b) = (mlp (fun i acc => acc + (S.1 i).length) d s a, mlp (fun i acc => if q_isRising (S.1 i) = false then acc else acc + 1) d s b) := by
  intro d
  induction d with
  | zero => intro s a b _; rfl
  | succ d ih =>
    intro s a b h
    show mlp (mhS S) d (s + 1) (a + (S.1 s).length, b + (if mq_pairs (S.1 s) (nI 1) = 0 then nI 1 else nI 0)) = _
    rw [ih _ _ _ (by omega)]
    have e : b + (if mq_pairs (S.1 s) (nI 1) = 0 then nI 1 else nI 0) = if q_isRising (S.1 s) = false then b else b + 1 := by
      have w := wrong_0 (hS.le (show s < 4 by omega))
      cases q : q_isRising (S.1 s) with
      | true => rw [if_pos (w.mpr q), if_neg (by decide)]; rfl
      | false => rw [if_neg (fun z => by rw [w.mp z] at q; cases q), if_pos rfl]; exact Int32.add_zero b
    rw [e]
    rfl
theorem house_eq {S : cS} (hS : lenOk S) (w : Nat) : mq_house S w = q_house S w := by
  have h : mhF S = (q_itemsInAll S, q_sortedRows S) := house_go hS 4 0 0 (nI 0) (by omega)
  unfold mq_house q_house
  rw [h]
  rfl
theorem eqV_house {S : cS} {what : Int32} (hS : lenOk S) : ((mp_house S what).1 = (sp_house S what).1 / 2) ∧ ((sp_house S what).1 = 0 → (mp_house S what).2.1 = (sp_house S what).2.1) := by
  rcases q : inN 6 what with _ | w
  · rw [mp_house_n q, show sp_house S what = (2, .null, S) from by unfold sp_house; rw [q]]
    exact ⟨show (1 : Nat) = 2 / 2 by decide, fun z => by cases z⟩
  · obtain ⟨hw, rfl⟩ := inN_of q (by decide)
    rw [mp_house_s hw, house_s hw, house_eq hS]
    exact ⟨show (0 : Nat) = 0 / 2 by decide, fun _ => rfl⟩
/-! first -/
theorem nI_nm1 {k : Nat} (h : k < 2 ^ 31) : nI k ≠ -1 := fun z => by
  have h1 := nI_toInt h
  rw [z] at h1
  have h2 : (-1 : Int32).toInt = -1 := by decide
  omega
theorem first_go {xs : List mIt} {key : Int32} (hL : xs.length < 2 ^ 30) : ∀ (d s : Nat), s + d = xs.length → (∀ its : Int32, its ≠ -1 → mlp (fsS xs key false) d s its = its) ∧ mlp (fsS xs key false) d s (-1) = mff (fun i => decide (xk xs i = key)) d s := by
  intro d
  induction d with
  | zero => intro s _; exact ⟨fun _ _ => rfl, rfl⟩
  | succ d ih =>
    intro s h
    obtain ⟨i1, i2⟩ := ih (s + 1) (by omega)
    refine ⟨fun its hi => ?_, ?_⟩
    · show mlp _ d (s + 1) (fsS xs key false s its) = its
      unfold fsS
      rw [if_neg (by rintro ⟨-, z | z⟩; cases z; exact hi z)]
      exact i1 its hi
    · show mlp _ d (s + 1) (fsS xs key false s (-1)) = (if decide (xk xs s = key) = true then nI s else mff _ d (s + 1))
      unfold fsS
      by_cases e : xk xs s = key
      · rw [if_pos ⟨e, Or.inr rfl⟩, if_pos (decide_eq_true e)]
        exact i1 _ (nI_nm1 (by omega))
      · rw [if_neg (fun z => e z.1), if_neg (by simpa using e)]
        exact i2
theorem last_go {xs : List mIt} {key : Int32} : ∀ d : Nat, mlp (fsS xs key true) d 0 (-1) = mfl (fun i => decide (xk xs i = key)) d := by
  intro d
  induction d with
  | zero => rfl
  | succ d ih =>
    rw [mlp_app d 1 0, Nat.zero_add, ih]
    show fsS xs key true d _ = (if decide (xk xs d = key) = true then nI d else mfl _ d)
    unfold fsS
    by_cases e : xk xs d = key
    · rw [if_pos ⟨e, Or.inl rfl⟩, if_pos (decide_eq_true e)]
    · rw [if_neg (fun z => e z.1), if_neg (by simpa using e)]
theorem eqV_first {S : cS} {row key : Int32} {isLast : Bool} (hS : lenOk S) : vEq (sp_first S row key isLast) (mp_first S row key isLast) := dAt_v (by decide) (fun r hr => dFit_v (vEq.of (congrArg Value.int (by
  cases isLast with
  | true => rw [if_neg (by decide), Nat.sub_zero]; exact last_go _
  | false => rw [if_pos rfl]; exact (first_go (hS.lt hr) _ 0 (by omega)).2))))
/-! runs -/
def desc (xs : List mIt) (j : Nat) : Prop := xk xs j < xk xs (j - 1)
theorem erun_spec {xs : List mIt} : ∀ (d e : Nat), (∀ j, e ≤ j → j < erun xs d e → ¬ desc xs j) ∧ (erun xs d e < e + d → desc xs (erun xs d e)) := by
  intro d
  induction d with
  | zero => intro e; exact ⟨fun j h1 h2 => absurd h2 (by show ¬ j < e; omega), fun h => absurd h (by show ¬ e < e + 0; omega)⟩
  | succ d ih =>
    intro e
    by_cases h : xk xs e < xk xs (e - 1)
    · have e1 : erun xs (d + 1) e = e := if_pos h
      rw [e1]
      exact ⟨fun j h1 h2 => absurd h2 (by omega), fun _ => h⟩
    · have e1 : erun xs (d + 1) e = erun xs d (e + 1) := if_neg h
      rw [e1]
      obtain ⟨i1, i2⟩ := ih (e + 1)
      refine ⟨fun j h1 h2 => ?_, fun z => i2 (by omega)⟩
      by_cases f : j = e
      · rw [f]; exact h
      · exact i1 j (by omega) h2
theorem eor {xs : List mIt} {i : Nat} (hi : i < xs.length) : i + 1 ≤ q_endOfRun xs i ∧ q_endOfRun xs i ≤ xs.length ∧ (∀ j, i < j → j < q_endOfRun xs i → ¬ desc xs j) ∧ (q_endOfRun xs i < xs.length → desc xs (q_endOfRun xs i)) := by
  have h1 := @erun_le xs (xs.length - (i + 1)) (i + 1)
  obtain ⟨h2, h3⟩ := @erun_spec xs (xs.length - (i + 1)) (i + 1)
  unfold q_endOfRun
  exact ⟨h1.1, by omega, fun j j1 j2 => h2 j (by omega) j2, fun z => h3 (by omega)⟩
theorem eor_in {xs : List mIt} {k j : Nat} (hk : k < xs.length) (h1 : k ≤ j) (h2 : j < q_endOfRun xs k) : q_endOfRun xs j = q_endOfRun xs k := by
  obtain ⟨a1, a2, a3, a4⟩ := eor hk
  obtain ⟨b1, b2, b3, b4⟩ := eor (show j < xs.length by omega)
  rcases Nat.lt_trichotomy (q_endOfRun xs j) (q_endOfRun xs k) with h | h | h
  · exact absurd (b4 (by omega)) (a3 _ (by omega) h)
  · exact h
  · exact absurd (a4 (by omega)) (b3 _ h2 h)
theorem runs_go {xs : List mIt} : ∀ (d k : Nat) (acc : Int32), xs.length ≤ k + d → k ≤ xs.length → (k = 0 ∨ k = xs.length ∨ desc xs k) → mruns xs d k acc = mlp (fun i acc => if i = 0 ∨ xk xs i < xk xs (i - 1) then acc + 1 else acc) (xs.length - k) k acc := by
  intro d
  induction d with
  | zero =>
    intro k acc h hk _
    rw [show xs.length - k = 0 by omega]
    rfl
  | succ d ih =>
    intro k acc h hk hd
    by_cases q : k < xs.length
    · obtain ⟨a1, a2, a3, a4⟩ := eor q
      show (if k < xs.length then mruns xs d (q_endOfRun xs k) (acc + 1) else acc) = _
      rw [if_pos q, ih (q_endOfRun xs k) (acc + 1) (by omega) a2 (by
        by_cases z : q_endOfRun xs k < xs.length
        · exact Or.inr (Or.inr (a4 z))
        · exact Or.inr (Or.inl (by omega)))]
      rw [show xs.length - k = 1 + ((q_endOfRun xs k - (k + 1)) + (xs.length - q_endOfRun xs k)) by omega, mlp_app, mlp_app, show k + 1 + (q_endOfRun xs k - (k + 1)) = q_endOfRun xs k by omega]
      have e1 : mlp (fun i (acc : Int32) => if i = 0 ∨ xk xs i < xk xs (i - 1) then acc + 1 else acc) 1 k acc = acc + 1 := if_pos (by
        rcases hd with z | z | z
        · exact Or.inl z
        · omega
        · exact Or.inr z)
      have e2 : ∀ (m s : Nat) (b : Int32), k < s → s + m ≤ q_endOfRun xs k → mlp (fun i (acc : Int32) => if i = 0 ∨ xk xs i < xk xs (i - 1) then acc + 1 else acc) m s b = b := by
        intro m
        induction m with
        | zero => intro s b _ _; rfl
        | succ m ih2 =>
          intro s b h1 h2
          show mlp _ m (s + 1) (if s = 0 ∨ xk xs s < xk xs (s - 1) then b + 1 else b) = b
          rw [if_neg (by
            rintro (z | z)
            · omega
            · exact a3 s h1 (by omega) z)]
          exact ih2 (s + 1) b (by omega) (by omega)
      rw [e1, e2 _ _ _ (Nat.lt_succ_self k) (by omega)]
    · show (if k < xs.length then mruns xs d (q_endOfRun xs k) (acc + 1) else acc) = _
      rw [if_neg q, show xs.length - k = 0 by omega]
      rfl
theorem runs_eq {xs : List mIt} : mruns xs xs.length 0 (nI 0) = q_runsInAll xs := by
  rw [runs_go xs.length 0 (nI 0) (by omega) (Nat.zero_le _) (Or.inl rfl)]
  rfl
theorem eqV_runs {S : cS} {row : Int32} : vEq (sp_runs S row) (mp_runs S row) := dAt_v (by decide) (fun r _ => vEq.of (congrArg Value.int runs_eq))
/-! the longest run -/
def lgR (xs : List mIt) (i : Nat) (p : Int32 × Int32) : Int32 × Int32 := let run := if 0 < i ∧ xk xs i < xk xs (i - 1) then 1 else p.2 + 1; (if p.1 < run then run else p.1, run)
theorem lgR_s {xs : List mIt} {i b m u : Nat} (hm : m < 2 ^ 30) (hu : u < 2 ^ 30) (hr : u = if 0 < i ∧ xk xs i < xk xs (i - 1) then 1 else b + 1) : lgR xs i (nI m, nI b) = (nI (max m u), nI u) := by
  have e : (if 0 < i ∧ xk xs i < xk xs (i - 1) then (1 : Int32) else nI b + 1) = nI u := by
    rw [hr]
    split
    · rfl
    · exact nI_1 b
  unfold lgR
  dsimp only
  rw [e]
  by_cases h : m < u
  · rw [if_pos (nI_lt h (by omega)), Nat.max_eq_right (by omega)]
  · rw [if_neg (nI_nlt (by omega) (by omega)), Nat.max_eq_left (by omega)]
theorem longest_go {xs : List mIt} (hL : xs.length < 2 ^ 29) : ∀ (N k m b : Nat), xs.length - k < N → k ≤ xs.length → m ≤ xs.length → b ≤ xs.length → ((k = 0 ∧ b = 0) ∨ k = xs.length ∨ (0 < k ∧ desc xs k)) → (mlp (lgR xs) (xs.length - k) k (nI m, nI b)).1 = nI (mlp (lgS xs) (xs.length - k) k m) := by
  intro N
  induction N with
  | zero => intro k m b h; exact absurd h (Nat.not_lt_zero _)
  | succ N ih =>
    intro k m b hN hk hm hb hd
    by_cases q : k < xs.length
    · obtain ⟨a1, a2, a3, a4⟩ := eor q
      have f1 : ∀ (t u m9 : Nat), u = t + 1 → k + u ≤ q_endOfRun xs k → m9 ≤ xs.length → mlp (lgR xs) (u) k (nI m9, nI b) = (nI (max m9 u), nI u) := by
        intro t
        induction t with
        | zero =>
          intro u m9 hu h2 hm9
          subst hu
          show lgR xs k (nI m9, nI b) = _
          refine lgR_s (by omega) (by omega) ?_
          rcases hd with ⟨z1, z2⟩ | z | ⟨z1, z2⟩
          · rw [if_neg (by omega), z2]
          · omega
          · rw [if_pos ⟨z1, z2⟩]
        | succ t ih2 =>
          intro u m9 hu h2 hm9
          subst hu
          rw [mlp_app (t + 1) 1 k, ih2 (t + 1) m9 rfl (by omega) hm9]
          show lgR xs (k + (t + 1)) (nI (max m9 (t + 1)), nI (t + 1)) = _
          rw [lgR_s (u := t + 1 + 1) (by omega) (by omega) (by rw [if_neg (fun z => a3 _ (by omega) (by omega) z.2)])]
          rw [show max (max m9 (t + 1)) (t + 1 + 1) = max m9 (t + 1 + 1) by omega]
      have f2 : ∀ (t m9 : Nat), t < q_endOfRun xs k - k → mlp (lgS xs) (t + 1) k m9 = max m9 (q_endOfRun xs k - k) := by
        intro t
        induction t with
        | zero => intro m9 _; rfl
        | succ t ih2 =>
          intro m9 ht
          rw [mlp_app (t + 1) 1 k, ih2 m9 (by omega)]
          show max (max m9 (q_endOfRun xs k - k)) (q_endOfRun xs (k + (t + 1)) - (k + (t + 1))) = _
          rw [eor_in (j := k + (t + 1)) q (by omega) (by omega)]
          omega
      have hw : xs.length - k = (q_endOfRun xs k - k) + (xs.length - q_endOfRun xs k) := by omega
      rw [hw, mlp_app, mlp_app, show k + (q_endOfRun xs k - k) = q_endOfRun xs k by omega]
      rw [f1 (q_endOfRun xs k - k - 1) (q_endOfRun xs k - k) m (by omega) (by omega) hm]
      have g2 := f2 (q_endOfRun xs k - k - 1) m (by omega)
      rw [show q_endOfRun xs k - k - 1 + 1 = q_endOfRun xs k - k by omega] at g2
      rw [g2]
      refine ih (q_endOfRun xs k) _ _ (by omega) a2 (by omega) (by omega) ?_
      by_cases z : q_endOfRun xs k < xs.length
      · exact Or.inr (Or.inr ⟨by omega, a4 z⟩)
      · exact Or.inr (Or.inl (by omega))
    · rw [show xs.length - k = 0 by omega]
      rfl
theorem longest_eq {xs : List mIt} (hL : xs.length ≤ 320) : nI (mlp (lgS xs) (xs.length - 0) 0 0) = q_longestRun xs :=
  (longest_go (by omega) (xs.length - 0 + 1) 0 0 0 (Nat.lt_succ_self _) (Nat.zero_le _) (Nat.zero_le _) (Nat.zero_le _) (Or.inl ⟨rfl, rfl⟩)).symm
theorem eqV_longest {S : cS} {row : Int32} (hS : lenOk S) : vEq (sp_longest S row) (mp_longest S row) := dAt_v (by decide) (fun r hr => vEq.of (congrArg Value.int (longest_eq (hS.le hr))))
/-! how sound -/
theorem ranks_ok {xs : List mIt} : q_standsByRanksIn xs (msort xs).1 = true := by
  unfold q_standsByRanksIn
  rw [mall_all]
  intro i _ hi
  obtain ⟨P, e, hp, hq⟩ := @msort_bk xs
  rw [Nat.sub_zero] at hq
  have hl : P.length = xs.length := by rw [hq.length_eq, List.length_range']
  have hk : i ∈ P := hq.mem_iff.mpr (List.mem_range'_1.mpr ⟨Nat.zero_le _, by omega⟩)
  obtain ⟨j, hj, rfl⟩ := List.getElem_of_mem hk
  rw [decide_eq_true_iff, rank_at hp hq hj, msort_len]
  have h9 : it (msort xs).1 j = it xs P[j] := by
    have h8 : (msort xs).1[j]'(by rw [msort_len]; omega) = it xs P[j] := by simp only [e, List.getElem_map]
    rw [← h8, xk_get]
    rfl
  exact ⟨by omega, congrArg Prod.fst h9, congrArg Prod.snd h9⟩
theorem pr_tri {xs : List mIt} : 2 * (pr cW xs + pr (fun x y => decide (x < y)) xs + pr cT xs) = xs.length * (xs.length - 1) := by
  induction xs with
  | nil => rfl
  | cons a l ih =>
    have h : l.countP (fun b => cW a.1 b.1) + l.countP (fun b => decide (a.1 < b.1)) + l.countP (fun b => cT a.1 b.1) = l.length := by
      clear ih
      induction l with
      | nil => rfl
      | cons b l ih2 =>
        rw [List.countP_cons, List.countP_cons, List.countP_cons, List.length_cons]
        have h1 : (if cW a.1 b.1 = true then 1 else 0) + (if decide (a.1 < b.1) = true then 1 else 0) + (if cT a.1 b.1 = true then 1 else 0) = 1 := by
          unfold cW cT
          simp only [decide_eq_true_eq, Int32.lt_iff_toInt_lt, ← Int32.toInt_inj]
          rcases Int.lt_trichotomy a.1.toInt b.1.toInt with z | z | z
          · rw [if_neg (by omega), if_pos z, if_neg (by omega)]
          · rw [if_neg (by omega), if_neg (by omega), if_pos z]
          · rw [if_pos z, if_neg (by omega), if_neg (by omega)]
        omega
    show 2 * ((l.countP (fun b => cW a.1 b.1) + pr cW l) + (l.countP (fun b => decide (a.1 < b.1)) + pr _ l) + (l.countP (fun b => cT a.1 b.1) + pr cT l)) = (l.length + 1) * (l.length + 1 - 1)
    rw [Nat.add_sub_cancel, Nat.add_mul, Nat.one_mul]
    have h2 : l.length * (l.length - 1) + l.length = l.length * l.length := by
      rcases l.length with _ | n
      · rfl
      · rw [Nat.add_sub_cancel, Nat.mul_succ]
    omega
theorem right_pr {xs : List mIt} : q_rightPairs xs = nI (pr (fun x y => decide (x < y)) xs) := loops_pr (c := fun x y => x < y) (dc := fun _ _ => inferInstance)
theorem row_sound {xs : List mIt} (hL : xs.length ≤ 320) : q_rowSound xs = true := by
  unfold q_rowSound
  rw [Bool.and_eq_true, Bool.and_eq_true, Bool.and_eq_true]
  refine ⟨⟨⟨?_, ?_⟩, ?_⟩, ranks_ok⟩
  · rw [decide_eq_true_iff, msort_wrong, wrong_pr, wrongQ_pr]
  · rw [beq_iff_eq, msort_wrong]
    rw [Bool.eq_iff_iff, decide_eq_true_iff]
    exact wrong_0 hL
  · rw [decide_eq_true_iff, msort_wrong, wrong_pr, right_pr, ties_pr, nI_add, nI_add]
    have h := @pr_tri xs
    have hb : xs.length * (xs.length - 1) ≤ 320 * 320 := Nat.mul_le_mul hL (by omega)
    rcases Nat.eq_zero_or_pos xs.length with e | e
    · rw [List.eq_nil_of_length_eq_zero e]
      decide
    · obtain ⟨n, hn⟩ : ∃ n, xs.length = n + 1 := ⟨xs.length - 1, by omega⟩
      rw [hn, nI_pred, mI_mul, pk_div (by rw [hn, Nat.add_sub_cancel] at hb; omega) (by decide) (by decide)]
      refine congrArg nI ?_
      rw [hn, Nat.add_sub_cancel] at h
      omega
theorem other_self {xs : List mIt} : q_otherItems xs xs = 0 := by
  unfold q_otherItems
  have h : ∀ (d s : Nat), mlp (fun i (acc : Int32) => if xk xs i = xk xs i ∧ xt xs i = xt xs i then acc else acc + 1) d s (nI 0) = nI 0 := by
    intro d
    induction d with
    | zero => intro s; rfl
    | succ d ih => intro s; show mlp _ d (s + 1) (if _ then _ else _) = _; rw [if_pos ⟨rfl, rfl⟩]; exact ih _
  exact h _ _
theorem weave_sound {xs ys : List mIt} {room : Nat} : q_weaveSound xs ys room = true := by
  unfold q_weaveSound
  cases h1 : q_isRising xs with
  | false => rfl
  | true =>
    cases h2 : q_isRising ys with
    | false => rfl
    | true =>
      have r1 := rising_iff.mp h1
      have r2 := rising_iff.mp h2
      have w := weave_scat (xs := xs ++ ys) (m := xs.length) (by rw [List.length_append]; omega) (fun i j hij hj => by
        rw [xk_app_lt hj, xk_app_lt (show i < xs.length by omega)]
        exact r1 i j hij hj) (fun i j hi hij hj => by
        rw [List.length_append] at hj
        rw [show xk (xs ++ ys) j = xk ys (j - xs.length) from congrArg Prod.fst (it_app_ge (by omega)), show xk (xs ++ ys) i = xk ys (i - xs.length) from congrArg Prod.fst (it_app_ge hi)]
        exact r2 _ _ (by omega) (by omega))
      rw [msort_scat] at w
      rw [span_all, ← w, other_self, decide_eq_true rfl, decide_eq_true rfl, Bool.and_self, Bool.or_true]
theorem sound_eq {h : mH} {S : cS} (C : cAt h S) : q_sound S = true := by
  have hS : lenOk S := fun r hr => (C.2.2.2.1 r hr).len.1
  unfold q_sound
  rw [Bool.and_eq_true, mall_all]
  exact ⟨fun j _ hj => row_sound (hS.le (by omega)), weave_sound⟩

/-! ===== keys that differ, the commonest key, bags, the digest ===== -/
theorem uniq_count {n : Nat} {f g : Nat → Int32} {P Q : Nat → Bool} (p1 : ∀ i j, i < j → j < n → P i = true → P j = true → f i ≠ f j) (p2 : ∀ i, i < n → ∃ j, j < n ∧ P j = true ∧ f j = f i) (q1 : ∀ i j, i < j → j < n → Q i = true → Q j = true → g i ≠ g j) (q2 : ∀ i, i < n → ∃ j, j < n ∧ Q j = true ∧ g j = g i) (hfg : ∀ x, (∃ i, i < n ∧ f i = x) ↔ ∃ i, i < n ∧ g i = x) : (List.range' 0 n).countP P = (List.range' 0 n).countP Q := by
  have key : ∀ (f : Nat → Int32) (P : Nat → Bool), (∀ i j, i < j → j < n → P i = true → P j = true → f i ≠ f j) → (((List.range' 0 n).filter P).map f).Nodup := by
    intro f P h
    unfold List.Nodup
    rw [List.pairwise_map]
    refine ((List.pairwise_lt_range' (s := 0) (n := n)).filter P).imp_of_mem (fun {a b} ha hb hab => ?_)
    have ha2 := List.mem_filter.mp ha
    have hb2 := List.mem_filter.mp hb
    have hb3 := List.mem_range'_1.mp hb2.1
    exact h a b hab (by omega) ha2.2 hb2.2
  have mem : ∀ (f : Nat → Int32) (P : Nat → Bool), (∀ i, i < n → ∃ j, j < n ∧ P j = true ∧ f j = f i) → ∀ x, x ∈ ((List.range' 0 n).filter P).map f ↔ ∃ i, i < n ∧ f i = x := by
    intro f P h x
    rw [List.mem_map]
    constructor
    · rintro ⟨a, ha, rfl⟩
      have ha3 := List.mem_range'_1.mp (List.mem_filter.mp ha).1
      exact ⟨a, by omega, rfl⟩
    · rintro ⟨i, hi, rfl⟩
      obtain ⟨j, j1, j2, j3⟩ := h i hi
      exact ⟨j, List.mem_filter.mpr ⟨List.mem_range'_1.mpr ⟨Nat.zero_le _, by omega⟩, j2⟩, j3⟩
  have hp : (((List.range' 0 n).filter P).map f).Perm (((List.range' 0 n).filter Q).map g) := (List.perm_ext_iff_of_nodup (key f P p1) (key g Q q1)).mpr (fun x => by rw [mem f P p2, mem g Q q2, hfg])
  have hl := hp.length_eq
  rw [List.length_map, List.length_map] at hl
  rw [List.countP_eq_length_filter, List.countP_eq_length_filter, hl]
theorem keys_mem {xs : List mIt} {x : Int32} : (∃ i, i < xs.length ∧ xk xs i = x) ↔ x ∈ xs.map Prod.fst := by
  rw [List.mem_map]
  constructor
  · rintro ⟨i, hi, rfl⟩
    exact ⟨xs[i], List.getElem_mem hi, by rw [xk_get hi]⟩
  · rintro ⟨z, hz, rfl⟩
    obtain ⟨i, hi, rfl⟩ := List.getElem_of_mem hz
    exact ⟨i, hi, by rw [xk_get hi]⟩
theorem unlike_eq {xs : List mIt} : mlp (ulS xs) (xs.length - 0) 0 (nI 0) = q_unlikeKeysOfSorted (msort xs).1 := by
  have ho := pairwise_it.mp (@msort_bk xs).sorted
  have hl : (msort xs).1.length = xs.length := msort_len
  have e1 : mlp (ulS xs) (xs.length - 0) 0 (nI 0) = nI ((List.range' 0 xs.length).countP (fun k => mq_isNew xs k)) := by
    refine (mlp_nI2 (c := fun k => mq_isNew xs k = true) (xs.length - 0) 0 0).trans ?_
    rw [Nat.zero_add, Nat.sub_zero]
    refine congrArg nI (List.countP_congr (fun k _ => ?_))
    rw [decide_eq_true_iff]
  have e2 : q_unlikeKeysOfSorted (msort xs).1 = nI ((List.range' 0 xs.length).countP (fun i => decide (i = 0 ∨ ¬ xk (msort xs).1 i = xk (msort xs).1 (i - 1)))) := by
    unfold q_unlikeKeysOfSorted
    rw [hl]
    refine (mlp_nI (c := fun i => i = 0 ∨ ¬ xk (msort xs).1 i = xk (msort xs).1 (i - 1)) (xs.length - 0) 0 0).trans ?_
    rw [Nat.zero_add, Nat.sub_zero]
  rw [e1, e2]
  refine congrArg nI (uniq_count (f := xk xs) (g := xk (msort xs).1) ?_ ?_ ?_ ?_ ?_)
  · intro i j hij hj _ h2 h3
    unfold mq_isNew at h2
    rw [mall_all] at h2
    have h4 := h2 i (Nat.zero_le _) (by omega)
    rw [decide_eq_true_iff] at h4
    exact h4 h3
  · intro i hi
    induction i using Nat.strongRecOn with
    | ind i ih =>
      by_cases h : mq_isNew xs i = true
      · exact ⟨i, hi, h, rfl⟩
      · unfold mq_isNew at h
        rw [mall_all] at h
        have h2 : ∃ o, o < i ∧ xk xs o = xk xs i := by
          refine Classical.byContradiction (fun z => h (fun o _ o2 => ?_))
          rw [decide_eq_true_iff]
          exact fun w => z ⟨o, by omega, w⟩
        obtain ⟨o, o1, o2⟩ := h2
        obtain ⟨j, j1, j2, j3⟩ := ih o o1 (by omega)
        exact ⟨j, j1, j2, j3.trans o2⟩
  · intro i j hij hj _ h2 h3
    rw [decide_eq_true_iff] at h2
    have h4 : ¬ xk (msort xs).1 j = xk (msort xs).1 (j - 1) := by
      rcases h2 with z | z
      · omega
      · exact z
    have o1 : ¬ xk (msort xs).1 j < xk (msort xs).1 (j - 1) := ho (j - 1) j (by omega) (by omega)
    have o2 : i = j - 1 ∨ ¬ xk (msort xs).1 (j - 1) < xk (msort xs).1 i := by
      by_cases z : i = j - 1
      · exact Or.inl z
      · exact Or.inr (ho i (j - 1) (by omega) (by omega))
    rw [Int32.lt_iff_toInt_lt] at o1
    rw [← Int32.toInt_inj] at h3 h4
    rcases o2 with z | z
    · rw [← z] at h4
      omega
    · rw [Int32.lt_iff_toInt_lt] at z
      omega
  · intro i hi
    induction i using Nat.strongRecOn with
    | ind i ih =>
      by_cases h : i = 0 ∨ ¬ xk (msort xs).1 i = xk (msort xs).1 (i - 1)
      · exact ⟨i, hi, decide_eq_true h, rfl⟩
      · have h1 : ¬ i = 0 := fun z => h (Or.inl z)
        have h2 : xk (msort xs).1 i = xk (msort xs).1 (i - 1) := Classical.byContradiction (fun z => h (Or.inr z))
        obtain ⟨j, j1, j2, j3⟩ := ih (i - 1) (by omega) (by omega)
        exact ⟨j, j1, j2, j3.trans h2.symm⟩
  · intro x
    have h1 := @keys_mem (msort xs).1 x
    rw [hl] at h1
    rw [keys_mem, h1]
    exact ((@msort_perm xs).map Prod.fst).mem_iff.symm
theorem eqV_unlike {S : cS} {row : Int32} : vEq (sp_unlike S row) (mp_unlike S row) := dAt_v (by decide) (fun r _ => vEq.of (congrArg Value.int unlike_eq))
/-! how often a key stands -/
def cnt (xs : List mIt) (k : Int32) : Nat := xs.countP (fun z => decide (z.1 = k))
theorem often_cnt {xs : List mIt} {k : Int32} : mq_often xs k (nI 0) = nI (cnt xs k) := by
  unfold mq_often cnt
  have h : mlp (ofS xs k (nI 0)) (xs.length - 0) 0 (nI 0) = nI (0 + (List.range' 0 (xs.length - 0)).countP (fun j => decide (sideF (xk xs j) k = nI 0))) := mlp_nI2 (c := fun j => sideF (xk xs j) k = nI 0) _ _ _
  rw [h, Nat.zero_add, Nat.sub_zero]
  refine congrArg nI ?_
  have h2 := take_range (xs := xs) (Nat.le_refl xs.length)
  rw [List.take_length] at h2
  conv => rhs; rw [← h2]
  rw [List.countP_map]
  refine List.countP_congr (fun j _ => ?_)
  rw [decide_eq_true_iff, side_0]
  show xk xs j = k ↔ decide (xk xs j = k) = true
  rw [decide_eq_true_iff]
theorem cnt_le {xs : List mIt} {k : Int32} : cnt xs k ≤ xs.length := List.countP_le_length
theorem cnt_pos {xs : List mIt} {i : Nat} (h : i < xs.length) : 0 < cnt xs (xk xs i) := List.countP_pos_iff.mpr ⟨xs[i], List.getElem_mem h, by rw [xk_get h]; exact decide_eq_true rfl⟩
theorem cnt_perm {xs ys : List mIt} (h : xs.Perm ys) (k : Int32) : cnt xs k = cnt ys k := h.countP_eq _
/-- k is the least of the commonest keys of the first s items -/
def isMost (xs : List mIt) (c : Int32 → Nat) (s : Nat) (k : Int32) (m : Nat) : Prop := c k = m ∧ (∃ i, i < s ∧ xk xs i = k) ∧ ∀ i, i < s → c (xk xs i) ≤ m ∧ (c (xk xs i) = m → ¬ xk xs i < k)
theorem most_go {xs : List mIt} (hL : xs.length < 2 ^ 30) : ∀ (d s : Nat) (k : Int32) (m : Nat), s + d = xs.length → 0 < s → isMost xs (cnt xs) s k m → ∃ k' m', mlp (moS xs) d s (k, nI m) = (k', nI m') ∧ isMost xs (cnt xs) xs.length k' m' := by
  intro d
  induction d with
  | zero => intro s k m h _ hm; exact ⟨k, m, rfl, by rw [show xs.length = s by omega]; exact hm⟩
  | succ d ih =>
    intro s k m h h0 hm
    obtain ⟨m1, ⟨i0, i1, i2⟩, m2⟩ := hm
    have hb := @cnt_le xs (xk xs s)
    have hm9 : m < 2 ^ 31 := by rw [← m1]; have := @cnt_le xs k; omega
    show ∃ k' m', mlp (moS xs) d (s + 1) (moS xs s (k, nI m)) = _ ∧ _
    unfold moS
    dsimp only
    rw [often_cnt]
    by_cases h1 : cnt xs (xk xs s) < m
    · rw [if_pos (nI_lt h1 hm9)]
      refine ih (s + 1) k m (by omega) (by omega) ⟨m1, ⟨i0, by omega, i2⟩, fun i hi => ?_⟩
      by_cases e : i = s
      · subst e; exact ⟨by omega, fun z => absurd z (by omega)⟩
      · exact m2 i (by omega)
    · rw [if_neg (nI_nlt (by omega) (by omega))]
      by_cases h2 : cnt xs (xk xs s) = m
      · rw [if_pos (congrArg nI h2)]
        by_cases h3 : xk xs s < k
        · rw [if_pos h3]
          refine ih (s + 1) _ _ (by omega) (by omega) ⟨rfl, ⟨s, by omega, rfl⟩, fun i hi => ?_⟩
          by_cases e : i = s
          · subst e; exact ⟨Nat.le_refl _, fun _ => by rw [Int32.lt_iff_toInt_lt]; omega⟩
          · obtain ⟨a, b⟩ := m2 i (by omega)
            refine ⟨by omega, fun z => ?_⟩
            have b2 := b (by omega)
            rw [Int32.lt_iff_toInt_lt] at b2 h3 ⊢
            omega
        · rw [if_neg h3]
          refine ih (s + 1) k m (by omega) (by omega) ⟨m1, ⟨i0, by omega, i2⟩, fun i hi => ?_⟩
          by_cases e : i = s
          · subst e; exact ⟨by omega, fun _ => h3⟩
          · exact m2 i (by omega)
      · rw [if_neg (fun z => h2 ((nI_eq (by omega) hm9).mp z))]
        refine ih (s + 1) _ _ (by omega) (by omega) ⟨rfl, ⟨s, by omega, rfl⟩, fun i hi => ?_⟩
        by_cases e : i = s
        · subst e; exact ⟨Nat.le_refl _, fun _ => by rw [Int32.lt_iff_toInt_lt]; omega⟩
        · obtain ⟨a, b⟩ := m2 i (by omega)
          exact ⟨by omega, fun z => absurd z (by omega)⟩
theorem isMost.uniq {xs ys : List mIt} {c : Int32 → Nat} {s t : Nat} {k k' : Int32} {m m' : Nat} (h1 : isMost xs c s k m) (h2 : isMost ys c t k' m') (hk : ∀ x, (∃ i, i < s ∧ xk xs i = x) ↔ ∃ i, i < t ∧ xk ys i = x) : k = k' := by
  obtain ⟨a1, a2, a3⟩ := h1
  obtain ⟨b1, b2, b3⟩ := h2
  obtain ⟨i, i1, i2⟩ := (hk k).mp a2
  obtain ⟨j, j1, j2⟩ := (hk k').mpr b2
  have c1 := b3 i i1
  have c2 := a3 j j1
  rw [i2] at c1
  rw [j2] at c2
  have d1 := c1.2 (by omega)
  have d2 := c2.2 (by omega)
  rw [Int32.lt_iff_toInt_lt] at d1 d2
  rw [← Int32.toInt_inj]
  omega
def cmS (ys : List mIt) (i : Nat) (p : Int32 × Int32 × Int32) : Int32 × Int32 × Int32 := let al := if 0 < i ∧ xk ys i = xk ys (i - 1) then p.2.2 + 1 else 1; if p.2.1 < al then (xk ys i, al, al) else (p.1, p.2.1, al)
theorem cnt_take {ys : List mIt} {s : Nat} (h : s < ys.length) (k : Int32) : cnt (ys.take (s + 1)) k = cnt (ys.take s) k + if xk ys s = k then 1 else 0 := by
  unfold cnt
  rw [take_it h, List.countP_append, List.countP_singleton]
  show _ + (if decide (xk ys s = k) = true then 1 else 0) = _
  simp only [decide_eq_true_eq]
theorem common_go {ys : List mIt} (hs : kSorted ys) (hL : ys.length < 2 ^ 30) : ∀ (d s : Nat) (k : Int32) (m a : Nat), s + d = ys.length → 0 < s → isMost ys (cnt (ys.take s)) s k m → a = cnt (ys.take s) (xk ys (s - 1)) → ∃ k' m' a', mlp (cmS ys) d s (k, nI m, nI a) = (k', nI m', a') ∧ isMost ys (cnt ys) ys.length k' m' := by
  have ho := pairwise_it.mp hs
  intro d
  induction d with
  | zero =>
    intro s k m a h _ hm _
    rw [List.take_of_length_le (by omega)] at hm
    exact ⟨k, m, nI a, rfl, by rw [show ys.length = s by omega]; exact hm⟩
  | succ d ih =>
    intro s k m a h h0 hm ha
    obtain ⟨m1, ⟨i0, i1, i2⟩, m2⟩ := hm
    have hs9 : s < ys.length := by omega
    have mb : m ≤ ys.length := by
      rw [← m1]
      have := @cnt_le (ys.take s) k
      rw [List.length_take] at this
      omega
    have le9 : ∀ i, i < s → ¬ xk ys s < xk ys i := fun i hi => ho i s hi hs9
    have al : (if 0 < s ∧ xk ys s = xk ys (s - 1) then nI a + 1 else 1) = nI (cnt (ys.take (s + 1)) (xk ys s)) := by
      rw [cnt_take hs9, if_pos rfl]
      by_cases e : xk ys s = xk ys (s - 1)
      · rw [if_pos ⟨h0, e⟩, ha, e, nI_1]
      · rw [if_neg (fun z => e z.2)]
        have z0 : cnt (ys.take s) (xk ys s) = 0 := by
          unfold cnt
          rw [List.countP_eq_zero]
          intro z hz
          obtain ⟨j, hj, rfl⟩ := List.getElem_of_mem hz
          rw [List.length_take] at hj
          rw [List.getElem_take, xk_get (by omega)]
          intro w
          have w2 : xk ys j = xk ys s := of_decide_eq_true w
          have o1 : ¬ xk ys s < xk ys (s - 1) := le9 (s - 1) (by omega)
          have o2 : j = s - 1 ∨ ¬ xk ys (s - 1) < xk ys j := by
            by_cases q : j = s - 1
            · exact Or.inl q
            · exact Or.inr (ho j (s - 1) (by omega) (by omega))
          rw [Int32.lt_iff_toInt_lt] at o1
          rw [← Int32.toInt_inj] at e w2
          rcases o2 with q | q
          · rw [q] at w2; omega
          · rw [Int32.lt_iff_toInt_lt] at q; omega
        rw [z0]
        rfl
    have cb : cnt (ys.take (s + 1)) (xk ys s) ≤ ys.length := by
      have := @cnt_le (ys.take (s + 1)) (xk ys s)
      rw [List.length_take] at this
      omega
    show ∃ k' m' a', mlp (cmS ys) d (s + 1) (cmS ys s (k, nI m, nI a)) = _ ∧ _
    unfold cmS
    dsimp only
    rw [al]
    by_cases h1 : m < cnt (ys.take (s + 1)) (xk ys s)
    · rw [if_pos (nI_lt h1 (by omega))]
      refine ih (s + 1) _ _ _ (by omega) (by omega) ⟨rfl, ⟨s, by omega, rfl⟩, fun i hi => ?_⟩ (by rw [Nat.add_sub_cancel])
      by_cases e : xk ys i = xk ys s
      · rw [e]; exact ⟨Nat.le_refl _, fun _ => by rw [Int32.lt_iff_toInt_lt]; omega⟩
      · have i9 : i < s := by
          rcases Nat.lt_or_ge i s with z | z
          · exact z
          · exact absurd (by rw [show i = s by omega]) e
        obtain ⟨p, q⟩ := m2 i i9
        have e2 : cnt (ys.take (s + 1)) (xk ys i) = cnt (ys.take s) (xk ys i) := by rw [cnt_take hs9, if_neg (fun z => e z.symm)]; rfl
        rw [e2]
        exact ⟨by omega, fun z => absurd z (by omega)⟩
    · rw [if_neg (nI_nlt (by omega) (by omega))]
      have kne : ¬ xk ys s = k := by
        intro z
        have e2 := cnt_take hs9 k
        rw [if_pos z] at e2
        rw [z] at h1
        omega
      refine ih (s + 1) k m _ (by omega) (by omega) ⟨?_, ⟨i0, by omega, i2⟩, fun i hi => ?_⟩ (by rw [Nat.add_sub_cancel])
      · rw [cnt_take hs9, if_neg kne]; exact m1
      · by_cases e : xk ys i = xk ys s
        · rw [e]
          refine ⟨by omega, fun _ => ?_⟩
          rw [← i2]
          exact le9 i0 i1
        · have i9 : i < s := by
            rcases Nat.lt_or_ge i s with z | z
            · exact z
            · exact absurd (by rw [show i = s by omega]) e
          have e2 : cnt (ys.take (s + 1)) (xk ys i) = cnt (ys.take s) (xk ys i) := by rw [cnt_take hs9, if_neg (fun z => e z.symm)]; rfl
          rw [e2]
          exact m2 i i9
theorem most_eq {xs : List mIt} (hL : xs.length ≤ 320) : (mlp (moS xs) (xs.length - 0) 0 ((-100000), nI 0)).1 = q_commonestKeyOfSorted (msort xs).1 := by
  have hl : (msort xs).1.length = xs.length := msort_len
  rcases Nat.eq_zero_or_pos xs.length with e | e
  · rw [List.eq_nil_of_length_eq_zero e]
    rfl
  · rw [show xs.length - 0 = (xs.length - 1) + 1 by omega]
    have f1 : moS xs 0 ((-100000), nI 0) = (xk xs 0, nI (cnt xs (xk xs 0))) := by
      unfold moS
      dsimp only
      have c0 := cnt_pos e
      have c1 := @cnt_le xs (xk xs 0)
      rw [often_cnt, if_neg (nI_nlt (Nat.zero_le _) (by omega)), if_neg (fun z => by have := (nI_eq (by omega) (by decide)).mp z; omega)]
    obtain ⟨k1, m1, r1, r2⟩ := most_go (xs := xs) (by omega) (xs.length - 1) 1 (xk xs 0) (cnt xs (xk xs 0)) (by omega) (by decide) ⟨rfl, ⟨0, by decide, rfl⟩, fun i hi => by
      obtain rfl : i = 0 := by omega
      exact ⟨Nat.le_refl _, fun _ => by rw [Int32.lt_iff_toInt_lt]; omega⟩⟩
    have g1 : (mlp (moS xs) (xs.length - 1 + 1) 0 ((-100000), nI 0)).1 = k1 := by
      show (mlp (moS xs) (xs.length - 1) 1 (moS xs 0 ((-100000), nI 0))).1 = k1
      rw [f1, r1]
    rw [g1]
    have hy0 : 0 < (msort xs).1.length := by omega
    have f2 : cmS (msort xs).1 0 ((-100000), nI 0, nI 0) = (xk (msort xs).1 0, nI 1, nI 1) := by
      unfold cmS
      dsimp only
      have e9 : (if (0 : Nat) < 0 ∧ xk (msort xs).1 0 = xk (msort xs).1 (0 - 1) then nI 0 + 1 else (1 : Int32)) = nI 1 := if_neg (fun z => absurd z.1 (by decide))
      rw [e9, if_pos (show nI 0 < nI 1 by decide)]
    have t1 : ∀ k, cnt ((msort xs).1.take 1) k = if xk (msort xs).1 0 = k then 1 else 0 := fun k => by
      rw [cnt_take hy0, List.take_zero]
      exact Nat.zero_add _
    obtain ⟨k2, m2, a2, s1, s2⟩ := common_go (ys := (msort xs).1) msort_bk.sorted (by omega) ((msort xs).1.length - 1) 1 (xk (msort xs).1 0) 1 1 (by omega) (by decide) ⟨by rw [t1, if_pos rfl], ⟨0, by decide, rfl⟩, fun i hi => by
      obtain rfl : i = 0 := by omega
      exact ⟨by rw [t1, if_pos rfl]; exact Nat.le_refl _, fun _ => by rw [Int32.lt_iff_toInt_lt]; omega⟩⟩ (by rw [t1, if_pos rfl])
    have g2 : q_commonestKeyOfSorted (msort xs).1 = k2 := by
      unfold q_commonestKeyOfSorted
      rw [show (msort xs).1.length - 0 = ((msort xs).1.length - 1) + 1 by omega]
      show (mlp (cmS (msort xs).1) ((msort xs).1.length - 1) 1 (cmS (msort xs).1 0 ((-100000), nI 0, nI 0))).1 = k2
      rw [f2, s1]
    rw [g2]
    have s3 : isMost (msort xs).1 (cnt xs) (msort xs).1.length k2 m2 := by
      rw [show cnt xs = cnt (msort xs).1 from funext fun k => (cnt_perm msort_perm k).symm]
      exact s2
    refine r2.uniq s3 (fun x => ?_)
    rw [keys_mem, keys_mem]
    exact ((@msort_perm xs).map Prod.fst).mem_iff.symm
theorem eqV_most {S : cS} {row : Int32} (hS : lenOk S) : vEq (sp_most S row) (mp_most S row) := dAt_v (by decide) (fun r hr => vEq.of (congrArg Value.int (most_eq (hS.le hr))))
/-! bags -/
theorem perm_of_counts {l1 : List Int32} : ∀ {l2 : List Int32}, l2.length ≤ l1.length → (∀ x ∈ l1, l1.count x ≤ l2.count x) → l1.Perm l2 := by
  induction l1 with
  | nil => intro l2 h _; rw [List.eq_nil_of_length_eq_zero (Nat.le_zero.mp h)]
  | cons a l ih =>
    intro l2 h hc
    have ha : a ∈ l2 := by
      have := hc a List.mem_cons_self
      rw [List.count_cons_self] at this
      exact List.count_pos_iff.mp (by omega)
    have hp := List.perm_cons_erase ha
    refine (List.Perm.cons a (ih ?_ (fun x hx => ?_))).trans hp.symm
    · rw [List.length_erase_of_mem ha]
      rw [List.length_cons] at h
      omega
    · have h1 := hc x (List.mem_cons_of_mem _ hx)
      rw [hp.count_eq x, List.count_cons, List.count_cons] at h1
      omega
theorem cnt_count {xs : List mIt} {k : Int32} : cnt xs k = (xs.map Prod.fst).count k := by
  unfold cnt List.count
  rw [List.countP_map]
  refine List.countP_congr (fun z _ => ?_)
  show decide (z.1 = k) = true ↔ (z.1 == k) = true
  rw [decide_eq_true_iff, beq_iff_eq]
theorem bag_go {xs ys : List mIt} (hx : xs.length < 2 ^ 31) (hy : ys.length < 2 ^ 31) : ∀ (d s : Nat) (b : Bool), mlp (bgS xs ys) d s b = true ↔ b = true ∧ ∀ i, s ≤ i → i < s + d → cnt xs (xk xs i) = cnt ys (xk xs i) := by
  intro d
  induction d with
  | zero => intro s b; exact ⟨fun h => ⟨h, fun i h1 h2 => absurd h2 (by omega)⟩, fun h => h.1⟩
  | succ d ih =>
    intro s b
    show mlp (bgS xs ys) d (s + 1) (bgS xs ys s b) = true ↔ _
    rw [ih]
    unfold bgS
    rw [Bool.and_eq_true, decide_eq_true_iff, often_cnt, often_cnt, nI_eq (Nat.lt_of_le_of_lt cnt_le hx) (Nat.lt_of_le_of_lt cnt_le hy)]
    constructor
    · rintro ⟨⟨h1, h2⟩, h3⟩
      refine ⟨h1, fun i i1 i2 => ?_⟩
      by_cases e : i = s
      · subst e; exact h2
      · exact h3 i (by omega) (by omega)
    · rintro ⟨h1, h2⟩
      exact ⟨⟨h1, h2 s (Nat.le_refl _) (by omega)⟩, fun i i1 i2 => h2 i (by omega) (by omega)⟩
theorem other_0 {xs ys : List mIt} (hl : xs.length = ys.length) (hL : xs.length < 2 ^ 31) : q_otherKeys xs ys = 0 ↔ ∀ i, i < xs.length → xk xs i = xk ys i := by
  unfold q_otherKeys
  rw [← hl, Nat.min_self]
  have h : mlp (fun i (acc : Int32) => if xk xs i = xk ys i then acc else acc + 1) (xs.length - 0) 0 (nI 0) = nI (0 + (List.range' 0 (xs.length - 0)).countP (fun j => decide (¬ xk xs j = xk ys j))) := by
    rw [← mlp_nI (c := fun j => ¬ xk xs j = xk ys j)]
    refine mlp_congr (fun j b _ _ => ?_)
    by_cases e : xk xs j = xk ys j
    · rw [if_pos e, if_neg (fun z => z e)]
    · rw [if_neg e, if_pos e]
  have hb : (List.range' 0 (xs.length - 0)).countP (fun j => decide (¬ xk xs j = xk ys j)) ≤ (List.range' 0 (xs.length - 0)).length := List.countP_le_length
  rw [List.length_range'] at hb
  rw [h, Nat.zero_add, mI_eq0 (by omega), List.countP_eq_zero]
  constructor
  · intro z i hi
    have := z i (List.mem_range'_1.mpr ⟨Nat.zero_le _, by omega⟩)
    rw [decide_eq_true_iff] at this
    exact Classical.byContradiction (fun w => this w)
  · intro z i hi
    have h9 := List.mem_range'_1.mp hi
    rw [decide_eq_true_iff]
    exact fun w => w (z i (by omega))
theorem keys_eq {xs ys : List mIt} (hl : xs.length = ys.length) : (∀ i, i < xs.length → xk xs i = xk ys i) ↔ xs.map Prod.fst = ys.map Prod.fst := by
  constructor
  · intro h
    refine List.ext_getElem (by rw [List.length_map, List.length_map, hl]) (fun i h1 h2 => ?_)
    rw [List.length_map] at h1 h2
    rw [List.getElem_map, List.getElem_map, xk_get h1, xk_get h2]
    exact h i h1
  · intro h i hi
    have h2 : (xs.map Prod.fst)[i]? = (ys.map Prod.fst)[i]? := by rw [h]
    rw [List.getElem?_map, List.getElem?_map, List.getElem?_eq_getElem hi, List.getElem?_eq_getElem (show i < ys.length by omega), xk_get hi, xk_get (show i < ys.length by omega)] at h2
    exact Option.some.inj h2
theorem eqV_bag {S : cS} {row other : Int32} (hS : lenOk S) : vEq (sp_bag S row other) (mp_bag S row other) := dAt_v (by decide) (fun r hr => dAt_v (by decide) (fun q hq => vEq.of (mb_iff (by
  have h1 := hS.lt hr
  have h2 := hS.lt hq
  generalize S.1 r = xs at h1
  generalize S.1 q = ys at h2
  rw [bag_go (by omega) (by omega), Bool.and_eq_true, decide_eq_true_iff]
  constructor
  · rintro ⟨hl, h⟩
    refine ⟨hl, ?_⟩
    have hl2 : (msort xs).1.length = (msort ys).1.length := by rw [msort_len, msort_len, hl]
    rw [decide_eq_true_iff, other_0 hl2 (by rw [msort_len]; omega), keys_eq hl2]
    have hp : (xs.map Prod.fst).Perm (ys.map Prod.fst) := perm_of_counts (by rw [List.length_map, List.length_map]; omega) (fun x hx => by
      obtain ⟨i, hi, rfl⟩ := keys_mem.mpr hx
      rw [← cnt_count, ← cnt_count, h i (Nat.zero_le _) (by omega)]
      exact Nat.le_refl _)
    have hp2 : ((msort xs).1.map Prod.fst).Perm ((msort ys).1.map Prod.fst) := ((msort_perm.map Prod.fst).trans hp).trans (msort_perm.map Prod.fst).symm
    have so : ∀ zs : List mIt, kSorted zs → (zs.map Prod.fst).Pairwise (fun a b => ¬ b < a) := fun zs hz => List.pairwise_map.mpr hz
    exact hp2.eq_of_pairwise (fun a b _ _ u v => by rw [Int32.lt_iff_toInt_lt] at u v; rw [← Int32.toInt_inj]; omega) (so _ msort_bk.sorted) (so _ msort_bk.sorted)
  · rintro ⟨hl, h⟩
    refine ⟨hl, fun i _ hi => ?_⟩
    have hl2 : (msort xs).1.length = (msort ys).1.length := by rw [msort_len, msort_len, hl]
    rw [decide_eq_true_iff, other_0 hl2 (by rw [msort_len]; omega), keys_eq hl2] at h
    rw [← cnt_perm msort_perm, ← cnt_perm (@msort_perm ys), cnt_count, cnt_count, h]))))
/-! the digest -/
theorem row_digest {S : cS} (hS : lenOk S) {i : Nat} (hi : i < 4) (d : Int64) : mdRow S i d = dgRow S i d := by
  have e : mdRow S i d = ((((((((d * 31 + (mdA S i 0).toInt64) * 31 + (mdA S i 1).toInt64) * 31 + (mdA S i 2).toInt64) * 31 + (mdA S i 3).toInt64) * 31 + (mdA S i 4).toInt64) * 31 + (mdA S i 5).toInt64) * 31 + (mdA S i 6).toInt64) * 31 + (mdA S i 7).toInt64) * 31 + (mdA S i 8).toInt64 := rfl
  have e3 : mdA S i 3 = (msort (S.1 i)).2 := msort_wrong.symm
  have e4 : mdA S i 4 = q_tiedPairsOfSorted (msort (S.1 i)).1 := ties_eq
  have e5 : mdA S i 5 = q_runsInAll (S.1 i) := runs_eq
  have e6 : mdA S i 6 = q_longestRun (S.1 i) := longest_eq (hS.le hi)
  have e8 : mdA S i 8 = q_unlikeKeysOfSorted (msort (S.1 i)).1 := unlike_eq
  rw [e, e3, e4, e5, e6, e8]
  rfl
theorem digest_eq {h : mH} {S : cS} (C : cAt h S) : q_digest S = mq_digest S := by
  have hS : lenOk S := fun r hr => (C.2.2.2.1 r hr).len.1
  unfold q_digest mq_digest
  rw [sound_eq C]
  have e1 : mlp (mdRow S) (4 - 0) 0 8007 = mlp (dgRow S) (4 - 0) 0 8007 := mlp_congr (fun j b _ hj => row_digest hS (by omega) b)
  have e2 : ∀ a : Int64, mlp (mdHouse S) (6 - 0) 0 a = mlp (dgHouse S) (6 - 0) 0 a := fun a => mlp_congr (fun j b _ hj => by unfold mdHouse dgHouse; rw [house_eq hS])
  rw [e1, e2]
  rfl

/-! ===== keys keep in their bounds ===== -/
def kIn (x : Int32) : Prop := -99999 ≤ x.toInt ∧ x.toInt ≤ 99999
def kAll (xs : List mIt) : Prop := ∀ z ∈ xs, kIn z.1
def kOk (S : cS) : Prop := ∀ r, r < 4 → kAll (S.1 r)
theorem kAll.nil : kAll [] := fun z hz => absurd hz (List.not_mem_nil)
theorem kAll.app {xs ys : List mIt} (h1 : kAll xs) (h2 : kAll ys) : kAll (xs ++ ys) := fun z hz => (List.mem_append.mp hz).elim (h1 z) (h2 z)
theorem kAll.one {x y : Int32} (h : kIn x) : kAll [(x, y)] := fun z hz => by
  rw [List.mem_singleton.mp hz]
  exact h
theorem kAll.xks {xs : List mIt} (h : kAll xs) {i : Nat} (hi : i < xs.length) : kIn (xk xs i) := by
  have h1 := h xs[i] (List.getElem_mem hi)
  rw [xk_get hi] at h1
  exact h1
theorem kAll.spans {xs : List mIt} (h : kAll xs) {i e : Nat} : kAll (span xs i e) := fun z hz => h z (List.mem_of_mem_take (List.mem_of_mem_drop hz))
theorem kAll.sets {xs : List mIt} (h : kAll xs) {i : Nat} {x y : Int32} (hx : kIn x) : kAll (xs.set i (x, y)) := fun z hz => by
  rcases List.mem_or_eq_of_mem_set hz with q | q
  · exact h z q
  · rw [q]; exact hx
theorem kAll.swps {xs : List mIt} (h : kAll xs) {i j : Nat} (hi : i < xs.length) (hj : j < xs.length) : kAll (swp xs i j) := (h.sets (h.xks hj)).sets (h.xks hi)
theorem kAll.perm {xs ys : List mIt} (h : kAll xs) (hp : ys.Perm xs) : kAll ys := fun z hz => h z (hp.mem_iff.mp hz)
theorem kAll.rvs {xs : List mIt} (h : kAll xs) : ∀ {d : Nat}, d ≤ xs.length → kAll (rv xs d)
  | 0, _ => kAll.nil
  | d + 1, hd => fun z hz => by
    rcases List.mem_cons.mp hz with q | q
    · rw [q]; exact h.xks (by omega)
    · exact h.rvs (by omega) z q
theorem kAll.bring {xs ys : List mIt} {t ft : Bool} {g : Int32} (h : kAll xs) (hy : kAll ys) : kAll (bringL xs t ft ys g).1 := by
  have w : ∀ (d s : Nat) (p : List mIt × Int32), s + d ≤ xs.length → kAll p.1 → kAll (mlp (stBring xs t ft) d s p).1 := by
    intro d
    induction d with
    | zero => intro s p _ hp; exact hp
    | succ d ih =>
      intro s p hs hp
      refine ih (s + 1) _ (by omega) ?_
      exact hp.app (kAll.one (h.xks (by omega)))
  exact w _ _ _ (by omega) hy
theorem kAll.weaves {xs : List mIt} {m : Nat} (h : kAll xs) : kAll (weave xs m) := (h.spans (i := 0) (e := m)).app (h.spans (i := m) (e := xs.length)) |>.perm (List.merge_perm_append wle)
theorem kp_add {x y : Int32} (h1 : -1000000 ≤ x.toInt ∧ x.toInt ≤ 1000000) (h2 : -1000000 ≤ y.toInt ∧ y.toInt ≤ 1000000) : (x + y).toInt = x.toInt + y.toInt := by
  rw [Int32.toInt_add, Int.bmod_eq_of_le (by omega) (by omega)]
theorem kp_sub {x y : Int32} (h1 : -1000000 ≤ x.toInt ∧ x.toInt ≤ 1000000) (h2 : -1000000 ≤ y.toInt ∧ y.toInt ≤ 1000000) : (x - y).toInt = x.toInt - y.toInt := by
  rw [Int32.toInt_sub, Int.bmod_eq_of_le (by omega) (by omega)]
theorem drk_in {x : Int32} : kIn (drk x) := by
  unfold drk kIn
  have hx := x.toInt_lt
  have hx2 := x.le_toInt
  have e512 : (nI 512).toInt = 512 := by decide
  have t1 := Int.mul_tdiv_add_tmod x.toInt 512
  have t2 : x.toInt.tmod 512 < 512 ∧ -512 < x.toInt.tmod 512 ∧ (x.toInt < 0 → x.toInt.tmod 512 ≤ 0) ∧ (¬ x.toInt < 0 → 0 ≤ x.toInt.tmod 512) := by
    rcases Classical.em (x.toInt < 0) with z | z
    · have u1 := Int.tmod_nonneg (a := -x.toInt) 512 (by omega)
      have u2 := Int.tmod_lt_of_pos (-x.toInt) (b := 512) (by omega)
      rw [Int.neg_tmod] at u1 u2
      omega
    · have u1 := Int.tmod_nonneg (a := x.toInt) 512 (by omega)
      have u2 := Int.tmod_lt_of_pos x.toInt (b := 512) (by omega)
      omega
  have e1 : (x / nI 512).toInt = x.toInt.tdiv 512 := by
    rw [Int32.toInt_div, e512, Int.bmod_eq_of_le (by omega) (by omega)]
  have e2 : (x / nI 512 * nI 512).toInt = x.toInt.tdiv 512 * 512 := by
    rw [Int32.toInt_mul, e1, e512]
    clear e1
    generalize x.toInt.tdiv 512 = u at *
    generalize x.toInt.tmod 512 = v at *
    exact Int.bmod_eq_of_le (by omega) (by omega)
  rw [Int32.toInt_sub, e2, Int.bmod_eq_of_le (by omega) (by omega)]
  omega
theorem pat_in {p k m b : Nat} {a : Int32} (ha : aOk a = true) (hk : k < m) (hm : m ≤ 320) (hb : b < 100) (hb0 : 0 < b) : kIn (patKey p k m a b) := by
  unfold aOk at ha
  rw [Bool.and_eq_true, Bool.not_eq_true', Bool.not_eq_true', decide_eq_false_iff_not, decide_eq_false_iff_not, Int32.lt_iff_toInt_lt, Int32.lt_iff_toInt_lt] at ha
  have e1 : (-999 : Int32).toInt = -999 := by decide
  have e2 : (nI 999).toInt = 999 := by decide
  rw [e1, e2] at ha
  have hkb : k * b ≤ 320 * 100 := Nat.mul_le_mul (by omega) (by omega)
  have hmb : b * min k (m - 1 - k) ≤ 100 * 320 := Nat.mul_le_mul (by omega) (by omega)
  have hmod : k % b < b := Nat.mod_lt _ hb0
  have t1 := nI_toInt (show k * b < 2 ^ 31 by omega)
  have t2 := nI_toInt (show k % b < 2 ^ 31 by omega)
  have t3 := nI_toInt (show b < 2 ^ 31 by omega)
  have t4 := nI_toInt (show b * min k (m - 1 - k) < 2 ^ 31 by omega)
  have t5 := nI_toInt (show k / 2 < 2 ^ 31 by omega)
  have t6 : (nI 1).toInt = 1 := by decide
  unfold kIn
  have hcase : patKey p k m a b = a ∨ patKey p k m a b = a + nI (k * b) ∨ patKey p k m a b = a - nI (k * b) ∨ patKey p k m a b = a + nI (k % b) ∨ patKey p k m a b = a + nI b - nI 1 - nI (k % b) ∨ patKey p k m a b = a + nI (b * min k (m - 1 - k)) ∨ patKey p k m a b = a + nI (k / 2) ∨ patKey p k m a b = a + nI b - nI (k / 2) := by
    unfold patKey
    split
    · exact Or.inr (Or.inl rfl)
    · exact Or.inr (Or.inr (Or.inl rfl))
    · exact Or.inr (Or.inr (Or.inr (Or.inl rfl)))
    · split
      · exact Or.inr (Or.inr (Or.inr (Or.inl rfl)))
      · exact Or.inr (Or.inr (Or.inr (Or.inr (Or.inl rfl))))
    · exact Or.inr (Or.inr (Or.inr (Or.inr (Or.inr (Or.inl rfl)))))
    · split
      · exact Or.inr (Or.inr (Or.inr (Or.inr (Or.inr (Or.inr (Or.inl rfl))))))
      · exact Or.inr (Or.inr (Or.inr (Or.inr (Or.inr (Or.inr (Or.inr rfl))))))
    · exact Or.inl rfl
  have s1 := kp_add (x := a) (y := nI b) (by omega) (by omega)
  rcases hcase with q | q | q | q | q | q | q | q <;> rw [q]
  · omega
  · rw [kp_add (by omega) (by omega)]; omega
  · rw [kp_sub (by omega) (by omega)]; omega
  · rw [kp_add (by omega) (by omega)]; omega
  · have s2 := kp_sub (x := a + nI b) (y := nI 1) (by omega) (by omega)
    rw [kp_sub (by omega) (by omega)]; omega
  · rw [kp_add (by omega) (by omega)]; omega
  · rw [kp_add (by omega) (by omega)]; omega
  · rw [kp_sub (by omega) (by omega)]; omega
theorem kAll.fill {p m b : Nat} {a g : Int32} {bl : Bool} (ha : aOk a = true) (hm : m ≤ 320) (hb : b < 100) (hb0 : 0 < b) : kAll (fillL p m a b bl g).1 := by
  unfold fillL
  split
  · have w : ∀ (d s : Nat) (q : List mIt × Int32 × Int32), kAll q.1 → kAll (mlp (stDrw bl) d s q).1 := by
      intro d
      induction d with
      | zero => intro s q hq; exact hq
      | succ d ih => intro s q hq; exact ih (s + 1) _ (hq.app (kAll.one drk_in))
    exact w _ _ _ kAll.nil
  · have w : ∀ (d s : Nat) (q : List mIt × Int32), s + d ≤ m → kAll q.1 → kAll (mlp (stPat p m a b bl) d s q).1 := by
      intro d
      induction d with
      | zero => intro s q _ hq; exact hq
      | succ d ih => intro s q hs hq; exact ih (s + 1) _ (by omega) (hq.app (kAll.one (pat_in ha (by omega) hm hb hb0)))
    exact w _ _ _ (by omega) kAll.nil
/-- the state that comes of a call keeps the bounds -/
def kP (S : cS) (o : Nat × Value × cS) : Prop := o.1 = 0 → kOk o.2.2
theorem stOf_k {S : cS} {o : Nat × Value × cS} (K : kOk S) (h : kP S o) : kOk (stOf S o) := by
  unfold stOf
  split
  · exact h (by assumption)
  · exact K
theorem dAt_k {S : cS} {k : Nat} {x : Int32} {f : Nat → Nat × Value × cS} (hk : k < 2 ^ 31) (h : ∀ r, r < k → kP S (f r)) : kP S (dAt S k x f) := by
  rcases q : inN k x with _ | j
  · rw [dAt_n q]; exact fun z => by cases z
  · obtain ⟨hj, rfl⟩ := inN_of q hk
    rw [dAt_s hj hk]
    exact h j hj
theorem dArg_k {S : cS} {k : Nat} {x : Int32} {f : Nat → Nat × Value × cS} (hk : k < 2 ^ 31) (h : ∀ r, r < k → kP S (f r)) : kP S (dArg S k x f) := by
  rcases q : inN k x with _ | j
  · rw [dArg_n q]; exact fun z => by cases z
  · obtain ⟨hj, rfl⟩ := inN_of q hk
    rw [dArg_s hj hk]
    exact h j hj
theorem dFit_k {S : cS} {b : Bool} {o : Nat × Value × cS} (h : b = true → kP S o) : kP S (dFit S b o) := by
  cases b with
  | true => exact h rfl
  | false => exact fun z => by cases z
theorem dB_k {S : cS} {x : Int32} {f : Nat → Nat × Value × cS} (h : ∀ j, j < 100 → 0 < j → kP S (f j)) : kP S (dB S x f) := by
  by_cases q : x < 1 ∨ nI 99 < x
  · rw [dB_n q]; exact fun z => by cases z
  · obtain ⟨p, h1, h2, rfl⟩ := dB_in (fun z => q (Or.inl z)) (fun z => q (Or.inr z))
    rw [dB_s h1 h2]
    exact h p h1 h2
theorem dKeep_k {S : cS} {L : Nat} {x y : Int32} {f : Nat → Nat → Nat × Value × cS} (h : ∀ i j, kP S (f i j)) : kP S (dKeep S L x y f) := by
  unfold dKeep
  split
  · exact fun z => by cases z
  · exact h _ _
theorem kOk.set {S : cS} (K : kOk S) {r : Nat} {ys : List mIt} (h : kAll ys) : kOk (cSet S r ys) := fun q hq => by
  show kAll (if q = r then ys else S.1 q)
  split
  · exact h
  · exact K q hq
theorem kOk.set2 {S : cS} (K : kOk S) {r : Nat} {ys : List mIt} {v : Value} (h : kAll ys) : kP S (0, v, cAct (cSet S r ys)) := fun _ => K.set h
theorem kOk.set3 {S : cS} (K : kOk S) {r : Nat} {ys : List mIt} {v : Value} {g : Int32} (h : kAll ys) : kP S (0, v, cAct (cGiv (cSet S r ys) g)) := fun _ => K.set h
theorem key_in {x : Int32} (h : keyOk x = true) : kIn x := by
  unfold keyOk at h
  rw [Bool.and_eq_true, Bool.not_eq_true', Bool.not_eq_true', decide_eq_false_iff_not, decide_eq_false_iff_not, Int32.lt_iff_toInt_lt, Int32.lt_iff_toInt_lt] at h
  have e1 : (-99999 : Int32).toInt = -99999 := by decide
  have e2 : (nI 99999).toInt = 99999 := by decide
  rw [e1, e2] at h
  exact ⟨by omega, by omega⟩
theorem rr_le {r : Nat} : rroom r ≤ 320 := by
  unfold rroom
  split <;> omega
theorem kS_clear {S : cS} {row : Int32} (K : kOk S) : kP S (sp_clear S row) := dAt_k (by decide) (fun r hr => K.set2 kAll.nil)
theorem kS_drop {S : cS} {row place : Int32} (hS : lenOk S) (K : kOk S) : kP S (sp_drop S row place) := dAt_k (by decide) (fun r hr => dAt_k (by have := hS.lt hr; omega) (fun p hp => K.set2 ((K r hr).spans.app (K r hr).spans)))
theorem kS_exchange {S : cS} {row place : Int32} (hS : lenOk S) (K : kOk S) : kP S (sp_exchange S row place) := dAt_k (by decide) (fun r hr => dAt_k (by have := hS.lt hr; omega) (fun p hp => K.set2 ((K r hr).swps (by omega) (by omega))))
theorem kS_swap {S : cS} {row place other : Int32} (hS : lenOk S) (K : kOk S) : kP S (sp_swap S row place other) := dAt_k (by decide) (fun r hr => dAt_k (by have := hS.lt hr; omega) (fun p hp => dAt_k (by have := hS.lt hr; omega) (fun q hq => K.set2 ((K r hr).swps hp hq))))
theorem kS_put {S : cS} {row place key : Int32} (hS : lenOk S) (K : kOk S) : kP S (sp_put S row place key) := dAt_k (by decide) (fun r hr => dAt_k (by have := hS.lt hr; omega) (fun p hp => dFit_k (fun hk => K.set3 ((K r hr).sets (key_in hk)))))
theorem kS_add {S : cS} {row key : Int32} (K : kOk S) : kP S (sp_add S row key) := dAt_k (by decide) (fun r hr => dFit_k (fun hk => by
  split
  · exact fun _ => K
  · exact K.set3 ((K r hr).app (kAll.one (key_in hk)))))
theorem kS_roll {S : cS} {row by_ : Int32} (hS : lenOk S) (K : kOk S) : kP S (sp_roll S row by_) := dAt_k (by decide) (fun r hr => dArg_k (by have := hS.lt hr; omega) (fun p hp => K.set2 ((K r hr).spans.app (K r hr).spans)))
theorem kS_keep {S : cS} {row from_ to : Int32} (K : kOk S) : kP S (sp_keep S row from_ to) := dAt_k (by decide) (fun r hr => dKeep_k (fun p t => K.set2 (K r hr).spans))
theorem kS_sort {S : cS} {row : Int32} (K : kOk S) : kP S (sp_sort S row) := dAt_k (by decide) (fun r hr => K.set2 ((K r hr).perm msort_perm))
theorem kS_turn {S : cS} {row : Int32} (K : kOk S) : kP S (sp_turn S row) := dAt_k (by decide) (fun r hr => K.set2 ((K r hr).rvs (Nat.le_refl _)))
theorem kS_copy {S : cS} {row into : Int32} (K : kOk S) : kP S (sp_copy S row into) := dAt_k (by decide) (fun r hr => dAt_k (by decide) (fun q hq => by
  split
  · exact fun _ => K
  · split
    · exact fun _ => K
    · exact K.set3 ((K r hr).bring kAll.nil)))
theorem kS_join {S : cS} {row other : Int32} (K : kOk S) : kP S (sp_join S row other) := dAt_k (by decide) (fun r hr => dAt_k (by decide) (fun q hq => by
  split
  · exact fun _ => K
  · exact K.set3 ((K q hq).bring (K r hr))))
theorem kS_merge {S : cS} {row other : Int32} (K : kOk S) : kP S (sp_merge S row other) := dAt_k (by decide) (fun r hr => dAt_k (by decide) (fun q hq => by
  split
  · exact fun _ => K
  · split
    · exact fun _ => K
    · split
      · exact fun _ => K
      · exact K.set3 ((K q hq).bring (K r hr)).weaves))
theorem kS_fill {S : cS} {row many pattern a b : Int32} (K : kOk S) : kP S (sp_fill S row many pattern a b) := dAt_k (by decide) (fun r hr => dArg_k (by have := @rr_le r; omega) (fun m hm => dArg_k (by decide) (fun p _ => dFit_k (fun ha => dB_k (fun bn h1 h2 => K.set3 (kAll.fill ha (by have := @rr_le r; omega) h1 h2))))))
theorem kOk_0 : kOk cS0 := fun r _ => kAll.nil
/-! the least and the greatest key -/
theorem end_go {xs : List mIt} (hk : kAll xs) : ∀ (d s : Nat) (x : Int32), s + d = xs.length → 0 < s → kIn x → mlp (enS xs false) d s x = mlp (fun i acc => if i = 0 ∨ xk xs i < acc then xk xs i else acc) d s x ∧ mlp (enS xs true) d s x = mlp (fun i acc => if acc < xk xs i then xk xs i else acc) d s x := by
  intro d
  induction d with
  | zero => intro s x _ _ _; exact ⟨rfl, rfl⟩
  | succ d ih =>
    intro s x h h0 hx
    have hs := hk.xks (show s < xs.length by omega)
    have hne : ¬ x = (-100000) := fun z => by
      have h2 := hx.1
      rw [z] at h2
      exact absurd h2 (by decide)
    constructor
    · show mlp (enS xs false) d (s + 1) (enS xs false s x) = mlp _ d (s + 1) (if s = 0 ∨ xk xs s < x then xk xs s else x)
      have e : enS xs false s x = if s = 0 ∨ xk xs s < x then xk xs s else x := by
        unfold enS
        rw [if_neg hne, if_pos rfl]
        by_cases q : xk xs s < x
        · rw [if_pos q, if_pos (Or.inr q)]
        · rw [if_neg q, if_neg (fun z => z.elim (fun w => by omega) q)]
      rw [e]
      refine (ih (s + 1) _ (by omega) (by omega) ?_).1
      split
      · exact hs
      · exact hx
    · show mlp (enS xs true) d (s + 1) (enS xs true s x) = mlp _ d (s + 1) (if x < xk xs s then xk xs s else x)
      have e : enS xs true s x = if x < xk xs s then xk xs s else x := by
        unfold enS
        rw [if_neg hne, if_neg (by decide)]
      rw [e]
      refine (ih (s + 1) _ (by omega) (by omega) ?_).2
      split
      · exact hs
      · exact hx
theorem end_eq {xs : List mIt} (hk : kAll xs) (b : Bool) : mlp (enS xs b) (xs.length - 0) 0 (-100000) = if b = false then q_leastKey xs else q_greatestKey xs := by
  unfold q_leastKey q_greatestKey
  rcases Nat.eq_zero_or_pos xs.length with e | e
  · rw [e]
    cases b <;> rfl
  · have hs := hk.xks e
    obtain ⟨r1, r2⟩ := end_go hk (xs.length - 1) 1 (xk xs 0) (by omega) (by decide) hs
    rw [show xs.length - 0 = (xs.length - 1) + 1 by omega]
    have e1 : ∀ b, enS xs b 0 (-100000) = xk xs 0 := fun b => by unfold enS; exact if_pos rfl
    cases b with
    | false =>
      show mlp _ (xs.length - 1) 1 (enS xs false 0 (-100000)) = mlp _ (xs.length - 1) 1 (if 0 = 0 ∨ xk xs 0 < -100000 then xk xs 0 else -100000)
      rw [e1, if_pos (Or.inl rfl)]
      exact r1
    | true =>
      show mlp _ (xs.length - 1) 1 (enS xs true 0 (-100000)) = mlp _ (xs.length - 1) 1 (if -100000 < xk xs 0 then xk xs 0 else -100000)
      have e3 : (-100000 : Int32).toInt = -100000 := by decide
      rw [e1, if_pos (show (-100000 : Int32) < xk xs 0 by rw [Int32.lt_iff_toInt_lt, e3]; have := hs.1; omega)]
      exact r2
theorem eqV_end {S : cS} {row : Int32} {isGreatest : Bool} (K : kOk S) : vEq (sp_end S row isGreatest) (mp_end S row isGreatest) := dAt_v (by decide) (fun r hr => vEq.of (congrArg Value.int (end_eq (K r hr) isGreatest)))
