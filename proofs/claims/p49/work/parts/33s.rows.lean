/-! ===== rows for this law: the script outside the world, truths in arrays, bits, joins ===== -/
/-- the script is the one of L ints xs -/
def mKs (L : Nat) (xs : Nat → Int32) (K : mK) : mK := fun s args below G w0 t => (G.2.2.2.2.1 = L ∧ G.2.2.2.2.2 = xs) → K s args below G w0 t
section MTS9
variable {l : Launch} {M : mM} {R : Room} {K : mK} {pc : Nat} {ls st : List Value} {h : mH} {n cc sc : Nat} {L : Nat} {xs : Nat → Int32}
theorem mT_ks (k : mT l M R K pc ls st h n cc sc) : mT l M R (mKs L xs K) pc ls st h n cc sc := by
  intro p e s m args below meth c G w0 H locs LS ws st' hC hD T hT X
  obtain ⟨t, a1, a2⟩ := k p e s m args below meth c G w0 H locs LS ws st' hC hD T hT X
  exact ⟨t, a1, fun _ => a2⟩
theorem mt_join {pc2 : Nat} {ls2 st2 : List Value} {h2 : mH} {n2 cc2 sc2 : Nat} (k : mT l M R K pc2 ls2 st2 h2 n2 cc2 sc2) (k2 : mT l M R K pc2 ls2 st2 h2 n2 cc2 sc2 → mT l M R K pc ls st h n cc sc) : mT l M R K pc ls st h n cc sc := k2 k
theorem mt_joinH (S0 : cS) {pc2 : Nat} {ls2 st2 : List Value} {n2 cc2 sc2 : Nat} (k : ∀ h2 : mH, cAt h2 S0 → mT l M R K pc2 ls2 st2 h2 n2 cc2 sc2) (k2 : (∀ h2 : mH, cAt h2 S0 → mT l M R K pc2 ls2 st2 h2 n2 cc2 sc2) → mT l M R K pc ls st h n cc sc) : mT l M R K pc ls st h n cc sc := k2 k
theorem mt_joinS {pc2 : Nat} {ls2 st2 : List Value} {n2 cc2 sc2 : Nat} (k : ∀ (h2 : mH) (S2 : cS), cAt h2 S2 → mT l M R K pc2 ls2 st2 h2 n2 cc2 sc2) (k2 : (∀ (h2 : mH) (S2 : cS), cAt h2 S2 → mT l M R K pc2 ls2 st2 h2 n2 cc2 sc2) → mT l M R K pc ls st h n cc sc) : mT l M R K pc ls st h n cc sc := k2 k
theorem mt_joinN {α : Type} {P : α → Prop} {pc2 : Nat} {ls2 st2 : α → List Value} {h2 : mH} {n2 cc2 sc2 : Nat} (k : ∀ v : α, P v → mT l M R K pc2 (ls2 v) (st2 v) h2 n2 cc2 sc2) (k2 : (∀ v : α, P v → mT l M R K pc2 (ls2 v) (st2 v) h2 n2 cc2 sc2) → mT l M R K pc ls st h n cc sc) : mT l M R K pc ls st h n cc sc := k2 k
theorem mt_joinW {pc2 : Nat} {ls2 st2 : List Value} {cc2 sc2 : Nat} (k : ∀ (h2 : mH) (n2 : Nat) (S2 : cS), cAt h2 S2 → 27 ≤ n2 → mT l M R K pc2 ls2 st2 h2 n2 cc2 sc2) (k2 : (∀ (h2 : mH) (n2 : Nat) (S2 : cS), cAt h2 S2 → 27 ≤ n2 → mT l M R K pc2 ls2 st2 h2 n2 cc2 sc2) → mT l M R K pc ls st h n cc sc) : mT l M R K pc ls st h n cc sc := k2 k
theorem mx_slen (hdg : decode M.2.1 pc = .ok (.arraylength, 1)) (k : L < 2 ^ 31 → mT l M R (mKs L xs K) (pc + 1) ls (.int (nI L) :: st) h n cc sc) : mT l M R (mKs L xs K) pc ls (.retAddr 0 :: st) h n cc sc := by
  intro p e s m args below meth c G w0 H locs LS ws st' hC hD
  by_cases q : G.2.2.2.2.1 = L ∧ G.2.2.2.2.2 = xs
  · obtain ⟨d1, d2, d3, d4, d5, d6, d7⟩ := hD
    obtain ⟨v', t', rfl, hv, d7a⟩ := d7
    obtain rfl : v' = .ref (G.2.2.2.1 0) := hv
    have hC' := hC
    obtain ⟨hx0, -, hb, -, -, hown, hts, -, -, -, hmS, hmZ, -⟩ := hC'
    have hT := hmZ.2.2.2
    rw [q.1, q.2] at hT
    exact va_tlen hx0 hb hT.1 d4 (v := nI L) rfl hdg (k hT.2 p e s m args below meth c G w0 H locs LS ws _ hC ⟨d1, d2, d3, d4, d5, d6, ⟨_, _, rfl, rfl, d7a⟩⟩)
  · intro T hT X
    exact ⟨_, Steps.refl _, fun z => absurd z q⟩
theorem mx_sld {j : Nat} (hdg : decode M.2.1 pc = .ok (.iaload, 1)) (hj : j < L) (hL : L < 2 ^ 31) (k : mT l M R (mKs L xs K) (pc + 1) ls (.int (xs j) :: st) h n cc sc) : mT l M R (mKs L xs K) pc ls (.int (nI j) :: .retAddr 0 :: st) h n cc sc := by
  intro p e s m args below meth c G w0 H locs LS ws st' hC hD
  by_cases q : G.2.2.2.2.1 = L ∧ G.2.2.2.2.2 = xs
  · obtain ⟨d1, d2, d3, d4, d5, d6, d7⟩ := hD
    obtain ⟨t1, rfl, d7b⟩ := d7.int
    obtain ⟨v', t', rfl, hv, d7a⟩ := d7b
    obtain rfl : v' = .ref (G.2.2.2.1 0) := hv
    have hC' := hC
    obtain ⟨hx0, -, hb, -, -, hown, hts, -, -, -, hmS, hmZ, -⟩ := hC'
    have hT := hmZ.2.2.2
    rw [q.1, q.2] at hT
    exact va_ti hx0 hb hT.1 d4 (vp_in_nI hj hL) (v := .int (xs j)) (by rw [nI_clamp (by omega)]) hdg (k p e s m args below meth c G w0 H locs LS ws _ hC ⟨d1, d2, d3, d4, d5, d6, ⟨_, _, rfl, rfl, d7a⟩⟩)
  · intro T hT X
    exact ⟨_, Steps.refl _, fun z => absurd z q⟩
theorem mt_ixor {x y : Int32} (hdg : decode M.2.1 pc = .ok (.ixor, 1)) (k : mT l M R K (pc + 1) ls (.int (x ^^^ y) :: st) h n cc sc) : mT l M R K pc ls (.int y :: .int x :: st) h n cc sc := mt_lift k (fun _ _ _ hx hb hr => by
  obtain ⟨_, rfl, hr2⟩ := hr.int
  obtain ⟨_, rfl, hr3⟩ := hr2.int
  exact ⟨_, mrl.cons (v' := .int (x ^^^ y)) rfl hr3, lv_ixor hx hb hdg⟩)
theorem ush9 (x : Int32) : ∃ j : Nat, j < 2 ^ 23 ∧ (x.toUInt32 >>> ((nI 9).toUInt32 &&& Int32.toUInt32 31)).toInt32 = nI j := by
  have e : ((nI 9).toUInt32 &&& Int32.toUInt32 31) = (9 : UInt32) := by decide
  rw [e]
  refine ⟨(x.toUInt32 >>> (9 : UInt32)).toNat, ?_, ?_⟩
  · have h1 := UInt32.toNat_lt x.toUInt32
    rw [UInt32.toNat_shiftRight]
    have h2 : (9 : UInt32).toNat % 32 = 9 := by decide
    rw [h2, Nat.shiftRight_eq_div_pow]
    omega
  · apply Int32.toBitVec_inj.mp
    apply BitVec.eq_of_toNat_eq
    have h1 := UInt32.toNat_lt (x.toUInt32 >>> (9 : UInt32))
    have h2 : (nI (x.toUInt32 >>> (9 : UInt32)).toNat).toBitVec.toNat = (x.toUInt32 >>> (9 : UInt32)).toNat % 2 ^ 32 := BitVec.toNat_ofNat ..
    rw [h2, Nat.mod_eq_of_lt h1]
    rfl
theorem mt_iushr9 {x : Int32} (hdg : decode M.2.1 pc = .ok (.iushr, 1)) (k : ∀ j : Nat, j < 2 ^ 23 → mT l M R K (pc + 1) ls (.int (nI j) :: st) h n cc sc) : mT l M R K pc ls (.int (nI 9) :: .int x :: st) h n cc sc := by
  obtain ⟨j, hj, e⟩ := ush9 x
  exact mt_lift (k j hj) (fun _ _ _ hx hb hr => by
    obtain ⟨_, rfl, hr2⟩ := hr.int
    obtain ⟨_, rfl, hr3⟩ := hr2.int
    exact ⟨_, mrl.cons (v' := .int (nI j)) rfl hr3, lv_iushr hx hb hdg e⟩)
theorem mt_zaload {a len j : Nat} {f : Nat → Int32} (hdg : decode M.2.1 pc = .ok (.baload, 1)) (he : h a = .inl (3, len, f)) (hj : j < len) (hL : len < 2 ^ 31) (k : mT l M R K (pc + 1) ls (.int (f j) :: st) h n cc sc) : mT l M R K pc ls (.int (nI j) :: .ref a :: st) h n cc sc := by
  intro p e s m args below meth c G w0 H locs LS ws st' hC hD
  obtain ⟨d1, d2, d3, d4, d5, d6, d7⟩ := hD
  obtain ⟨t1, rfl, d7a⟩ := d7.int
  obtain ⟨⟨x, e'⟩, t', h1, rfl, d7b⟩ := d7a.ref
  have hr := d1.at h1
  rw [he] at hr
  cases (show e' = .inl (G.2.1 3, len, .inl f) from hr)
  have kk := k p e s m args below meth c G w0 H locs LS ws (.int (f j) :: t') hC ⟨d1, d2, d3, d4, d5, d6, mrl.cons (v' := .int (f j)) rfl d7b⟩
  refine va_zald hC.1 hC.2.2.1 hC.2.2.2.2.2.2.2.2.2.2.1.1 d2 a 3 h1 rfl (vp_in_nI hj hL) hdg ?_
  rw [nI_clamp (Nat.lt_trans hj hL)]
  exact kk
theorem mt_zastore {a len j : Nat} {x : Int32} {f : Nat → Int32} (hdg : decode M.2.1 pc = .ok (.bastore, 1)) (he : h a = .inl (3, len, f)) (hj : j < len) (hL : len < 2 ^ 31) (k : mT l M R K (pc + 1) ls st (mup h a (.inl (3, len, upd f j (vp_nar .boolean x)))) n cc sc) : mT l M R K pc ls (.int x :: .int (nI j) :: .ref a :: st) h n cc sc := by
  intro p e s m args below meth c G w0 H locs LS ws st' hC hD
  obtain ⟨d1, d2, d3, d4, d5, d6, d7⟩ := hD
  obtain ⟨t0, rfl, d70⟩ := d7.int
  obtain ⟨t1, rfl, d7a⟩ := d70.int
  obtain ⟨⟨y, e'⟩, t', h1, rfl, d7b⟩ := d7a.ref
  have hr := d1.at h1
  rw [he] at hr
  cases (show e' = .inl (G.2.1 3, len, .inl f) from hr)
  refine va_zast hC.1 hC.2.2.1 hC.2.2.2.2.2.2.2.2.2.2.1.1 d2 d3 d4 a 3 h1 rfl (vp_in_nI hj hL) hdg (fun H1 locs1 g1 g2 g3 => ?_)
  rw [nI_clamp (Nat.lt_trans hj hL)] at g1 g2
  have hE := mExt.set (e := .inl (G.2.1 3, len, .inl (upd f j (vp_nar .boolean x)))) h1
  exact k p e s m args below meth c G w0 H1 locs1 LS _ _ hC ⟨d1.set h1 rfl, g1, g2, g3, d5.tr hE, d6.mono hE, d7b.mono hE⟩
theorem mt_newarrayZ {len : Nat} (hdg : decode M.2.1 pc = .ok (.newarray .boolean, 2)) (harr : Cond.arrayClass .boolean ∈ mGw) (hL : len < 2 ^ 27) (hcc : cc + 1 ≤ R.cells) (hsc : sc + len ≤ R.slots) (k : mT l M R K (pc + 2) ls (.ref n :: st) (mup h n (.inl (3, len, fun _ => 0))) (n + 1) (cc + 1) (sc + len)) : mT l M R K pc ls (.int (nI len) :: st) h n cc sc := by
  intro p e s m args below meth c G w0 H locs LS ws st' hC hD
  obtain ⟨d1, d2, d3, d4, d5, d6, d7⟩ := hD
  obtain ⟨t1, rfl, d7a⟩ := d7.int
  have hC' := hC
  obtain ⟨hx0, -, hb, -, -, hown, hts, -, -, -, hmS, -⟩ := hC'
  refine va_newa (atype := .boolean) (ty := .boolean) (a0 := (len, .inl (fun _ => 0))) hx0 hb (hts _ harr) rfl hmS.1 d2 d3 d4 (fun q hq => Or.inr hq) (fun _ => rfl) (nI_pos (by omega)) (nI_clamp (by omega)) (by show len * 1 ≤ _; omega) hcc hsc hdg (fun q cA H1 g0 g1 g2 g3 => ?_)
  have hcA : cA = G.2.1 3 := by
    have h1 := (g0.2 (mTy G.2.1).length _ (by rw [List.getElem?_append_right (Nat.le_refl _), Nat.sub_self]; rfl)).2
    have h2 := (hmS.1.2 3 _ rfl).2
    exact Option.some.inj (Eq.trans (Eq.symm h1) h2)
  subst hcA
  have hE : mExt ws (ws ++ [(q, .inl (G.2.1 3, len, .inl (fun _ => 0)))]) := mExt.push
  exact k p e s m args below meth c G w0 H1 locs LS _ _ hC ⟨d1.push rfl, g1, g2, g3, d5.tr hE, d6.mono hE, mrl.cons (d1.pushL rfl) (d7a.mono hE)⟩
theorem mp_zastore {a len j : Nat} {x : Int32} {f : Nat → Int32} (hdg : decode M.2.1 pc = .ok (.bastore, 1)) (he : h a = .inl (3, len, f)) (hj : j < len) (hL : len < 2 ^ 31) (k : ∀ h1 : mH, h1 a = .inl (3, len, upd f j (vp_nar .boolean x)) → (∀ j, j ≠ a → h1 j = h j) → mT l M R K (pc + 1) ls st h1 n cc sc) : mT l M R K pc ls (.int x :: .int (nI j) :: .ref a :: st) h n cc sc := mt_zastore hdg he hj hL (k _ mup_s (fun _ q => mup_n q))
theorem mp_newarrayZ {len : Nat} (hdg : decode M.2.1 pc = .ok (.newarray .boolean, 2)) (harr : Cond.arrayClass .boolean ∈ mGw) (hL : len < 2 ^ 27) (hcc : cc + 1 ≤ R.cells) (hsc : sc + len ≤ R.slots) (k : ∀ h1 : mH, h1 n = .inl (3, len, fun _ => 0) → (∀ j, j ≠ n → h1 j = h j) → mT l M R K (pc + 2) ls (.ref n :: st) h1 (n + 1) (cc + 1) (sc + len)) : mT l M R K pc ls (.int (nI len) :: st) h n cc sc := mt_newarrayZ hdg harr hL hcc hsc (k _ mup_s (fun _ q => mup_n q))
theorem mt_mabs {x v : Int32} {index : Nat} (hdg : decode M.2.1 pc = .ok (.invokestatic index, 3)) (hlk : Cond.methodLink M.1.cls index Lib.Math.abs.name ∈ mGw) (hst : Cond.static Lib.Math.abs.name ∈ mGw) (hini : Cond.initialized "java/lang/Math" ∈ mGw) (hco : Cond.code Lib.Math.abs.name Lib.Math.abs.code 1 (some .int) ∈ mGw) (hw : (st.map mcw).sum ≤ 8) (hR : 1 ≤ R.frames ∧ 21 ≤ R.locals) (hcc : cc ≤ R.cells) (hsc : sc ≤ R.slots) (hv : (if 0 ≤ x then x else 0 - x) = v) (k : mT l M R K (pc + 3) ls (.int v :: st) h n cc sc) : mT l M R K pc ls (.int x :: st) h n cc sc := by
  intro p e s m args below meth c G w0 H locs LS ws st' hC hD
  obtain ⟨d1, d2, d3, d4, d5, d6, d7⟩ := hD
  obtain ⟨t1, rfl, d7b⟩ := d7.int
  have hC' := hC
  obtain ⟨hx, -, hb, -, hml, hown, hts, -⟩ := hC'
  subst hv
  exact va_mabs hx hb (hml.trans d6.choose_spec.1.1.symm) hown (hts _ hlk) (hts _ hst) (hts _ hini) (hts _ hco) hR.1 (Nat.le_trans (Nat.add_le_add_right (Nat.le_trans d7b.weight hw) 13) hR.2) hcc hsc hdg (k p e s m args below meth c G w0 H locs LS ws _ hC ⟨d1, d2, d3, d4, d5, d6, mrl.cons (v' := .int _) rfl d7b⟩)
end MTS9
theorem mw_abs : Cond.code Lib.Math.abs.name Lib.Math.abs.code 1 (some .int) ∈ mGw := mGw_of (by decide +kernel) rfl
set_option maxHeartbeats 1000000 in
/-- entry of a method that reads the script -/
theorem mm_enterS {l : Launch} {M : mM} {R : Room} {av : List Value} {h : mH} {n : Nat} {Φ : Option Value → mH → Nat → Prop} {X : String → mH → Nat → Prop} (hl : l.stackTraces = false) (hy : plainName M.1.cls = true) (ht : M.2.2.2.2.1 = []) (hs : M.2.2.2.2.2 = false) (ha : av.all mc1 = true) (hn : av.length ≤ M.2.2.1)
    (k : ∀ (L : Nat) (xs : Nat → Int32), mT l M R (mKs L xs (mKo R Φ X)) 0 (mUn av M.2.2.1) [] h n 0 0) : mC l M R av h n Φ X := by
  intro G ws sz vs hW hv
  have ew : mWs M = .code M.1 M.2.1 M.2.2.1 M.2.2.2.1 :: mGw := by unfold mWs mWd; rw [ht]
  refine vx_ofW (cc := M.2.1) (maxL := M.2.2.1) (ret := M.2.2.2.1) hy ew ?_
  intro p e s m args below meth c s₁ B hml hx0 hP
  obtain ⟨rfl, rfl, hP, hD, hS, hZ⟩ := hP
  have hts : ∀ w ∈ mGw, w.before vs.toArray s = true := fun w hw => atoms_spec (ws := mWs M) B.pre w (List.mem_cons_of_mem _ hw)
  have htab : c.exceptionTable.toList = tableOf M.2.2.2.2.1 := by
    rw [ht]
    match hq : c.exceptionTable.toList with
    | [] => rfl
    | x :: _ => exact (hx0 x (by rw [hq]; exact List.mem_cons_self)).elim
  rw [lg_entry_eq]
  intro T hT X9
  obtain ⟨t, a1, a2⟩ := k G.2.2.2.2.1 G.2.2.2.2.2 p e s m vs.toArray below meth c G ws s.heap [] _ ws [] ⟨B.exec, hl, B.bytes, B.returns, hml, findClass_of_methodNamed B.named, hts, B.notSynchronized, (name_of_methodNamed B.named B.method).1, htab, hS, hZ, fun q => by rw [hs] at q; cases q⟩
    ⟨hW, hP, hD.self, va_S.rf, mExt.rf, mL.entry hv ha hn, rfl⟩ T hT X9
  exact ⟨t, a1, a2 ⟨rfl, rfl⟩⟩
