/-! ===== rows for bytes: copies; calls on what lies outside; calls of an inherited method ===== -/
def bFit (f : Nat → Int32) : Prop := ∀ i, fits .byte (.int (f i)) = true
section MTU
variable {l : Launch} {M : mM} {R : Room} {K : mK} {pc : Nat} {ls st : List Value} {h : mH} {n cc sc : Nat}
theorem mt_acopyB {a b la lb sp dp cnt index : Nat} {f g : Nat → Int32} (hdg : decode M.2.1 pc = .ok (.invokestatic index, 3)) (hlk : Cond.methodLink M.1.cls index arraycopyName ∈ mGw) (hnat : Cond.native arraycopyName ∈ mGw) (hst : Cond.static arraycopyName ∈ mGw) (hini : Cond.initialized "java/lang/System" ∈ mGw) (ha : h a = .inl (1, la, f)) (hb : h b = .inl (1, lb, g)) (hf : bFit f) (h4 : sp + cnt ≤ la) (h5 : dp + cnt ≤ lb) (hla : la < 2 ^ 31) (hlb : lb < 2 ^ 31) (hw : (st.map mcw).sum ≤ 8) (hR : 1 ≤ R.frames ∧ 8 + 18 ≤ R.locals) (k : mT l M R K (pc + 3) ls st (mup h b (.inl (1, lb, va_cpy f g sp dp cnt))) n cc sc) : mT l M R K pc ls (.int (nI cnt) :: .int (nI dp) :: .ref b :: .int (nI sp) :: .ref a :: st) h n cc sc := by
  intro p e s m args below meth c G w0 H locs LS ws st' hC hD
  obtain ⟨d1, d2, d3, d4, d5, d6, d7⟩ := hD
  obtain ⟨t1, rfl, d7a⟩ := d7.int
  obtain ⟨t2, rfl, d7b⟩ := d7a.int
  obtain ⟨⟨yb, eb⟩, t3, hwb, rfl, d7c⟩ := d7b.ref
  obtain ⟨t4, rfl, d7d⟩ := d7c.int
  obtain ⟨⟨ya, ea⟩, t5, hwa, rfl, d7e⟩ := d7d.ref
  have hra := d1.at hwa
  rw [ha] at hra
  cases (show ea = .inl (G.2.1 1, la, .inl f) from hra)
  have hrb := d1.at hwb
  rw [hb] at hrb
  cases (show eb = .inl (G.2.1 1, lb, .inl g) from hrb)
  have hC' := hC
  obtain ⟨hx, -, hbb, -, hml, hown, hts, -, -, -, hmS, -⟩ := hC'
  have e1 : (nI sp).toNatClampNeg = sp := nI_clamp (by omega)
  have e2 : (nI dp).toNatClampNeg = dp := nI_clamp (by omega)
  have e3 : (nI cnt).toNatClampNeg = cnt := nI_clamp (by omega)
  refine va_copyi hx hbb (hml.trans d6.choose_spec.1.1.symm) hown (hts _ hlk) (hts _ hnat) (hts _ hst) (hts _ hini) hmS.1 d2 d3 d4 a b 1 1 (ty := .byte) hwa hwb rfl rfl rfl (nI_pos (by omega)) (nI_pos (by omega)) (nI_pos (by omega)) (by rw [e1, e3]; exact h4) (by rw [e2, e3]; exact h5) (fun _ _ => hf _) hR.1 (Nat.le_trans (Nat.add_le_add_right (Nat.le_trans d7e.weight hw) _) hR.2) hdg (fun H1 locs1 g1 g2 g3 => ?_)
  rw [e1, e2, e3] at g1 g2
  have hE := mExt.set (e := .inl (G.2.1 1, lb, .inl (va_cpy f g sp dp cnt))) hwb
  exact k p e s m args below meth c G w0 H1 locs1 LS _ _ hC ⟨d1.set hwb rfl, g1, g2, g3, d5.tr hE, d6.mono hE, d7e.mono hE⟩
/-- out of the text " ": its one byte -/
theorem mt_xcopy {b lb dp index : Nat} {g : Nat → Int32} (hdg : decode M.2.1 pc = .ok (.invokestatic index, 3)) (hlk : Cond.methodLink M.1.cls index arraycopyName ∈ mGw) (hnat : Cond.native arraycopyName ∈ mGw) (hst : Cond.static arraycopyName ∈ mGw) (hini : Cond.initialized "java/lang/System" ∈ mGw) (hb : h b = .inl (1, lb, g)) (h5 : dp + 1 ≤ lb) (hlb : lb < 2 ^ 31) (hw : (st.map mcw).sum ≤ 8) (hR : 1 ≤ R.frames ∧ 8 + 18 ≤ R.locals) (k : ∀ f : Nat → Int32, fits .byte (.int (f 0)) = true → mT l M R K (pc + 3) ls st (mup h b (.inl (1, lb, va_cpy f g 0 dp 1))) n cc sc) : mT l M R K pc ls (.int (nI 1) :: .int (nI dp) :: .ref b :: .int (nI 0) :: .retAddr 2 :: st) h n cc sc := by
  intro p e s m args below meth c G w0 H locs LS ws st' hC hD
  obtain ⟨d1, d2, d3, d4, d5, d6, d7⟩ := hD
  obtain ⟨t1, rfl, d7a⟩ := d7.int
  obtain ⟨t2, rfl, d7b⟩ := d7a.int
  obtain ⟨⟨yb, eb⟩, t3, hwb, rfl, d7c⟩ := d7b.ref
  obtain ⟨t4, rfl, d7d⟩ := d7c.int
  obtain ⟨v', t5, rfl, hv, d7e⟩ := d7d
  obtain rfl : v' = .ref (G.2.2.2.1 2) := hv
  have hrb := d1.at hwb
  rw [hb] at hrb
  cases (show eb = .inl (G.2.1 1, lb, .inl g) from hrb)
  have hC' := hC
  obtain ⟨hx, -, hbb, -, hml, hown, hts, -, -, -, hmS, hmZ, -⟩ := hC'
  obtain ⟨f, hT, hfit⟩ := hmZ.2.2.2.2.2.2.2.2.2.2
  have e1 : (nI 0).toNatClampNeg = 0 := nI_clamp (by omega)
  have e2 : (nI dp).toNatClampNeg = dp := nI_clamp (by omega)
  have e3 : (nI 1).toNatClampNeg = 1 := nI_clamp (by omega)
  refine vk_copyt hx hbb (hml.trans d6.choose_spec.1.1.symm) hown (hts _ hlk) (hts _ hnat) (hts _ hst) (hts _ hini) hmS.1 d2 d3 d4 hT b 1 hwb rfl (nI_pos (by omega)) (nI_pos (by omega)) (nI_pos (by omega)) (by rw [e1, e3]; exact Nat.le_refl _) (by rw [e2, e3]; exact h5) (fun i hi => by rw [e3] at hi; obtain rfl : i = 0 := (by omega); rw [e1]; exact hfit) hR.1 (Nat.le_trans (Nat.add_le_add_right (Nat.le_trans (mrl.weight d7e) hw) _) hR.2) hdg (fun H1 locs1 g1 g2 g3 => ?_)
  rw [e1, e2, e3] at g1 g2
  have hE := mExt.set (e := .inl (G.2.1 1, lb, .inl (va_cpy f g 0 dp 1))) hwb
  exact k f hfit p e s m args below meth c G w0 H1 locs1 LS _ _ hC ⟨d1.set hwb rfl, g1, g2, g3, d5.tr hE, d6.mono hE, mrl.mono hE d7e⟩
/-- a call of a method of String on the text " " -/
theorem mt_callX {N : mM} {Rc : Room} {As stk : List Value} {index : Nat} {Φ : Option Value → mH → Nat → Prop} {X : String → mH → Nat → Prop}
    (hdg : decode M.2.1 pc = .ok (.invokevirtual index, 3)) (hCt : mC l N Rc (.retAddr 1 :: As) h n Φ X) (hN : mV N As.length) (hlk : Cond.methodLink M.1.cls index N.1 ∈ mGw) (hcn : N.1.cls = "java/lang/String") (hst : stk = As.reverse ++ .retAddr 1 :: st) (hw : (st.map mcw).sum ≤ 8) (hR : mRm R Rc N cc sc)
    (k : ∀ v h' n', Φ v h' n' → mT l M R K (pc + 3) ls (v.toList ++ st) h' n' (cc + Rc.cells) (sc + Rc.slots)) (kx : ∀ E h' n', X E h' n' → mTX l M R K pc ls E h' n' (cc + Rc.cells) (sc + Rc.slots)) : mT l M R K pc ls stk h n cc sc := by
  intro p e s m args below meth c G w0 H locs LS ws st' hC hD
  subst hst
  obtain ⟨d1, d2, d3, d4, d5, d6, d7⟩ := hD
  obtain ⟨sa, sb, rfl, s1, s2⟩ := mrl.split d7
  obtain ⟨v', t', rfl, hv, s3⟩ := s2
  obtain rfl : v' = .ref (G.2.2.2.1 1) := hv
  have hav : mrl G.2.2.2.1 ws (.retAddr 1 :: As) (.ref (G.2.2.2.1 1) :: sa.reverse) := mrl.cons rfl (by have := s1.rev; rwa [List.reverse_reverse] at this)
  have hC' := hC
  obtain ⟨hx, -, hbb, -, hml, hown, hts, -, -, -, hmS, hmZ, -⟩ := hC'
  obtain ⟨n1, n2, n3, n4, n5, n6⟩ := hN
  obtain ⟨cell, r1, r2, r3, -⟩ := hmZ.2.2.2.2.2.2.2.1.kept d4.2.1
  have hrev : sa ++ (Value.ref (G.2.2.2.1 1) :: t') = sa.reverse.reverse ++ (Value.ref (G.2.2.2.1 1) :: t') := by rw [List.reverse_reverse]
  have run := vx_runV (R := R) (locs := locs) (cells := cc) (slots := sc) (C := "java/lang/String") (As := sa.reverse) (rest := t') (g := F0 m pc LS (sa ++ (Value.ref (G.2.2.2.1 1) :: t'))) ⟨hx, hbb, hml, hown, hts⟩ (hCt G ws H.size _ d1 hav)
    (n := As.length) (index := index) (own := M.1.cls) (ret := N.2.2.2.1) (bytes := N.2.1) (maxL := N.2.2.1)
    ⟨callB_of As.length hts (mGoodG n1) (mWs_nil n6) rfl rfl (hts _ n4) (hts _ hlk) n5 hR.1, hts _ n2, by rw [← hcn]; exact hts _ n3⟩
    (b := G.2.2.2.1 1) ⟨mPc.blind, ⟨cell, r1, r2, r3⟩, mPc_at hC d2 d3 d4⟩ rfl (by rw [List.length_reverse, s1.len, List.length_reverse]) d6.choose_spec.1.1 hrev (lv_room (Nat.le_trans (mrl.weight s3) hw)) hdg hR.2 (e := e) (below := below) (meth := meth)
  exact mt_back hC ⟨d1, d2, d3, d4, d5, d6, s3⟩ run k kx
end MTU
