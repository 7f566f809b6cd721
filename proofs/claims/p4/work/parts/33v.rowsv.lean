/-! ===== rows for bytes: clone, checkcast; calls of an inherited method ===== -/
section MTV
variable {l : Launch} {M : mM} {R : Room} {K : mK} {pc : Nat} {ls st : List Value} {h : mH} {n cc sc : Nat}
theorem mt_castB {a len index : Nat} {f : Nat → Int32} (hdg : decode M.2.1 pc = .ok (.checkcast index, 3)) (hlk : Cond.classLink M.1.cls index "[B" ∈ mGw) (he : h a = .inl (1, len, f)) (k : mT l M R K (pc + 3) ls (.ref a :: st) h n cc sc) : mT l M R K pc ls (.ref a :: st) h n cc sc := by
  intro p e s m args below meth c G w0 H locs LS ws st' hC hD
  obtain ⟨d1, d2, d3, d4, d5, d6, d7⟩ := hD
  obtain ⟨⟨x, e'⟩, t', h1, rfl, d7b⟩ := d7.ref
  have hr := d1.at h1
  rw [he] at hr
  cases (show e' = .inl (G.2.1 1, len, .inl f) from hr)
  have hC' := hC
  obtain ⟨hx, -, hbb, -, hml, hown, hts, -, -, -, hmS, -⟩ := hC'
  exact va_castA hx hbb hown (hts _ hlk) d2 a h1 (hmS.1.2 1 _ rfl).2 hdg (k p e s m args below meth c G w0 H locs LS ws _ hC ⟨d1, d2, d3, d4, d5, d6, mrl.cons (v := .ref a) (v' := .ref x) ⟨_, h1, rfl⟩ d7b⟩)
theorem mt_cloneB {a len index : Nat} {f : Nat → Int32} (hdg : decode M.2.1 pc = .ok (.invokevirtual index, 3)) (hlk : Cond.methodLink M.1.cls index ⟨"[B", "clone", "()Ljava/lang/Object;"⟩ ∈ mGw) (hsame : Cond.sameMethod "[B" "java/lang/Object" "clone" "()Ljava/lang/Object;" ∈ mGw) (hnat : Cond.native ⟨"java/lang/Object", "clone", "()Ljava/lang/Object;"⟩ ∈ mGw) (hinst : Cond.instanceMethod ⟨"java/lang/Object", "clone", "()Ljava/lang/Object;"⟩ ∈ mGw) (hsel : Cond.selects "[B" ⟨"[B", "clone", "()Ljava/lang/Object;"⟩ ⟨"java/lang/Object", "clone", "()Ljava/lang/Object;"⟩ ∈ mGw) (hcl : Cond.castable "[B" "java/lang/Cloneable" ∈ mNw) (he : h a = .inl (1, len, f)) (hf : bFit f) (hw : (st.map mcw).sum ≤ 8) (hR : 1 ≤ R.frames ∧ 8 + 14 ≤ R.locals) (hcc : cc + 1 ≤ R.cells) (hsc : sc + len ≤ R.slots) (k : mT l M R K (pc + 3) ls (.ref n :: st) (mup h n (.inl (1, len, f))) (n + 1) (cc + 1) (sc + len)) : mT l M R K pc ls (.ref a :: st) h n cc sc := by
  intro p e s m args below meth c G w0 H locs LS ws st' hC hD
  obtain ⟨d1, d2, d3, d4, d5, d6, d7⟩ := hD
  obtain ⟨⟨x, e'⟩, t', h1, rfl, d7b⟩ := d7.ref
  have hr := d1.at h1
  rw [he] at hr
  cases (show e' = .inl (G.2.1 1, len, .inl f) from hr)
  have hC' := hC
  obtain ⟨hx, -, hbb, -, hml, hown, hts, -, -, -, hmS, -⟩ := hC'
  refine va_clone hx hbb (hml.trans d6.choose_spec.1.1.symm) hown (hts _ hlk) (hts _ hsame) (hts _ hnat) (hts _ hinst) (hts _ hsel) (hmS.2.2.2.2.2.1 _ hcl) hmS.1 d2 d3 d4 (fun q hq => Or.inr hq) a 1 (ty := .byte) h1 rfl (hmS.1.2 1 _ rfl).2 (fun i v hv => ?_) hR.1 (Nat.le_trans (Nat.add_le_add_right (Nat.le_trans (mrl.weight d7b) hw) _) hR.2) hcc hsc hdg (fun q H1 g0 g1 g2 g3 => ?_)
  · rw [vp_cell_i] at hv
    obtain ⟨q1, q2⟩ := Array.getElem?_eq_some_iff.mp hv
    have e9 := hv.symm.trans (arrV_read _ (fun j => Value.int (f j)) (by rw [arrV_size] at q1; exact q1))
    cases e9
    exact hf _
  · have hE : mExt ws (ws ++ [(q, .inl (G.2.1 1, len, .inl f))]) := mExt.push
    exact k p e s m args below meth c G w0 H1 locs LS _ _ hC ⟨d1.push rfl, g1, g2, g3, d5.tr hE, d6.mono hE, mrl.cons (d1.pushL rfl) (mrl.mono hE d7b)⟩
end MTV
