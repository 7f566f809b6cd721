/-! ===== rows of the logic: the heap ===== -/
def mfit : FieldType → Value → Bool
  | .int, .int _ => true
  | .long, .long _ => true
  | .boolean, .int x => x == 0 || x == 1
  | .object _, .null => true
  | .array _, .null => true
  | .object _, v => mir v
  | .array _, v => mir v
  | _, _ => false
theorem mfit_ok {ty : FieldType} {b : Nat → Nat} {ws : va_W} {v v' : Value} (hf : mfit ty v = true) (h : mrv b ws v v') : narrow ty v' = v' ∧ fits ty v' = true := by
  cases ty with
  | int =>
    cases v with
    | int x => cases (show v' = .int x from h); exact ⟨rfl, rfl⟩
    | _ => cases hf
  | long =>
    cases v with
    | long x => cases (show v' = .long x from h); exact ⟨rfl, rfl⟩
    | _ => cases hf
  | boolean =>
    cases v with
    | int x =>
      cases (show v' = .int x from h)
      simp only [mfit, Bool.or_eq_true, beq_iff_eq] at hf
      rcases hf with rfl | rfl <;> exact ⟨rfl, rfl⟩
    | _ => cases hf
  | object C =>
    cases v with
    | null => cases (show v' = .null from h); exact ⟨rfl, rfl⟩
    | ref k => obtain ⟨q, rfl⟩ := h.ir rfl; exact ⟨rfl, rfl⟩
    | float k => obtain ⟨q, rfl⟩ := h.ir rfl; exact ⟨rfl, rfl⟩
    | retAddr k => obtain ⟨q, rfl⟩ := h.ir rfl; exact ⟨rfl, rfl⟩
    | _ => cases hf
  | array C =>
    cases v with
    | null => cases (show v' = .null from h); exact ⟨rfl, rfl⟩
    | ref k => obtain ⟨q, rfl⟩ := h.ir rfl; exact ⟨rfl, rfl⟩
    | float k => obtain ⟨q, rfl⟩ := h.ir rfl; exact ⟨rfl, rfl⟩
    | retAddr k => obtain ⟨q, rfl⟩ := h.ir rfl; exact ⟨rfl, rfl⟩
    | _ => cases hf
  | _ => cases v <;> cases hf
theorem mrv.rf {b : Nat → Nat} {ws : va_W} {r r' : Option Nat} (h : mro ws r r') : mrv b ws (va_rf r) (va_rf r') := by
  cases r with
  | none => cases (show r' = none from h); rfl
  | some k => obtain ⟨e, h1, rfl⟩ := h; exact ⟨e, h1, rfl⟩
/-- which class a cell's object is of, by its number in vwCl -/
def mCl (ci : Nat) (C : String) (T : u_T) (N : Nat) (ty0 : Nat → FieldType) : Prop := vwCl[ci]? = some (C, T, N) ∧ (∀ w ∈ u_ws C T N, w ∈ mGw) ∧ (∀ k, k < N → parseFieldDescriptor (T k).2.2.1 = some (ty0 k)) ∧ ∀ a, a < N → ∀ b, b < N → a ≠ b → (T a).2.1 ≠ (T b).2.1
section MTB
variable {l : Launch} {M : mM} {R : Room} {K : mK} {pc : Nat} {ls st : List Value} {h : mH} {n cc sc : Nat}
theorem mt_getfield {a ci i : Nat} {C : String} {T : u_T} {N index : Nat} {ty0 : Nat → FieldType} {fs : List Value} {v : Value} (hc : mCl ci C T N ty0) (hk : i < N) (hlink : Cond.fieldLink M.1.cls index (T i).1 (T i).2.1 (T i).2.2.1 ∈ mGw) (hdg : decode M.2.1 pc = .ok (.getfield index, 3)) (he : h a = .inr (.inr (ci, fs))) (hv : fs[i]? = some v) (k : mT l M R K (pc + 3) ls (v :: st) h n cc sc) : mT l M R K pc ls (.ref a :: st) h n cc sc := by
  intro p e s m args below meth c G w0 H locs LS ws st' hC hD
  obtain ⟨d1, d2, d3, d4, d5, d6, d7⟩ := hD
  obtain ⟨⟨x, e'⟩, t', h1, rfl, d7a⟩ := d7.ref
  have hr := d1.at h1
  rw [he] at hr
  obtain ⟨fs', rfl, h3⟩ := hr
  obtain ⟨v', h4, h5⟩ := h3.get hv
  have hC' := hC
  obtain ⟨hx, -, hb, -, -, hown, hts, -, -, -, hmS, -⟩ := hC'
  exact va_get hx hb hts hc.2.1 hown hmS.1 d2 a h1 hc.1 i hk (hts _ hlink) (fun _ q => q) h4 hdg (k p e s m args below meth c G w0 H locs LS ws _ hC ⟨d1, d2, d3, d4, d5, d6, mrl.cons h5 d7a⟩)
theorem mt_putfield {a ci i : Nat} {C : String} {T : u_T} {N index : Nat} {ty0 : Nat → FieldType} {fs : List Value} {v : Value} (hc : mCl ci C T N ty0) (hk : i < N) (hlink : Cond.fieldLink M.1.cls index (T i).1 (T i).2.1 (T i).2.2.1 ∈ mGw) (hfin : (T i).2.2.2 = false) (hdg : decode M.2.1 pc = .ok (.putfield index, 3)) (he : h a = .inr (.inr (ci, fs))) (hl : i < fs.length) (hf : mfit (ty0 i) v = true) (k : mT l M R K (pc + 3) ls st (mup h a (.inr (.inr (ci, fs.set i v)))) n cc sc) : mT l M R K pc ls (v :: .ref a :: st) h n cc sc := by
  intro p e s m args below meth c G w0 H locs LS ws st' hC hD
  obtain ⟨d1, d2, d3, d4, d5, d6, d7⟩ := hD
  obtain ⟨v', t1, rfl, hv', d7⟩ := d7
  obtain ⟨⟨x, e'⟩, t', h1, rfl, d7a⟩ := d7.ref
  have hr := d1.at h1
  rw [he] at hr
  obtain ⟨fs', rfl, h3⟩ := hr
  have hC' := hC
  obtain ⟨hx, -, hb, -, -, hown, hts, -, -, -, hmS, -⟩ := hC'
  obtain ⟨f1, f2⟩ := mfit_ok hf hv'
  refine va_put hx hb hts hc.2.1 ty0 hc.2.2.1 hc.2.2.2 hown hmS.1 d2 d3 d4 a h1 hc.1 i hk (hts _ hlink) (fun _ q => q) hfin (hc.2.2.1 i hk) f1 f2 (by rw [h3.len]; exact hl) hdg (fun H1 locs1 g1 g2 g3 => ?_)
  have hE := mExt.set (e := .inr (ci, fs'.set i v')) h1
  exact k p e s m args below meth c G w0 H1 locs1 LS _ _ hC ⟨d1.set h1 ⟨_, rfl, h3.set hv'⟩, g1, g2, g3, d5.tr hE, d6.mono hE, d7a.mono hE⟩
theorem mt_putfieldN {a ci i : Nat} {C host : String} {T : u_T} {N index : Nat} {ty0 : Nat → FieldType} {fs : List Value} {v : Value} (hc : mCl ci C T N ty0) (hk : i < N) (hlink : Cond.fieldLinkNest M.1.cls index (T i).1 (T i).2.1 (T i).2.2.1 host ∈ mNw) (hfin : (T i).2.2.2 = false) (hdg : decode M.2.1 pc = .ok (.putfield index, 3)) (he : h a = .inr (.inr (ci, fs))) (hl : i < fs.length) (hf : mfit (ty0 i) v = true) (k : mT l M R K (pc + 3) ls st (mup h a (.inr (.inr (ci, fs.set i v)))) n cc sc) : mT l M R K pc ls (v :: .ref a :: st) h n cc sc := by
  intro p e s m args below meth c G w0 H locs LS ws st' hC hD
  obtain ⟨d1, d2, d3, d4, d5, d6, d7⟩ := hD
  obtain ⟨v', t1, rfl, hv', d7⟩ := d7
  obtain ⟨⟨x, e'⟩, t', h1, rfl, d7a⟩ := d7.ref
  have hr := d1.at h1
  rw [he] at hr
  obtain ⟨fs', rfl, h3⟩ := hr
  have hC' := hC
  obtain ⟨hx, -, hb, -, -, hown, hts, -, -, -, hmS, -⟩ := hC'
  obtain ⟨f1, f2⟩ := mfit_ok hf hv'
  refine va_putN hx hb hts hc.2.1 ty0 hc.2.2.1 hc.2.2.2 hown hmS.1 d2 d3 d4 a h1 hc.1 i hk (va_Nw.use rfl (hmS.2.2.2.2.2.1 _ hlink)) (fun _ q => q) hfin (hc.2.2.1 i hk) f1 f2 (by rw [h3.len]; exact hl) hdg (fun H1 locs1 g1 g2 g3 => ?_)
  have hE := mExt.set (e := .inr (ci, fs'.set i v')) h1
  exact k p e s m args below meth c G w0 H1 locs1 LS _ _ hC ⟨d1.set h1 ⟨_, rfl, h3.set hv'⟩, g1, g2, g3, d5.tr hE, d6.mono hE, d7a.mono hE⟩
theorem mt_putfinal {a ci i : Nat} {C : String} {T : u_T} {N index : Nat} {ty0 : Nat → FieldType} {fs : List Value} {v : Value} (hc : mCl ci C T N ty0) (hk : i < N) (hlink : Cond.fieldLink M.1.cls index (T i).1 (T i).2.1 (T i).2.2.1 ∈ mGw) (hfin : (T i).2.2.2 = true) (hin : M.1.name = "<init>") (hdecl : (T i).1 = M.1.cls) (hdg : decode M.2.1 pc = .ok (.putfield index, 3)) (he : h a = .inr (.inr (ci, fs))) (hl : i < fs.length) (hf : mfit (ty0 i) v = true) (k : mT l M R K (pc + 3) ls st (mup h a (.inr (.inr (ci, fs.set i v)))) n cc sc) : mT l M R K pc ls (v :: .ref a :: st) h n cc sc := by
  intro p e s m args below meth c G w0 H locs LS ws st' hC hD
  obtain ⟨d1, d2, d3, d4, d5, d6, d7⟩ := hD
  obtain ⟨v', t1, rfl, hv', d7⟩ := d7
  obtain ⟨⟨x, e'⟩, t', h1, rfl, d7a⟩ := d7.ref
  have hr := d1.at h1
  rw [he] at hr
  obtain ⟨fs', rfl, h3⟩ := hr
  have hC' := hC
  obtain ⟨hx, -, hb, -, -, hown, hts, -, hnm, -, hmS, -⟩ := hC'
  obtain ⟨f1, f2⟩ := mfit_ok hf hv'
  refine va_putF hx hb hts hc.2.1 ty0 hc.2.2.1 hc.2.2.2 hown hmS.1 d2 d3 d4 a h1 hc.1 i hk (hts _ hlink) (fun _ q => q) hfin (hnm.trans hin) hdecl (hc.2.2.1 i hk) f1 f2 (by rw [h3.len]; exact hl) hdg (fun H1 locs1 g1 g2 g3 => ?_)
  have hE := mExt.set (e := .inr (ci, fs'.set i v')) h1
  exact k p e s m args below meth c G w0 H1 locs1 LS _ _ hC ⟨d1.set h1 ⟨_, rfl, h3.set hv'⟩, g1, g2, g3, d5.tr hE, d6.mono hE, d7a.mono hE⟩
theorem mt_iaload {a len j : Nat} {i : Int32} {f : Nat → Int32} (hdg : decode M.2.1 pc = .ok (.iaload, 1)) (he : h a = .inl (0, len, f)) (hi : i = nI j) (hj : j < len) (hL : len < 2 ^ 31) (k : mT l M R K (pc + 1) ls (.int (f j) :: st) h n cc sc) : mT l M R K pc ls (.int i :: .ref a :: st) h n cc sc := by
  intro p e s m args below meth c G w0 H locs LS ws st' hC hD
  obtain ⟨d1, d2, d3, d4, d5, d6, d7⟩ := hD
  obtain ⟨t1, rfl, d7a⟩ := d7.int
  obtain ⟨⟨x, e'⟩, t', h1, rfl, d7b⟩ := d7a.ref
  have hr := d1.at h1
  rw [he] at hr
  cases (show e' = .inl (G.2.1 0, len, .inl f) from hr)
  subst hi
  have kk := k p e s m args below meth c G w0 H locs LS ws (.int (f j) :: t') hC ⟨d1, d2, d3, d4, d5, d6, mrl.cons (v' := .int (f j)) rfl d7b⟩
  refine va_iald hC.1 hC.2.2.1 hC.2.2.2.2.2.2.2.2.2.2.1.1 d2 a 0 h1 rfl (vp_in_nI hj hL) hdg ?_
  rw [nI_clamp (Nat.lt_trans hj hL)]
  exact kk
theorem mt_iastore {a len j : Nat} {i x : Int32} {f : Nat → Int32} (hdg : decode M.2.1 pc = .ok (.iastore, 1)) (he : h a = .inl (0, len, f)) (hi : i = nI j) (hj : j < len) (hL : len < 2 ^ 31) (k : mT l M R K (pc + 1) ls st (mup h a (.inl (0, len, upd f j x))) n cc sc) : mT l M R K pc ls (.int x :: .int i :: .ref a :: st) h n cc sc := by
  intro p e s m args below meth c G w0 H locs LS ws st' hC hD
  obtain ⟨d1, d2, d3, d4, d5, d6, d7⟩ := hD
  obtain ⟨t0, rfl, d70⟩ := d7.int
  obtain ⟨t1, rfl, d7a⟩ := d70.int
  obtain ⟨⟨y, e'⟩, t', h1, rfl, d7b⟩ := d7a.ref
  have hr := d1.at h1
  rw [he] at hr
  cases (show e' = .inl (G.2.1 0, len, .inl f) from hr)
  subst hi
  refine va_iast hC.1 hC.2.2.1 hC.2.2.2.2.2.2.2.2.2.2.1.1 d2 d3 d4 a 0 h1 rfl (vp_in_nI hj hL) hdg (fun H1 locs1 g1 g2 g3 => ?_)
  rw [nI_clamp (Nat.lt_trans hj hL)] at g1 g2
  have hE := mExt.set (e := .inl (G.2.1 0, len, .inl (upd f j x))) h1
  exact k p e s m args below meth c G w0 H1 locs1 LS _ _ hC ⟨d1.set h1 rfl, g1, g2, g3, d5.tr hE, d6.mono hE, d7b.mono hE⟩
theorem mt_alen {a t len : Nat} {f : Nat → Int32} (hdg : decode M.2.1 pc = .ok (.arraylength, 1)) (he : h a = .inl (t, len, f)) (ht : t < 2) (k : mT l M R K (pc + 1) ls (.int (nI len) :: st) h n cc sc) : mT l M R K pc ls (.ref a :: st) h n cc sc := by
  intro p e s m args below meth c G w0 H locs LS ws st' hC hD
  obtain ⟨d1, d2, d3, d4, d5, d6, d7⟩ := hD
  obtain ⟨⟨x, e'⟩, t', h1, rfl, d7b⟩ := d7.ref
  have hr := d1.at h1
  rw [he] at hr
  cases (show e' = .inl (G.2.1 t, len, .inl f) from hr)
  have kk := k p e s m args below meth c G w0 H locs LS ws (.int (nI len) :: t') hC ⟨d1, d2, d3, d4, d5, d6, mrl.cons (v' := .int (nI len)) rfl d7b⟩
  match t, ht with
  | 0, _ => exact va_alen hC.1 hC.2.2.1 hC.2.2.2.2.2.2.2.2.2.2.1.1 d2 a 0 h1 rfl rfl hdg kk
  | 1, _ => exact va_alen hC.1 hC.2.2.1 hC.2.2.2.2.2.2.2.2.2.2.1.1 d2 a 1 h1 rfl rfl hdg kk
theorem mt_alenq {a t len : Nat} {g : Nat → Option Nat} {ty : FieldType} (hdg : decode M.2.1 pc = .ok (.arraylength, 1)) (he : h a = .inr (.inl (t, len, g))) (ht : ∀ tc, (mTy tc)[t]? = some (tc t, ty)) (k : mT l M R K (pc + 1) ls (.int (nI len) :: st) h n cc sc) : mT l M R K pc ls (.ref a :: st) h n cc sc := by
  intro p e s m args below meth c G w0 H locs LS ws st' hC hD
  obtain ⟨d1, d2, d3, d4, d5, d6, d7⟩ := hD
  obtain ⟨⟨x, e'⟩, t', h1, rfl, d7b⟩ := d7.ref
  have hr := d1.at h1
  rw [he] at hr
  obtain ⟨g', rfl, hg⟩ := hr
  exact va_alen hC.1 hC.2.2.1 hC.2.2.2.2.2.2.2.2.2.2.1.1 d2 a t h1 (ht _) rfl hdg (k p e s m args below meth c G w0 H locs LS ws (.int (nI len) :: t') hC ⟨d1, d2, d3, d4, d5, d6, mrl.cons (v' := .int (nI len)) rfl d7b⟩)
theorem mt_aaload {a t len j : Nat} {i : Int32} {g : Nat → Option Nat} {ty : FieldType} (hdg : decode M.2.1 pc = .ok (.aaload, 1)) (he : h a = .inr (.inl (t, len, g))) (ht : ∀ tc, (mTy tc)[t]? = some (tc t, ty)) (hty : ty.isReference = true) (hi : i = nI j) (hj : j < len) (hL : len < 2 ^ 31) {v : Value} (hv : va_rf (g j) = v) (k : mT l M R K (pc + 1) ls (v :: st) h n cc sc) : mT l M R K pc ls (.int i :: .ref a :: st) h n cc sc := by
  intro p e s m args below meth c G w0 H locs LS ws st' hC hD
  obtain ⟨d1, d2, d3, d4, d5, d6, d7⟩ := hD
  obtain ⟨t1, rfl, d7a⟩ := d7.int
  obtain ⟨⟨x, e'⟩, t', h1, rfl, d7b⟩ := d7a.ref
  have hr := d1.at h1
  rw [he] at hr
  obtain ⟨g', rfl, hg⟩ := hr
  subst hi
  subst hv
  have hin := vp_in_nI hj hL
  have hcl : (nI j).toNatClampNeg = j := nI_clamp (Nat.lt_trans hj hL)
  exact W.aald (v := va_rf (g' j)) (ty := ty) hC.1 hC.2.2.1 (d2 a _ h1) ((hC.2.2.2.2.2.2.2.2.2.2.1.1.2 t _ (ht _)).1 len (fun j => va_rf (g' j))) hty (fun q => by cases q) (by show ¬ ((nI j) < 0 ∨ (arrV _ _ _).slots.size ≤ _); rw [arrV_size]; exact hin) (by show (arrV _ _ _).slots[_]? = _; rw [hcl, arrV_read _ _ hj]) rfl rfl hdg
    (k p e s m args below meth c G w0 H locs LS ws (va_rf (g' j) :: t') hC ⟨d1, d2, d3, d4, d5, d6, mrl.cons (mrv.rf (hg j)) d7b⟩)
end MTB
