/-! ===== rows of the logic: making, storing references, returns ===== -/
theorem mW.len {G : mG} {h : mH} {n : Nat} {ws : va_W} (hW : mW G h n ws) : ws.length = n := hW.1
/-- what a new cell gives -/
theorem mW.pushL {G : mG} {h : mH} {n a : Nat} {ws : va_W} {v : Value} (hW : mW G h n ws) {e : va_E} (hv : v = .ref a) : mrv G.2.2.2.1 (ws ++ [(a, e)]) (.ref n) v := ⟨(a, e), by rw [List.getElem?_append_right (by rw [hW.1]; exact Nat.le_refl _), hW.1, Nat.sub_self]; rfl, hv⟩
section MTC
variable {l : Launch} {M : mM} {R : Room} {K : mK} {pc : Nat} {ls st : List Value} {h : mH} {n cc sc : Nat}
theorem mt_newarray {x : Int32} {len : Nat} (hdg : decode M.2.1 pc = .ok (.newarray .int, 2)) (harr : Cond.arrayClass .int ∈ mGw) (hx : x = nI len) (hL : len < 2 ^ 27) (hcc : cc + 1 ≤ R.cells) (hsc : sc + len ≤ R.slots) (k : mT l M R K (pc + 2) ls (.ref n :: st) (mup h n (.inl (0, len, fun _ => 0))) (n + 1) (cc + 1) (sc + len)) : mT l M R K pc ls (.int x :: st) h n cc sc := by
  intro p e s m args below meth c G w0 H locs LS ws st' hC hD
  obtain ⟨d1, d2, d3, d4, d5, d6, d7⟩ := hD
  obtain ⟨t1, rfl, d7a⟩ := d7.int
  have hC' := hC
  obtain ⟨hx0, -, hb, -, -, hown, hts, -, -, -, hmS, -⟩ := hC'
  subst hx
  refine va_newa (atype := .int) (ty := .int) (a0 := (len, .inl (fun _ => 0))) hx0 hb (hts _ harr) rfl hmS.1 d2 d3 d4 (fun q hq => Or.inr hq) (fun _ => rfl) (nI_pos (by omega)) (nI_clamp (by omega)) (by show len * 4 ≤ _; omega) hcc hsc hdg (fun q cA H1 g0 g1 g2 g3 => ?_)
  have hcA : cA = G.2.1 0 := by
    have h1 := (g0.2 (mTy G.2.1).length _ (by rw [List.getElem?_append_right (Nat.le_refl _), Nat.sub_self]; rfl)).2
    have h2 := (hmS.1.2 0 _ rfl).2
    exact Option.some.inj (Eq.trans (Eq.symm h1) h2)
  subst hcA
  have hE : mExt ws (ws ++ [(q, .inl (G.2.1 0, len, .inl (fun _ => 0)))]) := mExt.push
  exact k p e s m args below meth c G w0 H1 locs LS _ _ hC ⟨d1.push rfl, g1, g2, g3, d5.tr hE, d6.mono hE, mrl.cons (d1.pushL rfl) (d7a.mono hE)⟩
theorem mt_anewrow {x : Int32} {len index : Nat} (hdg : decode M.2.1 pc = .ok (.anewarray index, 3)) (hlk : Cond.classLink M.1.cls index "Runweaver$Row" ∈ mGw) (hx : x = nI len) (hL : len < 2 ^ 27) (hcc : cc + 1 ≤ R.cells) (hsc : sc + len ≤ R.slots) (k : mT l M R K (pc + 3) ls (.ref n :: st) (mup h n (.inr (.inl (2, len, fun _ => none)))) (n + 1) (cc + 1) (sc + len)) : mT l M R K pc ls (.int x :: st) h n cc sc := by
  intro p e s m args below meth c G w0 H locs LS ws st' hC hD
  obtain ⟨d1, d2, d3, d4, d5, d6, d7⟩ := hD
  obtain ⟨t1, rfl, d7a⟩ := d7.int
  have hC' := hC
  obtain ⟨hx0, -, hb, -, -, hown, hts, -, -, -, hmS, -⟩ := hC'
  subst hx
  refine va_newq hx0 hb hown (hts _ hlk) hmS.2.2.2.1 hmS.1 d2 d3 d4 (fun q hq => Or.inr hq) (nI_pos (by omega)) (nI_clamp (by omega)) (by omega) hcc hsc hdg (fun q cA H1 g0 g1 g2 g3 => ?_)
  have hcA : cA = G.2.1 2 := by
    obtain ⟨kA, comp, -, -, -, h1⟩ := (g0.2 (mTy G.2.1).length _ (by rw [List.getElem?_append_right (Nat.le_refl _), Nat.sub_self]; rfl)).2
    obtain ⟨kA2, comp2, -, -, -, h2⟩ := (hmS.1.2 2 _ rfl).2
    exact Option.some.inj (Eq.trans (Eq.symm h1) h2)
  subst hcA
  have hE : mExt ws (ws ++ [(q, .inl (G.2.1 2, len, .inr (.inr (.inr (.inr (fun _ => none))))))]) := mExt.push
  exact k p e s m args below meth c G w0 H1 locs LS _ _ hC ⟨d1.push ⟨_, rfl, fun _ => rfl⟩, g1, g2, g3, d5.tr hE, d6.mono hE, mrl.cons (d1.pushL rfl) (d7a.mono hE)⟩
/-- the fresh values of a class's fields -/
def mDf (ty0 : Nat → FieldType) (N : Nat) : List Value := (List.range N).map (fun k => defaultValue (ty0 k))
theorem mrl.same {b : Nat → Nat} {ws : va_W} : ∀ {l : List Value}, (∀ v ∈ l, (∃ x, v = .int x) ∨ (∃ x, v = .long x) ∨ v = .null) → mrl b ws l l
  | [], _ => rfl
  | v :: l, hv => by
    refine ⟨v, l, rfl, ?_, mrl.same (fun w hw => hv w (List.mem_cons_of_mem _ hw))⟩
    rcases hv v List.mem_cons_self with ⟨x, rfl⟩ | ⟨x, rfl⟩ | rfl <;> rfl
theorem mt_new {ci index : Nat} {C : String} {T : u_T} {N : Nat} {ty0 : Nat → FieldType} {fs : List Value} (hc : mCl ci C T N ty0) (hdg : decode M.2.1 pc = .ok (.new index, 3)) (hlk : Cond.classLink M.1.cls index C ∈ mGw) (hins : Cond.instantiable C N ∈ mGw) (hini : Cond.initialized C ∈ mGw) (hfs : ∀ j, j < N → defaultValue (ty0 j) = vp_V fs j) (hfv : ∀ v ∈ fs, (∃ x, v = .int x) ∨ (∃ x, v = .long x) ∨ v = .null) (hcc : cc + 1 ≤ R.cells) (hsc : sc + N ≤ R.slots) (k : mT l M R K (pc + 3) ls (.ref n :: st) (mup h n (.inr (.inr (ci, fs)))) (n + 1) (cc + 1) (sc + N)) : mT l M R K pc ls st h n cc sc := by
  intro p e s m args below meth c G w0 H locs LS ws st' hC hD
  obtain ⟨d1, d2, d3, d4, d5, d6, d7⟩ := hD
  have hC' := hC
  obtain ⟨hx0, -, hb, -, -, hown, hts, -, -, -, hmS, -⟩ := hC'
  refine va_new (fs := fs) hx0 hb hts hc.2.1 ty0 hc.2.2.1 hown (hts _ hlk) (hts _ hins) (hts _ hini) hmS.1 d2 d3 d4 (fun q hq => Or.inr hq) hc.1 hfs hcc hsc hdg (fun q H1 g1 g2 g3 => ?_)
  have hE : mExt ws (ws ++ [(q, .inr (ci, fs))]) := mExt.push
  exact k p e s m args below meth c G w0 H1 locs LS _ _ hC ⟨d1.push ⟨_, rfl, mrl.same hfv⟩, g1, g2, g3, d5.tr hE, d6.mono hE, mrl.cons (d1.pushL rfl) (d7.mono hE)⟩
theorem mt_aastoreR {a b2 len j : Nat} {i : Int32} {g : Nat → Option Nat} {fs : List Value} (hdg : decode M.2.1 pc = .ok (.aastore, 1)) (he : h a = .inr (.inl (2, len, g))) (hv : h b2 = .inr (.inr (3, fs))) (hi : i = nI j) (hj : j < len) (hL : len < 2 ^ 31) (k : mT l M R K (pc + 1) ls st (mup h a (.inr (.inl (2, len, va_up g j (some b2))))) n cc sc) : mT l M R K pc ls (.ref b2 :: .int i :: .ref a :: st) h n cc sc := by
  intro p e s m args below meth c G w0 H locs LS ws st' hC hD
  obtain ⟨d1, d2, d3, d4, d5, d6, d7⟩ := hD
  obtain ⟨⟨y, e2⟩, t0, hw, rfl, d70⟩ := d7.ref
  obtain ⟨t1, rfl, d7a⟩ := d70.int
  obtain ⟨⟨x, e'⟩, t', h1, rfl, d7b⟩ := d7a.ref
  have hr := d1.at h1
  rw [he] at hr
  obtain ⟨g', rfl, hg⟩ := hr
  have hr2 := d1.at hw
  rw [hv] at hr2
  obtain ⟨fs', rfl, -⟩ := hr2
  subst hi
  refine va_astq hC.1 hC.2.2.1 hC.2.2.2.2.2.2.2.2.2.2.1.1 d2 d3 d4 a 2 b2 3 (r := (RX1, TX1, 4)) h1 rfl hw rfl (vp_in_nI hj hL) hdg (fun H1 locs1 g1 g2 g3 => ?_)
  rw [nI_clamp (Nat.lt_trans hj hL)] at g1 g2
  have hE := mExt.set (e := .inl (G.2.1 2, len, .inr (.inr (.inr (.inr (va_up g' j (some y))))))) h1
  refine k p e s m args below meth c G w0 H1 locs1 LS _ _ hC ⟨d1.set h1 ⟨_, rfl, fun z => ?_⟩, g1, g2, g3, d5.tr hE, d6.mono hE, d7b.mono hE⟩
  unfold va_up
  by_cases q : z = j
  · rw [if_pos q, if_pos q]; exact ⟨_, hw, rfl⟩
  · rw [if_neg q, if_neg q]; exact hg z
theorem va_assignI {vm : Vm} {cA : ClassId} : vm.assignable cA cA = true := by
  unfold Vm.assignable
  show Vm.assignableAux vm (255 + 1) cA cA = true
  rw [Vm.assignableAux]
  simp
theorem mt_aastoreA {a b2 len len2 j : Nat} {i : Int32} {g : Nat → Option Nat} {f : Nat → Int32} (hdg : decode M.2.1 pc = .ok (.aastore, 1)) (he : h a = .inr (.inl (3, len, g))) (hv : h b2 = .inl (0, len2, f)) (hi : i = nI j) (hj : j < len) (hL : len < 2 ^ 31) (k : mT l M R K (pc + 1) ls st (mup h a (.inr (.inl (3, len, va_up g j (some b2))))) n cc sc) : mT l M R K pc ls (.ref b2 :: .int i :: .ref a :: st) h n cc sc := by
  intro p e s m args below meth c G w0 H locs LS ws st' hC hD
  obtain ⟨d1, d2, d3, d4, d5, d6, d7⟩ := hD
  obtain ⟨⟨y, e2⟩, t0, hw, rfl, d70⟩ := d7.ref
  obtain ⟨t1, rfl, d7a⟩ := d70.int
  obtain ⟨⟨x, e'⟩, t', h1, rfl, d7b⟩ := d7a.ref
  have hr := d1.at h1
  rw [he] at hr
  obtain ⟨g', rfl, hg⟩ := hr
  have hr2 := d1.at hw
  rw [hv] at hr2
  cases (show e2 = .inl (G.2.1 0, len2, .inl f) from hr2)
  subst hi
  have hin := vp_in_nI hj hL
  have hcl : (nI j).toNatClampNeg = j := nI_clamp (Nat.lt_trans hj hL)
  have h0 : ¬ (nI j) < 0 := fun q => hin (Or.inl q)
  obtain ⟨-, ⟨kA, k1, k2⟩, ⟨kI, k3, cI, k4⟩, -⟩ := hC.2.2.2.2.2.2.2.2.2.2.1
  refine W.aast hC.1 hC.2.2.1 (d2 a _ h1) (fun q h => by cases h) (fun h => by cases h) k1 k2 rfl k3 ⟨h0, by show _ < (arrV _ _ _).slots.size; rw [arrV_size, hcl]; exact hj⟩ (d2 b2 _ hw) (fun q h => by cases h) k3 va_assignI rfl rfl hdg fun H1 e9 z oq => ?_
  have hE := mExt.set (e := .inl (G.2.1 3, len, .inr (.inr (.inr (.inr (va_up g' j (some y))))))) h1
  refine k p e s m args below meth c G w0 H1 _ LS _ _ hC ⟨d1.set h1 ⟨_, rfl, fun z => ?_⟩, d2.set d3 h1 ?_ oq, d3.set h1, d4.put z oq (d3.2 a _ h1), d5.tr hE, d6.mono hE, d7b.mono hE⟩
  · unfold va_up
    by_cases q : z = j
    · rw [if_pos q, if_pos q]; exact ⟨_, hw, rfl⟩
    · rw [if_neg q, if_neg q]; exact hg z
  · show H1[x]? = some (vp_cell _ _)
    rw [e9]
    rw [vp_cell_q, vp_cell_q, arrV_store, hcl]
    congr 2
    funext q
    by_cases hq : q = j
    · subst hq
      simp [updV, va_up, va_rf]
    · simp [updV, va_up, hq]
/-! returns -/
theorem mt_ireturn {Φ : Option Value → mH → Nat → Prop} {X : String → mH → Nat → Prop} {v : Int32} {ty : FieldType} (hdg : decode M.2.1 pc = .ok (.ireturn, 1)) (hr : M.2.2.2.1 = some ty) (hn : narrow ty (.int v) = .int v) (hcc : cc ≤ R.cells) (hsc : sc ≤ R.slots) (hΦ : Φ (some (.int v)) h n) : mT l M R (mKo R Φ X) pc ls [.int v] h n cc sc := by
  intro p e s m args below meth c G w0 H locs LS ws st' hC hD
  obtain ⟨d1, d2, d3, d4, d5, d6, d7⟩ := hD
  obtain ⟨t1, rfl, d7a⟩ := d7.int
  cases (show t1 = [] from d7a)
  exact W.widen hcc hsc (vx_ret (W.zret hC.1 hC.2.2.1 (hC.2.2.2.1.trans hr) hn (fun t ht _ => ⟨some (.int v), _, h, n, ws, rfl, hΦ, ⟨_, rfl, rfl⟩, d1, d5, by rw [ht]; exact d2, d3, d4.F ht⟩) d4.2.2 hdg hC.2.2.2.2.2.2.2.1))
theorem mt_lreturn {Φ : Option Value → mH → Nat → Prop} {X : String → mH → Nat → Prop} {v : Int64} (hdg : decode M.2.1 pc = .ok (.lreturn, 1)) (hr : M.2.2.2.1 = some .long) (hcc : cc ≤ R.cells) (hsc : sc ≤ R.slots) (hΦ : Φ (some (.long v)) h n) : mT l M R (mKo R Φ X) pc ls [.long v] h n cc sc := by
  intro p e s m args below meth c G w0 H locs LS ws st' hC hD
  obtain ⟨d1, d2, d3, d4, d5, d6, d7⟩ := hD
  obtain ⟨t1, rfl, d7a⟩ := d7.long
  cases (show t1 = [] from d7a)
  exact W.widen hcc hsc (vx_ret (W.lret hC.1 hC.2.2.1 (hC.2.2.2.1.trans hr) (fun t ht _ => ⟨some (.long v), _, h, n, ws, rfl, hΦ, ⟨_, rfl, rfl⟩, d1, d5, by rw [ht]; exact d2, d3, d4.F ht⟩) d4.2.2 hdg hC.2.2.2.2.2.2.2.1))
theorem mt_return {Φ : Option Value → mH → Nat → Prop} {X : String → mH → Nat → Prop} (hdg : decode M.2.1 pc = .ok (.return_, 1)) (hr : M.2.2.2.1 = none) (hcc : cc ≤ R.cells) (hsc : sc ≤ R.slots) (hΦ : Φ none h n) : mT l M R (mKo R Φ X) pc ls [] h n cc sc := by
  intro p e s m args below meth c G w0 H locs LS ws st' hC hD
  obtain ⟨d1, d2, d3, d4, d5, d6, d7⟩ := hD
  cases (show st' = [] from d7)
  exact W.widen hcc hsc (vx_ret (W.vret hC.1 hC.2.2.1 (hC.2.2.2.1.trans hr) (fun t ht _ => ⟨none, _, h, n, ws, rfl, hΦ, rfl, d1, d5, by rw [ht]; exact d2, d3, d4.F ht⟩) d4.2.2 hdg hC.2.2.2.2.2.2.2.1))
theorem mt_areturn {Φ : Option Value → mH → Nat → Prop} {X : String → mH → Nat → Prop} {v : Value} {rt : FieldType} (hdg : decode M.2.1 pc = .ok (.areturn, 1)) (hr : M.2.2.2.1 = some rt) (hrt : (∃ n, rt = .object n) ∨ ∃ t, rt = .array t) (hv : mir v = true) (hcc : cc ≤ R.cells) (hsc : sc ≤ R.slots) (hΦ : Φ (some v) h n) : mT l M R (mKo R Φ X) pc ls [v] h n cc sc := by
  intro p e s m args below meth c G w0 H locs LS ws st' hC hD
  obtain ⟨d1, d2, d3, d4, d5, d6, d7⟩ := hD
  obtain ⟨v', t1, rfl, h1, d7a⟩ := d7
  cases (show t1 = [] from d7a)
  obtain ⟨q, rfl⟩ := h1.ir hv
  exact W.widen hcc hsc (vx_ret (W.aret hC.1 hC.2.2.1 (hC.2.2.2.1.trans hr) hrt (Or.inr ⟨q, rfl⟩) (fun t ht _ => ⟨some v, _, h, n, ws, rfl, hΦ, ⟨_, rfl, h1⟩, d1, d5, by rw [ht]; exact d2, d3, d4.F ht⟩) d4.2.2 hdg hC.2.2.2.2.2.2.2.1))
end MTC
