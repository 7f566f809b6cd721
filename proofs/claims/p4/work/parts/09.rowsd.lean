/-! ===== rows of the logic: calls, throws, catching ===== -/
/-- the frame at pc, with an exception of class E thrown over it -/
def mTX (l : Launch) (M : mM) (R : Room) (K : mK) (pc : Nat) (ls : List Value) (E : String) (h : mH) (n cc sc : Nat) : Prop :=
  ∀ (p : Program) (e : Env) (s : State) (m : MethodId) (args : Array Value) (below : List Frame) (meth : Method) (c : Code) (G : mG) (w0 : va_W) (H : Heap) (locs : List Loc) (LS : Array Slot) (ws : va_W) (q : Addr) (ce : Cell) (rest : List Value),
    mCx l M p s m args meth c G w0 → mDy M G w0 s ls [] h n H locs LS ws [] → H[q]? = some ce → ce.vm = .none → s.vm.findClass E = some ce.cls → vx_W p l e R s m args below meth c H locs cc sc (K s args below G w0) (F0 m pc LS rest) q
def mcw : Value → Nat
  | .long _ => 2
  | _ => 1
theorem mrl.weight {b : Nat → Nat} {ws : va_W} : ∀ {l l' : List Value}, mrl b ws l l' → (l'.map fun v => v.category).sum ≤ (l.map mcw).sum
  | [], _, h => by
    cases h
    exact Nat.le_refl _
  | v :: l, _, h => by
    obtain ⟨v', t', rfl, h3, h4⟩ := h
    have ih := mrl.weight h4
    have h1 : v'.category ≤ mcw v := by
      rcases lv_cat v' with q | q
      · rw [q]; cases v <;> exact Nat.le_of_ble_eq_true rfl
      · obtain ⟨x, rfl⟩ := h3.cat q
        rw [q]; exact Nat.le_refl _
    simp only [List.map_cons, List.sum_cons]
    omega
theorem mrO.list {b : Nat → Nat} {ws : va_W} {v v' : Option Value} {l l' : List Value} (h : mrO b ws v v') (h2 : mrl b ws l l') : mrl b ws (v.toList ++ l) (v'.toList ++ l') := by
  cases v with
  | none => cases (show v' = none from h); exact h2
  | some w => obtain ⟨w', rfl, h3⟩ := h; exact mrl.cons h3 h2
theorem mW.free {G : mG} {w0 ws : va_W} {s : State} {H : Heap} {locs : List Loc} (hD : va_D (va_A w0 s.heap.size) ws) (hS : va_S (va_A w0 s.heap.size) s.heap H locs) : ∀ q, va_A ws H.size q → va_A w0 s.heap.size q := by
  intro q h
  rcases h with ⟨k, e, h⟩ | h
  · exact hD.2 k _ h
  · exact Or.inr (Nat.le_trans hS.1 h)
/-- what a callee finds -/
theorem mPc_at {l : Launch} {M : mM} {p : Program} {s : State} {m : MethodId} {args : Array Value} {meth : Method} {c : Code} {G : mG} {w0 ws : va_W} {H : Heap} {locs : List Loc} {vs : List Value} (hC : mCx l M p s m args meth c G w0) (hP : va_P G.1 vwCl ws H) (hD : va_D (va_A w0 s.heap.size) ws) (hS : va_S (va_A w0 s.heap.size) s.heap H locs) : ∀ U : State, U.heap = H → s.WarmedH U.vm → mPc G ws H.size vs vs.toArray U := by
  intro U hU hW
  obtain ⟨-, -, -, -, -, -, -, -, -, -, hmS, hmZ, -⟩ := hC
  exact ⟨rfl, by rw [hU], by rw [hU]; exact hP, hD.weaken (fun _ _ _ _ => trivial), hmS.moved hW, by rw [hU]; exact ((hmZ.kept hS.2.1).narrow (mW.free (G := G) hD hS)).moved hW.alike⟩
section MTD
variable {l : Launch} {M : mM} {R : Room} {K : mK} {pc : Nat} {ls st : List Value} {h : mH} {n cc sc : Nat}
/-- behind a call -/
theorem mt_back {p : Program} {e : Env} {s : State} {m : MethodId} {args : Array Value} {below : List Frame} {meth : Method} {c : Code} {G : mG} {w0 : va_W} {H : Heap} {locs : List Loc} {LS : Array Slot} {ws : va_W} {st0 st' : List Value} {Φ : Option Value → mH → Nat → Prop} {X : String → mH → Nat → Prop} {mc ms : Nat} {av : Array Value}
    (hC : mCx l M p s m args meth c G w0) (hD : mDy M G w0 s ls st h n H locs LS ws st')
    (run : vx_Run p l e R s m args below meth c H locs cc sc mc ms (F0 m pc LS st0) st' (mQ G ws H.size Φ av) (mXq G ws H.size X) (va_A ws H.size))
    (k : ∀ v h' n', Φ v h' n' → mT l M R K (pc + 3) ls (v.toList ++ st) h' n' (cc + mc) (sc + ms)) (kx : ∀ E h' n', X E h' n' → mTX l M R K pc ls E h' n' (cc + mc) (sc + ms)) : W p l e R s m args below meth c H locs cc sc (K s args below G w0) (F0 m pc LS st0) := by
  obtain ⟨d1, d2, d3, d4, d5, d6, d7⟩ := hD
  have hF := mW.free (G := G) d3 d4
  intro T hT X0
  rcases run T hT X0 with ⟨v, sa, t, T', L, h0, X', hL, e1, e2, ⟨v0, v', h', n', ws', e3, hΦ, q1, q2, q3, q4, q5, q6⟩, st9⟩ | ⟨q, sa, t, T', L, E, ce, h0, X', hL, e1, e2, ⟨h', n', hX, ws', q2, q3, q4, q5, q6⟩, hce, hcv, hcl, st9⟩
  · cases e3
    obtain ⟨k1, k2, k3⟩ := vx_keep h0 e1 d4 (fun q _ => hF q) hF hL q6
    obtain ⟨t2, a1, b1⟩ := k v0 h' n' hΦ p e s m args below meth c G w0 T'.heap (locs ++ L) LS ws' _ hC ⟨q2, by rw [e1]; exact q4, q5.weaken (fun _ y _ z => hF y.1 z), k3, d5.tr q3, d6.mono q3, q1.list (d7.mono q3)⟩ T' rfl X'
    exact ⟨t2, st9 t2 a1, b1⟩
  · obtain ⟨k1, k2, k3⟩ := vx_keep h0 e1 d4 (fun q _ => hF q) hF hL q6
    obtain ⟨t2, a1, b1⟩ := kx E h' n' hX p e s m args below meth c G w0 T'.heap (locs ++ L) LS ws' q ce st' hC ⟨q2, by rw [e1]; exact q4, q5.weaken (fun _ y _ z => hF y.1 z), k3, d5.tr q3, d6.mono q3, rfl⟩ (by rw [e1]; exact hce) hcv hcl T' rfl X'
    exact ⟨t2, st9.trans a1, b1⟩
/-- a method that can be called by its own name: on an object of class C, statically, as a constructor -/
def mNm (N : mM) (k : Nat) : Prop := N.1.cls ≠ "java/lang/invoke/MethodHandle" ∧ N.1.cls ≠ "java/lang/invoke/VarHandle" ∧ (parseMethodDescriptor N.1.desc).map (fun d => d.parameters.length) = some k
def mV (N : mM) (k : Nat) : Prop := mWd N ∈ mGw ∧ Cond.instanceMethod N.1 ∈ mGw ∧ Cond.selects N.1.cls N.1 N.1 ∈ mGw ∧ Cond.initialized N.1.cls ∈ mGw ∧ mNm N k ∧ N.2.2.2.2.1 = []
def mSt (N : mM) (k : Nat) : Prop := mWd N ∈ mGw ∧ Cond.static N.1 ∈ mGw ∧ Cond.initialized N.1.cls ∈ mGw ∧ mNm N k ∧ N.2.2.2.2.1 = []
def mSw (N : mM) (k : Nat) : Prop := mWd N ∈ mGw ∧ Cond.static N.1 ∈ mGw ∧ Cond.initialized N.1.cls ∈ mGw ∧ mNm N k ∧ N.2.2.2.2.1 ≠ []
def mIn (N : mM) (k : Nat) : Prop := mWd N ∈ mGw ∧ Cond.instanceMethod N.1 ∈ mGw ∧ Cond.initialized N.1.cls ∈ mGw ∧ mNm N k ∧ N.2.2.2.2.1 = [] ∧ N.2.2.2.1 = none ∧ N.1.name = "<init>"
/-- the room for a call -/
def mRm (R Rc : Room) (N : mM) (cc sc : Nat) : Prop := (Rc.frames + 1 ≤ R.frames ∧ 8 + (N.2.2.1 + 11) + Rc.locals ≤ R.locals) ∧ cc + Rc.cells ≤ R.cells ∧ sc + Rc.slots ≤ R.slots
theorem mWs_nil {N : mM} (h : N.2.2.2.2.1 = []) : mWs N = .code N.1 N.2.1 N.2.2.1 N.2.2.2.1 :: mGw := by unfold mWs mWd; rw [h]
theorem mWs_tab {N : mM} (h : N.2.2.2.2.1 ≠ []) : mWs N = .codeWith N.1 N.2.1 N.2.2.1 N.2.2.2.1 N.2.2.2.2.1 :: mGw := by
  unfold mWs mWd
  match hq : N.2.2.2.2.1 with
  | [] => exact absurd hq h
  | x :: t => rfl
theorem mt_callV {N : mM} {Rc : Room} {As stk : List Value} {b ci Nf index : Nat} {C : String} {T : u_T} {ty0 : Nat → FieldType} {fs : List Value} {Φ : Option Value → mH → Nat → Prop} {X : String → mH → Nat → Prop}
    (hdg : decode M.2.1 pc = .ok (.invokevirtual index, 3)) (hCt : mC l N Rc (.ref b :: As) h n Φ X) (hN : mV N As.length) (hlk : Cond.methodLink M.1.cls index N.1 ∈ mGw) (hc : mCl ci C T Nf ty0) (hcn : N.1.cls = C) (hb : h b = .inr (.inr (ci, fs))) (hst : stk = As.reverse ++ .ref b :: st) (hw : (st.map mcw).sum ≤ 8) (hR : mRm R Rc N cc sc)
    (k : ∀ v h' n', Φ v h' n' → mT l M R K (pc + 3) ls (v.toList ++ st) h' n' (cc + Rc.cells) (sc + Rc.slots)) (kx : ∀ E h' n', X E h' n' → mTX l M R K pc ls E h' n' (cc + Rc.cells) (sc + Rc.slots)) : mT l M R K pc ls stk h n cc sc := by
  intro p e s m args below meth c G w0 H locs LS ws st' hC hD
  subst hst
  obtain ⟨d1, d2, d3, d4, d5, d6, d7⟩ := hD
  obtain ⟨sa, sb, rfl, s1, s2⟩ := mrl.split d7
  obtain ⟨⟨ab, eb⟩, t', hwb, rfl, s3⟩ := s2.ref
  have hav : mrl G.2.2.2.1 ws (.ref b :: As) (.ref ab :: sa.reverse) := mrl.cons ⟨_, hwb, rfl⟩ (by have := s1.rev; rwa [List.reverse_reverse] at this)
  have hC' := hC
  obtain ⟨hx, -, hbb, -, hml, hown, hts, -, -, -, hmS, -⟩ := hC'
  obtain ⟨n1, n2, n3, n4, n5, n6⟩ := hN
  have hr := d1.at hwb
  rw [hb] at hr
  obtain ⟨fs', rfl, -⟩ := hr
  have hrev : sa ++ (Value.ref ab :: t') = sa.reverse.reverse ++ (Value.ref ab :: t') := by rw [List.reverse_reverse]
  have run := vx_runV (R := R) (locs := locs) (cells := cc) (slots := sc) (C := C) (As := sa.reverse) (rest := t') (g := F0 m pc LS (sa ++ (Value.ref ab :: t'))) ⟨hx, hbb, hml, hown, hts⟩ (hCt G ws H.size _ d1 hav)
    (n := As.length) (index := index) (own := M.1.cls) (ret := N.2.2.2.1) (bytes := N.2.1) (maxL := N.2.2.1)
    ⟨callB_of As.length hts (mGoodG n1) (mWs_nil n6) rfl rfl (hts _ n4) (hts _ hlk) n5 hR.1, hts _ n2, by rw [← hcn]; exact hts _ n3⟩
    (b := ab) ⟨mPc.blind, va_recv hmS.1 d2 hc.1 hwb, mPc_at hC d2 d3 d4⟩ rfl (by rw [List.length_reverse, s1.len, List.length_reverse]) d6.choose_spec.1.1 hrev (lv_room (Nat.le_trans s3.weight hw)) hdg hR.2 (e := e) (below := below) (meth := meth)
  exact mt_back hC ⟨d1, d2, d3, d4, d5, d6, s3⟩ run k kx
theorem mt_callS {N : mM} {Rc : Room} {As stk : List Value} {index : Nat} {Φ : Option Value → mH → Nat → Prop} {X : String → mH → Nat → Prop}
    (hdg : decode M.2.1 pc = .ok (.invokestatic index, 3)) (hCt : mC l N Rc As h n Φ X) (hN : mSt N As.length) (hlk : Cond.methodLink M.1.cls index N.1 ∈ mGw) (hst : stk = As.reverse ++ st) (hw : (st.map mcw).sum ≤ 8) (hR : mRm R Rc N cc sc)
    (k : ∀ v h' n', Φ v h' n' → mT l M R K (pc + 3) ls (v.toList ++ st) h' n' (cc + Rc.cells) (sc + Rc.slots)) (kx : ∀ E h' n', X E h' n' → mTX l M R K pc ls E h' n' (cc + Rc.cells) (sc + Rc.slots)) : mT l M R K pc ls stk h n cc sc := by
  intro p e s m args below meth c G w0 H locs LS ws st' hC hD
  subst hst
  obtain ⟨d1, d2, d3, d4, d5, d6, d7⟩ := hD
  obtain ⟨sa, t', rfl, s1, s3⟩ := mrl.split d7
  have hav : mrl G.2.2.2.1 ws As sa.reverse := by have := s1.rev; rwa [List.reverse_reverse] at this
  have hC' := hC
  obtain ⟨hx, -, hbb, -, hml, hown, hts, -, -, -, hmS, -⟩ := hC'
  obtain ⟨n1, n2, n4, n5, n6⟩ := hN
  have hrev : sa ++ t' = sa.reverse.reverse ++ t' := by rw [List.reverse_reverse]
  have run := vx_runS (R := R) (locs := locs) (cells := cc) (slots := sc) (As := sa.reverse) (rest := t') (g := F0 m pc LS (sa ++ t')) ⟨hx, hbb, hml, hown, hts⟩ (hCt G ws H.size _ d1 hav)
    (n := As.length) (index := index) (own := M.1.cls) (ret := N.2.2.2.1) (bytes := N.2.1) (maxL := N.2.2.1)
    ⟨callB_of As.length hts (mGoodG n1) (mWs_nil n6) rfl rfl (hts _ n4) (hts _ hlk) n5 hR.1, hts _ n2⟩
    ⟨mPc.blind, mPc_at hC d2 d3 d4⟩ rfl (by rw [List.length_reverse, s1.len, List.length_reverse]) d6.choose_spec.1.1 hrev (lv_room (Nat.le_trans s3.weight hw)) hdg hR.2 (e := e) (below := below) (meth := meth)
  exact mt_back hC ⟨d1, d2, d3, d4, d5, d6, s3⟩ run k kx
/-- a static method with a table -/
theorem mt_callSW {N : mM} {Rc : Room} {As stk : List Value} {index : Nat} {Φ : Option Value → mH → Nat → Prop} {X : String → mH → Nat → Prop}
    (hdg : decode M.2.1 pc = .ok (.invokestatic index, 3)) (hCt : mC l N Rc As h n Φ X) (hN : mSw N As.length) (hlk : Cond.methodLink M.1.cls index N.1 ∈ mGw) (hst : stk = As.reverse ++ st) (hw : (st.map mcw).sum ≤ 8) (hR : mRm R Rc N cc sc)
    (k : ∀ v h' n', Φ v h' n' → mT l M R K (pc + 3) ls (v.toList ++ st) h' n' (cc + Rc.cells) (sc + Rc.slots)) (kx : ∀ E h' n', X E h' n' → mTX l M R K pc ls E h' n' (cc + Rc.cells) (sc + Rc.slots)) : mT l M R K pc ls stk h n cc sc := by
  intro p e s m args below meth c G w0 H locs LS ws st' hC hD
  subst hst
  obtain ⟨d1, d2, d3, d4, d5, d6, d7⟩ := hD
  obtain ⟨sa, t', rfl, s1, s3⟩ := mrl.split d7
  have hav : mrl G.2.2.2.1 ws As sa.reverse := by have := s1.rev; rwa [List.reverse_reverse] at this
  have hC' := hC
  obtain ⟨hx, -, hbb, -, hml, hown, hts, -, -, -, hmS, -⟩ := hC'
  obtain ⟨n1, n2, n4, n5, n6⟩ := hN
  have hrev : sa ++ t' = sa.reverse.reverse ++ t' := by rw [List.reverse_reverse]
  have hwd : mWs N = .codeWith N.1 N.2.1 N.2.2.1 N.2.2.2.1 N.2.2.2.2.1 :: mGw := mWs_tab n6
  have hGd : GoodIn mGw (va_wsS M.1.cls index N.1 (mWs N)) := by
    intro w hw
    unfold va_wsS at hw
    rcases List.mem_append.mp hw with h1 | h1
    · have h2 : w ∈ mGw := by
        simp only [List.mem_cons, List.not_mem_nil, or_false] at h1
        rcases h1 with rfl | rfl | rfl
        · exact hlk
        · exact n2
        · exact n4
      exact ⟨h2, good_of_word (List.mem_filter.mp h2).2⟩
    · exact mGoodG n1 w h1
  have run := vx_runSX (R := R) (locs := locs) (cells := cc) (slots := sc) (As := sa.reverse) (rest := t') (g := F0 m pc LS (sa ++ t')) ⟨hx, hbb, hml, hown, hts⟩ (hCt G ws H.size _ d1 hav)
    (n := As.length) (index := index) (own := M.1.cls) (ret := N.2.2.2.1) (bytes := N.2.1) (maxL := N.2.2.1) (hh := N.2.2.2.2.1)
    (vx_cwSW As.length hts hGd hwd rfl rfl n5 hR.1)
    ⟨mPc.blind, mPc_at hC d2 d3 d4⟩ rfl (by rw [List.length_reverse, s1.len, List.length_reverse]) d6.choose_spec.1.1 hrev (lv_room (Nat.le_trans s3.weight hw)) hdg hR.2 (e := e) (below := below) (meth := meth)
  exact mt_back hC ⟨d1, d2, d3, d4, d5, d6, s3⟩ run k kx
/-- a contract of a method that never throws -/
theorem mC.met {N : mM} {Rc : Room} {av : List Value} {Φ : Option Value → mH → Nat → Prop} (hCt : mC l N Rc av h n Φ (fun _ _ _ => False)) {G : mG} {ws : va_W} {sz : Nat} {vs : List Value} (hW : mW G h n ws) (hv : mrl G.2.2.2.1 ws av vs) : Met l N.1 (mWs N) Rc (mPc G ws sz vs) (mQ G ws sz Φ) Rc.cells Rc.slots (va_A ws sz) := by
  intro p e ha hc hk s m args below hf happ hP hK
  obtain ⟨t, o, a1, a2, a3, a4⟩ := hCt G ws sz vs hW hv p e ha hc hk s m args below hf happ hP hK
  refine ⟨t, o, a1, a2, a3, ?_⟩
  rcases a4 with a4 | ⟨q, b1, E, ce, L, ⟨h9, n9, hx, -⟩, b4⟩
  · exact a4
  · exact hx.elim
theorem mt_callI {N : mM} {Rc : Room} {As stk : List Value} {b index : Nat} {Φ : Option Value → mH → Nat → Prop}
    (hdg : decode M.2.1 pc = .ok (.invokespecial index, 3)) (hCt : mC l N Rc (.ref b :: As) h n Φ (fun _ _ _ => False)) (hN : mIn N As.length) (hlk : Cond.methodLink M.1.cls index N.1 ∈ mGw) (hst : stk = As.reverse ++ .ref b :: st) (hw : (st.map mcw).sum ≤ 8) (hR : mRm R Rc N cc sc)
    (k : ∀ v h' n', Φ v h' n' → mT l M R K (pc + 3) ls (v.toList ++ st) h' n' (cc + Rc.cells) (sc + Rc.slots)) : mT l M R K pc ls stk h n cc sc := by
  intro p e s m args below meth c G w0 H locs LS ws st' hC hD
  subst hst
  obtain ⟨d1, d2, d3, d4, d5, d6, d7⟩ := hD
  obtain ⟨sa, sb, rfl, s1, s2⟩ := mrl.split d7
  obtain ⟨⟨ab, eb⟩, t', hwb, rfl, s3⟩ := s2.ref
  have hav : mrl G.2.2.2.1 ws (.ref b :: As) (.ref ab :: sa.reverse) := mrl.cons ⟨_, hwb, rfl⟩ (by have := s1.rev; rwa [List.reverse_reverse] at this)
  have hC' := hC
  obtain ⟨hx, -, hbb, -, hml, hown, hts, -, -, -, hmS, -⟩ := hC'
  obtain ⟨n1, n2, n4, n5, n6, n7, n8⟩ := hN
  have hrev : sa ++ (Value.ref ab :: t') = sa.reverse.reverse ++ (Value.ref ab :: t') := by rw [List.reverse_reverse]
  have run := va_runI (R := R) (locs := locs) (cells := cc) (slots := sc) (As := sa.reverse) (rest := t') (g := F0 m pc LS (sa ++ (Value.ref ab :: t'))) ⟨hx, hbb, hml, hown, hts⟩ (hCt.met (sz := H.size) d1 hav)
    (n := As.length) (index := index) (own := M.1.cls) (bytes := N.2.1) (maxL := N.2.2.1)
    ⟨callB_of As.length hts (mGoodG n1) (by rw [mWs_nil n6, n7]) rfl rfl (hts _ n4) (hts _ hlk) n5 hR.1, n8, hts _ n2⟩
    (b := ab) ⟨mPc.blind, mPc_at hC d2 d3 d4⟩ rfl (by rw [List.length_reverse, s1.len, List.length_reverse]) d6.choose_spec.1.1 hrev (lv_room (Nat.le_trans s3.weight hw)) hdg hR.2 (e := e) (below := below) (meth := meth)
  exact mt_back (X := fun _ _ _ => False) hC ⟨d1, d2, d3, d4, d5, d6, s3⟩ (fun T hT X => Or.inl (run T hT X)) k (fun _ _ _ z => z.elim)
theorem mt_callIN {N : mM} {Rc : Room} {As stk : List Value} {b index : Nat} {host : String} {Φ : Option Value → mH → Nat → Prop}
    (hdg : decode M.2.1 pc = .ok (.invokespecial index, 3)) (hCt : mC l N Rc (.ref b :: As) h n Φ (fun _ _ _ => False)) (hN : mIn N As.length) (hlk : Cond.methodLinkNest M.1.cls index N.1 host ∈ mNw) (hst : stk = As.reverse ++ .ref b :: st) (hw : (st.map mcw).sum ≤ 8) (hR : mRm R Rc N cc sc)
    (k : ∀ v h' n', Φ v h' n' → mT l M R K (pc + 3) ls (v.toList ++ st) h' n' (cc + Rc.cells) (sc + Rc.slots)) : mT l M R K pc ls stk h n cc sc := by
  intro p e s m args below meth c G w0 H locs LS ws st' hC hD
  subst hst
  obtain ⟨d1, d2, d3, d4, d5, d6, d7⟩ := hD
  obtain ⟨sa, sb, rfl, s1, s2⟩ := mrl.split d7
  obtain ⟨⟨ab, eb⟩, t', hwb, rfl, s3⟩ := s2.ref
  have hav : mrl G.2.2.2.1 ws (.ref b :: As) (.ref ab :: sa.reverse) := mrl.cons ⟨_, hwb, rfl⟩ (by have := s1.rev; rwa [List.reverse_reverse] at this)
  have hC' := hC
  obtain ⟨hx, -, hbb, -, hml, hown, hts, -, -, -, hmS, -⟩ := hC'
  obtain ⟨n1, n2, n4, n5, n6, n7, n8⟩ := hN
  have hrev : sa ++ (Value.ref ab :: t') = sa.reverse.reverse ++ (Value.ref ab :: t') := by rw [List.reverse_reverse]
  have hlk0 : va_Nw (.methodLinkNest M.1.cls index N.1 host) s := hmS.2.2.2.2.2.1 _ hlk
  have run := va_runIN (R := R) (locs := locs) (cells := cc) (slots := sc) (As := sa.reverse) (rest := t') (g := F0 m pc LS (sa ++ (Value.ref ab :: t'))) ⟨hx, hbb, hml, hown, hts⟩ (hCt.met (sz := H.size) d1 hav)
    (n := As.length) (index := index) (own := M.1.cls) (bytes := N.2.1) (maxL := N.2.2.1)
    ⟨va_cnB As.length hts (mGoodG n1) (by rw [mWs_nil n6, n7]) rfl rfl hlk0 (hts _ n4) n5 hR.1, n8, hts _ n2⟩
    (b := ab) ⟨mPc.blind, mPc_at hC d2 d3 d4⟩ rfl (by rw [List.length_reverse, s1.len, List.length_reverse]) d6.choose_spec.1.1 hrev (lv_room (Nat.le_trans s3.weight hw)) hdg hR.2 (e := e) (below := below) (meth := meth)
  exact mt_back (X := fun _ _ _ => False) hC ⟨d1, d2, d3, d4, d5, d6, s3⟩ (fun T hT X => Or.inl (run T hT X)) k (fun _ _ _ z => z.elim)
/-- the constructor of Object -/
theorem mt_objInit {b index : Nat} (hdg : decode M.2.1 pc = .ok (.invokespecial index, 3)) (hlk : Cond.methodLink M.1.cls index Lib.objectInit ∈ mGw) (hin : Cond.instanceMethod Lib.objectInit ∈ mGw) (hco : Cond.code Lib.objectInit ⟨#[0xb1]⟩ 1 none ∈ mGw) (hw : (st.map mcw).sum ≤ 8) (hR : 1 ≤ R.frames ∧ 20 ≤ R.locals) (k : mT l M R K (pc + 3) ls st h n cc sc) : mT l M R K pc ls (.ref b :: st) h n cc sc := by
  intro p e s m args below meth c G w0 H locs LS ws st' hC hD
  obtain ⟨d1, d2, d3, d4, d5, d6, d7⟩ := hD
  obtain ⟨⟨x, e'⟩, t', h1, rfl, d7a⟩ := d7.ref
  have hC' := hC
  obtain ⟨hx, -, hb, -, hml, hown, hts, -, -, -, hmS, -⟩ := hC'
  have h8 := lv_room (m := m) (pc := pc) (ls := LS) (rest := .ref x :: t') (Nat.le_trans d7a.weight hw)
  exact W.objInit hx hb hown (hts _ hlk) (hts _ hin) (hts _ hco) rfl (d6.choose_spec.1.1.trans hml.symm) rfl hdg hR.1 (Nat.le_trans (Nat.add_le_add_right h8 12) hR.2) (k p e s m args below meth c G w0 H locs LS ws _ hC ⟨d1, d2, d3, d4, d5, d6, d7a⟩)
end MTD
