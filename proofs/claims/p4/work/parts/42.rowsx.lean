/-! ===== rows for text, at the class's own JDK methods: calls of an inherited method, of the super class's; fields of one byte ===== -/
/-! ===== BEGIN a method of a class above, found by the receiver, that may throw (follows va_callVU, va_runU of this kit) ===== -/
section
variable {p : Program} {l : Launch} {e : Env} {R : Room} {s : State} {m : MethodId} {args : Array Value} {below : List Frame} {meth : Method} {c : Code} {H : Heap} {locs : List Loc} {cells slots : Nat}
theorem vx_callVU {T : State} {locs : List Loc} {cells slots : Nat} (X : Stand p l e R s m args below meth c T locs cells slots) (hexec : p.tables.exec = Jvm.exec) {own C owner : String} {index : Nat} {x y : MethodName} {bytes : ByteArray} {maxL : Nat} {ret : Option FieldType}
    (hown : s.vm.findClass own = some m.cls) (hlink : (Cond.methodLink own index x).before args s = true) (hsame : (Cond.sameMethod x.cls owner x.name x.desc).before args s = true)
    (hd0 : va_Decl s ⟨owner, x.name, x.desc⟩) (howner : owner ≠ "java/lang/invoke/MethodHandle" ∧ owner ≠ "java/lang/invoke/VarHandle")
    (hsel : (Cond.selects C x y).before args s = true) (hinst : (Cond.instanceMethod y).before args s = true) (hcode : (Cond.code y bytes maxL ret).before args s = true)
    {W : Nat} {Pre : Pt → Array Value → Prop} {Post : Pt → Array Value → Option Value → Pt → Prop} {PostX : Pt → Array Value → Addr → Pt → Prop} (hK : vx_Back l R p e below s args y 3 W Pre Post PostX)
    {b : Addr} {cellB : Cell} (hcell : T.heap[b]? = some cellB) (hobj : cellB.vm.isStatics = false) (hcls : s.vm.findClass C = some cellB.cls)
    {g : JFrame} (hg : g.method = m) (hsize : g.locals.size = c.maxLocals) {argsL rest : List Value} (hlen : ∀ sig, parseMethodDescriptor x.desc = some sig → argsL.length = sig.parameters.length)
    (hstack : g.stack = argsL.reverse ++ .ref b :: rest) (hW : 2 * g.monitorRoom + (rest.map fun v => v.category).sum ≤ W) (hdg : decode c.code g.pc = .ok (.invokevirtual index, 3))
    (hpre : ∀ vm₁, s.WarmedH vm₁ → Pre ⟨T.setVm vm₁, locs, cells, slots⟩ (Value.ref b :: argsL).toArray) :
    (∃ (v : Option Value) (vm₁ : Vm) (B : Pt), s.WarmedH vm₁ ∧ Stand p l e R s m args below meth c B.U B.locs B.cells B.slots ∧ Post ⟨T.setVm vm₁, locs, cells, slots⟩ (Value.ref b :: argsL).toArray v B ∧
      ∀ target, Steps p.tables e below (B.U.setTop { g with pc := g.pc + 3, stack := v.toList ++ rest }) target → Steps p.tables e below (T.setTop g) target) ∨
    (∃ (q : Addr) (vm₁ : Vm) (B : Pt), s.WarmedH vm₁ ∧ Stand p l e R s m args below meth c B.U B.locs B.cells B.slots ∧ PostX ⟨T.setVm vm₁, locs, cells, slots⟩ (Value.ref b :: argsL).toArray q B ∧
      Steps p.tables e below (T.setTop g) ((B.U.setTop { g with stack := rest }).pushFrame (.throwing q))) := by
  obtain ⟨r0, r, hn, hrm, hstR, hsigR⟩ := hd0
  obtain ⟨cn, ck, r1, hcn, hck, hni, hf, hn1⟩ := Cond.sameMethod_found hsame
  cases hn.symm.trans hn1
  obtain ⟨mk, methM, hnamed, hmethM, -, habM⟩ := Cond.instanceMethod_spec hinst
  obtain ⟨c2, r2, m2, q1, q2, q3, q4, kP, hkP, hkPi⟩ := Cond.selects_spec hsel
  cases hcls.symm.trans q1
  cases hf.symm.trans q2
  cases hnamed.symm.trans q3
  have hselP : selectMethod e.platform s.vm cellB.cls r0 = .method mk := by rw [Launch.admits_selectMethod X.admits]; exact q4
  obtain ⟨vm₁, X₁, hstep₁⟩ := X.invokevirtualUp hexec hown hlink hsame howner hn hrm hstR (a := b) (cell := cellB) hcell
    (fun z h => by rw [h] at hobj; cases hobj) hselP hmethM habM hkP hkPi (g := g) hg (argsL := argsL) (rest := rest) (hlen _ hsigR) hstack hdg
  rcases hK m meth c ⟨T.setVm vm₁, locs, cells, slots⟩ { g with stack := rest } (.invokevirtual index) mk (Value.ref b :: argsL).toArray X₁ hg hsize hdg hW (X₁.named hnamed) (hpre vm₁ X₁.warmed) with ⟨v, B, X', hpost, hsteps⟩ | ⟨q, B, X', hpost, hsteps⟩
  · exact Or.inl ⟨v, vm₁, B, X₁.warmed, X', hpost, fun target h => hstep₁ _ fun acts => by rw [doInvoke_state]; exact hsteps.trans h⟩
  · exact Or.inr ⟨q, vm₁, B, X₁.warmed, X', hpost, hstep₁ _ fun acts => by rw [doInvoke_state]; exact hsteps⟩
theorem vx_runU {x y : MethodName} {bytes cc : ByteArray} {maxL nL mc ms n index : Nat} {ret : Option FieldType} {ws : List Cond} {rm : Room} {Pc : Array Value → State → Prop} {Qc : Array Value → State → Outcome → State → Prop} {XC : String → State → State → Prop} {free : Addr → Prop} {Ts : List Cond} {own C owner : String} {b : Addr} {As rest : List Value} {g : JFrame}
    (S : CallFix p m c cc nL s args Ts own) (hM : vx_Met l y ws rm Pc Qc XC mc ms free) (cw : va_CU R s args own C owner index x y bytes maxL ret ws rm mc ms n) (hp : PreV s H C b Pc As)
    (hg : g.method = m) (hn : As.length = n) (hsize : g.locals.size = nL) (hstack : g.stack = As.reverse ++ .ref b :: rest) (hW : 2 * g.monitorRoom + (rest.map fun v => v.category).sum ≤ 8) (hdg : decode cc g.pc = .ok (.invokevirtual index, 3)) (hf : cells + mc ≤ R.cells ∧ slots + ms ≤ R.slots) :
    vx_Run p l e R s m args below meth c H locs cells slots mc ms g rest (Qc (Value.ref b :: As).toArray) XC free := by
  obtain ⟨hrc, hrs, hfr, hlo, hws, hcw⟩ := cw.back
  have hini := cw.init
  have hK : vx_Back l R p e below s args y 3 8 (PreOf R mc ms Pc) (PostOf Qc mc ms free) (vx_Post XC mc ms free) := vx_back (bytes := bytes) (maxL := maxL) (ret := ret) hM hp.1 hrc hrs hfr hlo hws hcw (fun a' U hW => word_at hW (Or.inl (by first | rfl | simp [Cond.onTables, Cond.keeps, Cond.steady])) hini)
  obtain ⟨hx, hb, hml, ho, -⟩ := S
  obtain ⟨-, ⟨cellB, hcB, hoB, hclB⟩, hPc⟩ := hp
  intro T hT X
  rcases vx_callVU X hx (C := C) (owner := owner) (bytes := bytes) (maxL := maxL) (ret := ret) ho cw.link cw.same cw.decl cw.notMH cw.sel cw.inst cw.code hK (by rw [hT]; exact hcB) hoB hclB hg (hsize.trans hml.symm) (argsL := As) (rest := rest) (fun sig h => hn.trans (cw.len sig h)) hstack hW (by rw [hb]; exact hdg)
    (fun vm₁ hW₁ => ⟨hf.1, hf.2, hPc (T.setVm vm₁) hT hW₁⟩) with ⟨v, vm₁, ⟨U', l2, c2, s2⟩, hW₁, X', ⟨g', mk, t, L, e1, e2, hq, h1, hL, h2, h3⟩, st⟩ | ⟨q, vm₁, ⟨U', l2, c2, s2⟩, hW₁, X', ⟨g', mk, t, L, E, ce, e1, e2, hq, hce, hcv, hcl, h1, hL, h2, h3⟩, st⟩
  · dsimp only [Pt.U, Pt.locs, Pt.cells, Pt.slots] at X' e1 e2 h1 h2 h3 st
    subst h1; subst h2; subst h3
    exact Or.inl ⟨v, (T.setVm vm₁).calling g' mk (Value.ref b :: As).toArray, t, U', L, hT, X', hL, e1, e2, hq, st⟩
  · dsimp only [Pt.U, Pt.locs, Pt.cells, Pt.slots] at X' e1 e2 h1 h2 h3 st hcl
    subst h1; subst h2; subst h3
    exact Or.inr ⟨q, (T.setVm vm₁).calling g' mk (Value.ref b :: As).toArray, t, U', L, E, ce, hT, X', hL, e1, e2, hq, hce, hcv, vx_cls hW₁ hcl, st⟩
end
/-! ===== END ===== -/
/-! ===== BEGIN super.m(..) that may throw (follows va_callSU, va_runSU) ===== -/
section
variable {p : Program} {l : Launch} {e : Env} {R : Room} {s : State} {m : MethodId} {args : Array Value} {below : List Frame} {meth : Method} {c : Code} {H : Heap} {locs : List Loc} {cells slots : Nat}
theorem vx_callSU {T : State} {locs : List Loc} {cells slots : Nat} (X : Stand p l e R s m args below meth c T locs cells slots) (hexec : p.tables.exec = Jvm.exec) {own : String} {index : Nat} {y : MethodName} {bytes : ByteArray} {maxL : Nat} {ret : Option FieldType}
    (hown : s.vm.findClass own = some m.cls) (hlink : (Cond.methodLink own index y).before args s = true) (hsame : (Cond.sameMethod y.cls y.cls y.name y.desc).before args s = true) (hsup : (Cond.superclass own y.cls).before args s = true)
    (hinst : (Cond.instanceMethod y).before args s = true) (hcode : (Cond.code y bytes maxL ret).before args s = true) (hno : y.name ≠ "<init>")
    {W : Nat} {Pre : Pt → Array Value → Prop} {Post : Pt → Array Value → Option Value → Pt → Prop} {PostX : Pt → Array Value → Addr → Pt → Prop} (hK : vx_Back l R p e below s args y 3 W Pre Post PostX)
    {b : Addr} {cellB : Cell} {kB : Class} (hcell : T.heap[b]? = some cellB) (hobj : cellB.vm.isStatics = false) (hkB : s.vm.classes[cellB.cls]? = some kB)
    {g : JFrame} (hg : g.method = m) (hsize : g.locals.size = c.maxLocals) {argsL rest : List Value} (hlen : ∀ sig, parseMethodDescriptor y.desc = some sig → argsL.length = sig.parameters.length)
    (hstack : g.stack = argsL.reverse ++ .ref b :: rest) (hW : 2 * g.monitorRoom + (rest.map fun v => v.category).sum ≤ W) (hdg : decode c.code g.pc = .ok (.invokespecial index, 3))
    (hpre : ∀ vm₁, s.WarmedH vm₁ → Pre ⟨T.setVm vm₁, locs, cells, slots⟩ (Value.ref b :: argsL).toArray) :
    (∃ (v : Option Value) (vm₁ : Vm) (B : Pt), s.WarmedH vm₁ ∧ Stand p l e R s m args below meth c B.U B.locs B.cells B.slots ∧ Post ⟨T.setVm vm₁, locs, cells, slots⟩ (Value.ref b :: argsL).toArray v B ∧
      ∀ target, Steps p.tables e below (B.U.setTop { g with pc := g.pc + 3, stack := v.toList ++ rest }) target → Steps p.tables e below (T.setTop g) target) ∨
    (∃ (q : Addr) (vm₁ : Vm) (B : Pt), s.WarmedH vm₁ ∧ Stand p l e R s m args below meth c B.U B.locs B.cells B.slots ∧ PostX ⟨T.setVm vm₁, locs, cells, slots⟩ (Value.ref b :: argsL).toArray q B ∧
      Steps p.tables e below (T.setTop g) ((B.U.setTop { g with stack := rest }).pushFrame (.throwing q))) := by
  obtain ⟨mk, methM, hnamed, hmethM, hstM, habM⟩ := Cond.instanceMethod_spec hinst
  obtain ⟨methM', cM, hmethM', -, -, -, -, -, -, hsigM⟩ := Cond.code_spec hnamed hcode
  cases hmethM.symm.trans hmethM'
  obtain ⟨ps, dk, kp, hps, hdk, hkp, hsuper, -, -, hnid⟩ := Cond.superclass_spec hown hsup
  have hn : s.methodNamed? ⟨y.cls, y.name, y.desc⟩ = some mk := hnamed
  have hpm : ps = mk.cls := Option.some.inj (hps.symm.trans (findClass_of_methodNamed hnamed))
  have hsub : s.vm.isSubclass ps mk.cls = true := by rw [hpm]; simp [Vm.isSubclass, Vm.isSubclassAux]
  obtain ⟨vm₁, X₁, hstep₁⟩ := X.invokespecialUp hexec hown hlink hsame hn hmethM hstM habM hno hdk hnid hps hsuper hsub (a := b) (cell := cellB) hcell
    (fun z h => by rw [h] at hobj; cases hobj) hkB (g := g) hg (argsL := argsL) (rest := rest) (hlen _ hsigM) hstack hdg
  rcases hK m meth c ⟨T.setVm vm₁, locs, cells, slots⟩ { g with stack := rest } (.invokespecial index) mk (Value.ref b :: argsL).toArray X₁ hg hsize hdg hW (X₁.named hnamed) (hpre vm₁ X₁.warmed) with ⟨v, B, X', hpost, hsteps⟩ | ⟨q, B, X', hpost, hsteps⟩
  · exact Or.inl ⟨v, vm₁, B, X₁.warmed, X', hpost, fun target h => hstep₁ _ (by rw [doInvoke_state]; exact hsteps.trans h)⟩
  · exact Or.inr ⟨q, vm₁, B, X₁.warmed, X', hpost, hstep₁ _ (by rw [doInvoke_state]; exact hsteps)⟩
theorem vx_runSU {y : MethodName} {bytes cc : ByteArray} {maxL nL mc ms n index : Nat} {ret : Option FieldType} {ws : List Cond} {rm : Room} {Pc : Array Value → State → Prop} {Qc : Array Value → State → Outcome → State → Prop} {XC : String → State → State → Prop} {free : Addr → Prop} {Ts : List Cond} {own C : String} {cC : ClassId} {b : Addr} {As rest : List Value} {g : JFrame}
    (hat : ClassAt s C cC) (S : CallFix p m c cc nL s args Ts own) (hM : vx_Met l y ws rm Pc Qc XC mc ms free) (cw : va_CS R s args own index y bytes maxL ret ws rm mc ms n) (hp : PreV s H C b Pc As)
    (hg : g.method = m) (hn : As.length = n) (hsize : g.locals.size = nL) (hstack : g.stack = As.reverse ++ .ref b :: rest) (hW : 2 * g.monitorRoom + (rest.map fun v => v.category).sum ≤ 8) (hdg : decode cc g.pc = .ok (.invokespecial index, 3)) (hf : cells + mc ≤ R.cells ∧ slots + ms ≤ R.slots) :
    vx_Run p l e R s m args below meth c H locs cells slots mc ms g rest (Qc (Value.ref b :: As).toArray) XC free := by
  obtain ⟨⟨hrc, hrs, hfr, hlo, hws, hcw⟩, hl1, hl2, hl3, hl4, hini, hcode, hno, hlen⟩ := cw
  have hK : vx_Back l R p e below s args y 3 8 (PreOf R mc ms Pc) (PostOf Qc mc ms free) (vx_Post XC mc ms free) := vx_back (bytes := bytes) (maxL := maxL) (ret := ret) hM hp.1 hrc hrs hfr hlo hws hcw (fun a' U hW => word_at hW (Or.inl (by first | rfl | simp [Cond.onTables, Cond.keeps, Cond.steady])) hini)
  obtain ⟨hx, hb, hml, ho, -⟩ := S
  obtain ⟨-, ⟨cellB, hcB, hoB, hclB⟩, hPc⟩ := hp
  obtain ⟨hfc, kB, hkB, -⟩ := hat
  cases hfc.symm.trans hclB
  intro T hT X
  rcases vx_callSU X hx (bytes := bytes) (maxL := maxL) (ret := ret) ho hl1 hl2 hl3 hl4 hcode hno hK (by rw [hT]; exact hcB) hoB hkB hg (hsize.trans hml.symm) (argsL := As) (rest := rest) (fun sig h => hn.trans (hlen sig h)) hstack hW (by rw [hb]; exact hdg)
    (fun vm₁ hW₁ => ⟨hf.1, hf.2, hPc (T.setVm vm₁) hT hW₁⟩) with ⟨v, vm₁, ⟨U', l2, c2, s2⟩, hW₁, X', ⟨g', mk, t, L, e1, e2, hq, h1, hL, h2, h3⟩, st⟩ | ⟨q, vm₁, ⟨U', l2, c2, s2⟩, hW₁, X', ⟨g', mk, t, L, E, ce, e1, e2, hq, hce, hcv, hcl, h1, hL, h2, h3⟩, st⟩
  · dsimp only [Pt.U, Pt.locs, Pt.cells, Pt.slots] at X' e1 e2 h1 h2 h3 st
    subst h1; subst h2; subst h3
    exact Or.inl ⟨v, (T.setVm vm₁).calling g' mk (Value.ref b :: As).toArray, t, U', L, hT, X', hL, e1, e2, hq, st⟩
  · dsimp only [Pt.U, Pt.locs, Pt.cells, Pt.slots] at X' e1 e2 h1 h2 h3 st hcl
    subst h1; subst h2; subst h3
    exact Or.inr ⟨q, (T.setVm vm₁).calling g' mk (Value.ref b :: As).toArray, t, U', L, E, ce, hT, X', hL, e1, e2, hq, hce, hcv, vx_cls hW₁ hcl, st⟩
end
/-! ===== END ===== -/
section MTW
variable {l : Launch} {M : mM} {R : Room} {K : mK} {pc : Nat} {ls st : List Value} {h : mH} {n cc sc : Nat}
def mU (N : mM) (k : Nat) : Prop := mWd N ∈ mGw ∧ Cond.instanceMethod N.1 ∈ mGw ∧ Cond.initialized N.1.cls ∈ mGw ∧ mNm N k ∧ N.2.2.2.2.1 = []
/-- a method of the class above, on an object of class C -/
theorem mt_callU {N : mM} {Rc : Room} {As stk : List Value} {b ci Nf index : Nat} {C : String} {T : u_T} {ty0 : Nat → FieldType} {fs : List Value} {Φ : Option Value → mH → Nat → Prop} {X : String → mH → Nat → Prop}
    (hdg : decode M.2.1 pc = .ok (.invokevirtual index, 3)) (hCt : mC l N Rc (.ref b :: As) h n Φ X) (hN : mU N As.length) (hsel : Cond.selects C N.1 N.1 ∈ mGw) (hlk : Cond.methodLink M.1.cls index N.1 ∈ mGw) (hc : mCl ci C T Nf ty0) (hb : h b = .inr (.inr (ci, fs))) (hst : stk = As.reverse ++ .ref b :: st) (hw : (st.map mcw).sum ≤ 8) (hR : mRm R Rc N cc sc)
    (k : ∀ v h' n', Φ v h' n' → mT l M R K (pc + 3) ls (v.toList ++ st) h' n' (cc + Rc.cells) (sc + Rc.slots)) (kx : ∀ E h' n', X E h' n' → mTX l M R K pc ls E h' n' (cc + Rc.cells) (sc + Rc.slots)) : mT l M R K pc ls stk h n cc sc := by
  intro p e s m args below meth c G w0 H locs LS ws st' hC hD
  subst hst
  obtain ⟨d1, d2, d3, d4, d5, d6, d7⟩ := hD
  obtain ⟨sa, sb, rfl, s1, s2⟩ := mrl.split d7
  obtain ⟨⟨ab, eb⟩, t', hwb, rfl, s3⟩ := s2.ref
  have hav : mrl G.2.2.2.1 ws (.ref b :: As) (.ref ab :: sa.reverse) := mrl.cons ⟨_, hwb, rfl⟩ (by have := s1.rev; rwa [List.reverse_reverse] at this)
  have hC' := hC
  obtain ⟨hx, -, hbb, -, hml, hown, hts, -, -, -, hmS, -⟩ := hC'
  obtain ⟨n1, n2, n4, n5, n6⟩ := hN
  have hr := d1.at hwb
  rw [hb] at hr
  obtain ⟨fs', rfl, -⟩ := hr
  have hrev : sa ++ (Value.ref ab :: t') = sa.reverse.reverse ++ (Value.ref ab :: t') := by rw [List.reverse_reverse]
  have run := vx_runV (R := R) (locs := locs) (cells := cc) (slots := sc) (C := C) (As := sa.reverse) (rest := t') (g := F0 m pc LS (sa ++ (Value.ref ab :: t'))) ⟨hx, hbb, hml, hown, hts⟩ (hCt G ws H.size _ d1 hav)
    (n := As.length) (index := index) (own := M.1.cls) (ret := N.2.2.2.1) (bytes := N.2.1) (maxL := N.2.2.1)
    ⟨callB_of As.length hts (mGoodG n1) (mWs_nil n6) rfl rfl (hts _ n4) (hts _ hlk) n5 hR.1, hts _ n2, hts _ hsel⟩
    (b := ab) ⟨mPc.blind, va_recv hmS.1 d2 hc.1 hwb, mPc_at hC d2 d3 d4⟩ rfl (by rw [List.length_reverse, s1.len, List.length_reverse]) d6.choose_spec.1.1 hrev (lv_room (Nat.le_trans s3.weight hw)) hdg hR.2 (e := e) (below := below) (meth := meth)
  exact mt_back hC ⟨d1, d2, d3, d4, d5, d6, s3⟩ run k kx
/-- a method that the class C declares anew: the reference names the class above (x), the code is C's own -/
theorem mt_callO {N : mM} {Rc : Room} {As stk : List Value} {b ci Nf index : Nat} {C : String} {x : MethodName} {b0 : ByteArray} {m0 : Nat} {r0 : Option FieldType} {T : u_T} {ty0 : Nat → FieldType} {fs : List Value} {Φ : Option Value → mH → Nat → Prop} {X : String → mH → Nat → Prop}
    (hdg : decode M.2.1 pc = .ok (.invokevirtual index, 3)) (hCt : mC l N Rc (.ref b :: As) h n Φ X) (hN : mU N As.length) (hsel : Cond.selects C x N.1 ∈ mGw) (hlk : Cond.methodLink M.1.cls index x ∈ mGw) (hsame : Cond.sameMethod x.cls x.cls x.name x.desc ∈ mGw) (hxi : Cond.instanceMethod x ∈ mGw) (hxc : Cond.code x b0 m0 r0 ∈ mGw) (hxd : x.desc = N.1.desc) (hxm : x.cls ≠ "java/lang/invoke/MethodHandle" ∧ x.cls ≠ "java/lang/invoke/VarHandle") (hc : mCl ci C T Nf ty0) (hb : h b = .inr (.inr (ci, fs))) (hst : stk = As.reverse ++ .ref b :: st) (hw : (st.map mcw).sum ≤ 8) (hR : mRm R Rc N cc sc)
    (k : ∀ v h' n', Φ v h' n' → mT l M R K (pc + 3) ls (v.toList ++ st) h' n' (cc + Rc.cells) (sc + Rc.slots)) (kx : ∀ E h' n', X E h' n' → mTX l M R K pc ls E h' n' (cc + Rc.cells) (sc + Rc.slots)) : mT l M R K pc ls stk h n cc sc := by
  intro p e s m args below meth c G w0 H locs LS ws st' hC hD
  subst hst
  obtain ⟨d1, d2, d3, d4, d5, d6, d7⟩ := hD
  obtain ⟨sa, sb, rfl, s1, s2⟩ := mrl.split d7
  obtain ⟨⟨ab, eb⟩, t', hwb, rfl, s3⟩ := s2.ref
  have hav : mrl G.2.2.2.1 ws (.ref b :: As) (.ref ab :: sa.reverse) := mrl.cons ⟨_, hwb, rfl⟩ (by have := s1.rev; rwa [List.reverse_reverse] at this)
  have hC' := hC
  obtain ⟨hx, -, hbb, -, hml, hown, hts, -, -, -, hmS, -⟩ := hC'
  obtain ⟨n1, n2, n4, n5, n6⟩ := hN
  have hr := d1.at hwb
  rw [hb] at hr
  obtain ⟨fs', rfl, -⟩ := hr
  have hrev : sa ++ (Value.ref ab :: t') = sa.reverse.reverse ++ (Value.ref ab :: t') := by rw [List.reverse_reverse]
  have hcm : Cond.code N.1 N.2.1 N.2.2.1 N.2.2.2.1 ∈ mWs N := by rw [mWs_nil n6]; exact List.mem_cons_self
  have run := vx_runU (R := R) (locs := locs) (cells := cc) (slots := sc) (C := C) (owner := x.cls) (x := x) (y := N.1) (As := sa.reverse) (rest := t') (g := F0 m pc LS (sa ++ (Value.ref ab :: t'))) ⟨hx, hbb, hml, hown, hts⟩ (hCt G ws H.size _ d1 hav)
    (n := As.length) (index := index) (own := M.1.cls) (ret := N.2.2.2.1) (bytes := N.2.1) (maxL := N.2.2.1)
    ⟨⟨rfl, rfl, hR.1.1, hR.1.2, pay_in hts (mGoodG n1), hcm⟩, hts _ ((mGoodG n1) _ hcm).1, hts _ n4, hxm, fun sig hs => by have h2 := n5.2.2; rw [← hxd, hs] at h2; exact (Option.some.inj h2).symm, hts _ hlk, hts _ hsame, va_Decl.of (hts _ hxi) (hts _ hxc), hts _ hsel, hts _ n2⟩
    (b := ab) ⟨mPc.blind, va_recv hmS.1 d2 hc.1 hwb, mPc_at hC d2 d3 d4⟩ rfl (by rw [List.length_reverse, s1.len, List.length_reverse]) d6.choose_spec.1.1 hrev (lv_room (Nat.le_trans s3.weight hw)) hdg hR.2 (e := e) (below := below) (meth := meth)
  exact mt_back hC ⟨d1, d2, d3, d4, d5, d6, s3⟩ run k kx
/-- super.m(..) -/
theorem mt_callSU {N : mM} {Rc : Room} {As stk : List Value} {b ci Nf index : Nat} {C : String} {T : u_T} {ty0 : Nat → FieldType} {fs : List Value} {Φ : Option Value → mH → Nat → Prop} {X : String → mH → Nat → Prop}
    (hdg : decode M.2.1 pc = .ok (.invokespecial index, 3)) (hCt : mC l N Rc (.ref b :: As) h n Φ X) (hN : mU N As.length) (hno : N.1.name ≠ "<init>") (hlk : Cond.methodLink M.1.cls index N.1 ∈ mGw) (hsame : Cond.sameMethod N.1.cls N.1.cls N.1.name N.1.desc ∈ mGw) (hsup : Cond.superclass M.1.cls N.1.cls ∈ mGw) (hc : mCl ci C T Nf ty0) (hb : h b = .inr (.inr (ci, fs))) (hst : stk = As.reverse ++ .ref b :: st) (hw : (st.map mcw).sum ≤ 8) (hR : mRm R Rc N cc sc)
    (k : ∀ v h' n', Φ v h' n' → mT l M R K (pc + 3) ls (v.toList ++ st) h' n' (cc + Rc.cells) (sc + Rc.slots)) (kx : ∀ E h' n', X E h' n' → mTX l M R K pc ls E h' n' (cc + Rc.cells) (sc + Rc.slots)) : mT l M R K pc ls stk h n cc sc := by
  intro p e s m args below meth c G w0 H locs LS ws st' hC hD
  subst hst
  obtain ⟨d1, d2, d3, d4, d5, d6, d7⟩ := hD
  obtain ⟨sa, sb, rfl, s1, s2⟩ := mrl.split d7
  obtain ⟨⟨ab, eb⟩, t', hwb, rfl, s3⟩ := s2.ref
  have hav : mrl G.2.2.2.1 ws (.ref b :: As) (.ref ab :: sa.reverse) := mrl.cons ⟨_, hwb, rfl⟩ (by have := s1.rev; rwa [List.reverse_reverse] at this)
  have hC' := hC
  obtain ⟨hx, -, hbb, -, hml, hown, hts, -, -, -, hmS, -⟩ := hC'
  obtain ⟨n1, n2, n4, n5, n6⟩ := hN
  have hr := d1.at hwb
  rw [hb] at hr
  obtain ⟨fs', rfl, -⟩ := hr
  have hrev : sa ++ (Value.ref ab :: t') = sa.reverse.reverse ++ (Value.ref ab :: t') := by rw [List.reverse_reverse]
  have hcm : Cond.code N.1 N.2.1 N.2.2.1 N.2.2.2.1 ∈ mWs N := by rw [mWs_nil n6]; exact List.mem_cons_self
  have run := vx_runSU (R := R) (locs := locs) (cells := cc) (slots := sc) (C := C) (As := sa.reverse) (rest := t') (g := F0 m pc LS (sa ++ (Value.ref ab :: t'))) (hmS.1.1 ci _ hc.1).2 ⟨hx, hbb, hml, hown, hts⟩ (hCt G ws H.size _ d1 hav)
    (n := As.length) (index := index) (own := M.1.cls) (ret := N.2.2.2.1) (bytes := N.2.1) (maxL := N.2.2.1)
    ⟨⟨rfl, rfl, hR.1.1, hR.1.2, pay_in hts (mGoodG n1), hcm⟩, hts _ hlk, hts _ hsame, hts _ hsup, hts _ n2, hts _ n4, hts _ ((mGoodG n1) _ hcm).1, hno, fun sig hs => by have h2 := n5.2.2; rw [hs] at h2; exact (Option.some.inj h2).symm⟩
    (b := ab) ⟨mPc.blind, va_recv hmS.1 d2 hc.1 hwb, mPc_at hC d2 d3 d4⟩ rfl (by rw [List.length_reverse, s1.len, List.length_reverse]) d6.choose_spec.1.1 hrev (lv_room (Nat.le_trans s3.weight hw)) hdg hR.2 (e := e) (below := below) (meth := meth)
  exact mt_back hC ⟨d1, d2, d3, d4, d5, d6, s3⟩ run k kx
/-- an int into a field that is shorter than one -/
theorem mt_putI {a ci i : Nat} {C : String} {T : u_T} {N index : Nat} {ty0 : Nat → FieldType} {fs : List Value} {x : Int32} (hc : mCl ci C T N ty0) (hk : i < N) (hlink : Cond.fieldLink M.1.cls index (T i).1 (T i).2.1 (T i).2.2.1 ∈ mGw) (hfin : (T i).2.2.2 = false) (hdg : decode M.2.1 pc = .ok (.putfield index, 3)) (he : h a = .inr (.inr (ci, fs))) (hl : i < fs.length) (f1 : narrow (ty0 i) (.int x) = .int x) (f2 : fits (ty0 i) (.int x) = true) (k : mT l M R K (pc + 3) ls st (mup h a (.inr (.inr (ci, fs.set i (.int x))))) n cc sc) : mT l M R K pc ls (.int x :: .ref a :: st) h n cc sc := by
  intro p e s m args below meth c G w0 H locs LS ws st' hC hD
  obtain ⟨d1, d2, d3, d4, d5, d6, d7⟩ := hD
  obtain ⟨t1, rfl, d7b⟩ := d7.int
  obtain ⟨⟨q, e'⟩, t', h1, rfl, d7a⟩ := d7b.ref
  have hr := d1.at h1
  rw [he] at hr
  obtain ⟨fs', rfl, h3⟩ := hr
  have hC' := hC
  obtain ⟨hx, -, hb, -, -, hown, hts, -, -, -, hmS, -⟩ := hC'
  refine va_put hx hb hts hc.2.1 ty0 hc.2.2.1 hc.2.2.2 hown hmS.1 d2 d3 d4 a h1 hc.1 i hk (hts _ hlink) (fun _ q => q) hfin (hc.2.2.1 i hk) f1 f2 (by rw [h3.len]; exact hl) hdg (fun H1 locs1 g1 g2 g3 => ?_)
  have hE := mExt.set (e := .inr (ci, fs'.set i (.int x))) h1
  exact k p e s m args below meth c G w0 H1 locs1 LS _ _ hC ⟨d1.set h1 ⟨_, rfl, h3.set rfl⟩, g1, g2, g3, d5.tr hE, d6.mono hE, d7a.mono hE⟩
theorem mt_putFI {a ci i : Nat} {C : String} {T : u_T} {N index : Nat} {ty0 : Nat → FieldType} {fs : List Value} {x : Int32} (hc : mCl ci C T N ty0) (hk : i < N) (hlink : Cond.fieldLink M.1.cls index (T i).1 (T i).2.1 (T i).2.2.1 ∈ mGw) (hfin : (T i).2.2.2 = true) (hin : M.1.name = "<init>") (hdecl : (T i).1 = M.1.cls) (hdg : decode M.2.1 pc = .ok (.putfield index, 3)) (he : h a = .inr (.inr (ci, fs))) (hl : i < fs.length) (f1 : narrow (ty0 i) (.int x) = .int x) (f2 : fits (ty0 i) (.int x) = true) (k : mT l M R K (pc + 3) ls st (mup h a (.inr (.inr (ci, fs.set i (.int x))))) n cc sc) : mT l M R K pc ls (.int x :: .ref a :: st) h n cc sc := by
  intro p e s m args below meth c G w0 H locs LS ws st' hC hD
  obtain ⟨d1, d2, d3, d4, d5, d6, d7⟩ := hD
  obtain ⟨t1, rfl, d7b⟩ := d7.int
  obtain ⟨⟨q, e'⟩, t', h1, rfl, d7a⟩ := d7b.ref
  have hr := d1.at h1
  rw [he] at hr
  obtain ⟨fs', rfl, h3⟩ := hr
  have hC' := hC
  obtain ⟨hx, -, hb, -, -, hown, hts, -, hnm, -, hmS, -⟩ := hC'
  refine va_putF hx hb hts hc.2.1 ty0 hc.2.2.1 hc.2.2.2 hown hmS.1 d2 d3 d4 a h1 hc.1 i hk (hts _ hlink) (fun _ q => q) hfin (hnm.trans hin) hdecl (hc.2.2.1 i hk) f1 f2 (by rw [h3.len]; exact hl) hdg (fun H1 locs1 g1 g2 g3 => ?_)
  have hE := mExt.set (e := .inr (ci, fs'.set i (.int x))) h1
  exact k p e s m args below meth c G w0 H1 locs1 LS _ _ hC ⟨d1.set h1 ⟨_, rfl, h3.set rfl⟩, g1, g2, g3, d5.tr hE, d6.mono hE, d7a.mono hE⟩
theorem mp_putI {a ci i : Nat} {C : String} {T : u_T} {N index : Nat} {ty0 : Nat → FieldType} {fs fs' : List Value} {x : Int32} (hc : mCl ci C T N ty0) (hk : i < N) (hlink : Cond.fieldLink M.1.cls index (T i).1 (T i).2.1 (T i).2.2.1 ∈ mGw) (hfin : (T i).2.2.2 = false) (hdg : decode M.2.1 pc = .ok (.putfield index, 3)) (he : h a = .inr (.inr (ci, fs))) (hl : i < fs.length) (hfs : fs.set i (.int x) = fs') (f1 : narrow (ty0 i) (.int x) = .int x) (f2 : fits (ty0 i) (.int x) = true) (k : ∀ h' : mH, h' a = .inr (.inr (ci, fs')) → (∀ j, j ≠ a → h' j = h j) → mT l M R K (pc + 3) ls st h' n cc sc) : mT l M R K pc ls (.int x :: .ref a :: st) h n cc sc := mt_putI hc hk hlink hfin hdg he hl f1 f2 (by subst hfs; exact k _ mup_s (fun j hj => mup_n hj))
theorem mp_putFI {a ci i : Nat} {C : String} {T : u_T} {N index : Nat} {ty0 : Nat → FieldType} {fs fs' : List Value} {x : Int32} (hc : mCl ci C T N ty0) (hk : i < N) (hlink : Cond.fieldLink M.1.cls index (T i).1 (T i).2.1 (T i).2.2.1 ∈ mGw) (hfin : (T i).2.2.2 = true) (hin : M.1.name = "<init>") (hdecl : (T i).1 = M.1.cls) (hdg : decode M.2.1 pc = .ok (.putfield index, 3)) (he : h a = .inr (.inr (ci, fs))) (hl : i < fs.length) (hfs : fs.set i (.int x) = fs') (f1 : narrow (ty0 i) (.int x) = .int x) (f2 : fits (ty0 i) (.int x) = true) (k : ∀ h' : mH, h' a = .inr (.inr (ci, fs')) → (∀ j, j ≠ a → h' j = h j) → mT l M R K (pc + 3) ls st h' n cc sc) : mT l M R K pc ls (.int x :: .ref a :: st) h n cc sc := mt_putFI hc hk hlink hfin hin hdecl hdg he hl f1 f2 (by subst hfs; exact k _ mup_s (fun j hj => mup_n hj))
theorem mt_aconst_null (hdg : decode M.2.1 pc = .ok (.aconst_null, 1)) (k : mT l M R K (pc + 1) ls (.null :: st) h n cc sc) : mT l M R K pc ls st h n cc sc := mt_lift k (fun _ _ _ hx hb hr => ⟨_, mrl.cons (v' := .null) rfl hr, lv_null hx hb hdg⟩)
theorem mt_ifnonnullX {off : Int} {tgt : Nat} (hdg : decode M.2.1 pc = .ok (.ifnonnull off, 3)) (ht : (pc : Int) + off = (tgt : Int)) (k : mT l M R K tgt ls st h n cc sc) : mT l M R K pc ls (.retAddr 1 :: st) h n cc sc := mt_lift k (fun _ _ _ hx hb hr => by
  obtain ⟨v', t', rfl, hv, hr2⟩ := hr
  obtain rfl : v' = .ref _ := hv
  exact ⟨_, hr2, lv_ifnonnull hx hb hdg ht⟩)
theorem mp_bastore {a len j : Nat} {x : Int32} {f : Nat → Int32} (hdg : decode M.2.1 pc = .ok (.bastore, 1)) (he : h a = .inl (1, len, f)) (hj : j < len) (hL : len < 2 ^ 31) (k : ∀ h' : mH, h' a = .inl (1, len, upd f j (vp_nar .byte x)) → (∀ j, j ≠ a → h' j = h j) → mT l M R K (pc + 1) ls st h' n cc sc) : mT l M R K pc ls (.int x :: .int (nI j) :: .ref a :: st) h n cc sc := mt_bastore hdg he hj hL (k _ mup_s (fun j hj => mup_n hj))
theorem mp_newarrayB {len : Nat} (hdg : decode M.2.1 pc = .ok (.newarray .byte, 2)) (harr : Cond.arrayClass .byte ∈ mGw) (hL : len < 2 ^ 27) (hcc : cc + 1 ≤ R.cells) (hsc : sc + len ≤ R.slots) (k : ∀ h' : mH, h' n = .inl (1, len, fun _ => 0) → (∀ j, j ≠ n → h' j = h j) → mT l M R K (pc + 2) ls (.ref n :: st) h' (n + 1) (cc + 1) (sc + len)) : mT l M R K pc ls (.int (nI len) :: st) h n cc sc := mt_newarrayB hdg harr hL hcc hsc (k _ mup_s (fun j hj => mup_n hj))
theorem mp_acopyB {a b la lb sp dp cnt index : Nat} {f g : Nat → Int32} (hdg : decode M.2.1 pc = .ok (.invokestatic index, 3)) (hlk : Cond.methodLink M.1.cls index arraycopyName ∈ mGw) (hnat : Cond.native arraycopyName ∈ mGw) (hst : Cond.static arraycopyName ∈ mGw) (hini : Cond.initialized "java/lang/System" ∈ mGw) (ha : h a = .inl (1, la, f)) (hb : h b = .inl (1, lb, g)) (hf : bFit f) (h4 : sp + cnt ≤ la) (h5 : dp + cnt ≤ lb) (hla : la < 2 ^ 31) (hlb : lb < 2 ^ 31) (hw : (st.map mcw).sum ≤ 8) (hR : 1 ≤ R.frames ∧ 8 + 18 ≤ R.locals) (k : ∀ h' : mH, h' b = .inl (1, lb, va_cpy f g sp dp cnt) → (∀ j, j ≠ b → h' j = h j) → mT l M R K (pc + 3) ls st h' n cc sc) : mT l M R K pc ls (.int (nI cnt) :: .int (nI dp) :: .ref b :: .int (nI sp) :: .ref a :: st) h n cc sc := mt_acopyB hdg hlk hnat hst hini ha hb hf h4 h5 hla hlb hw hR (k _ mup_s (fun j hj => mup_n hj))
theorem mp_xcopy {b lb dp index : Nat} {g : Nat → Int32} (hdg : decode M.2.1 pc = .ok (.invokestatic index, 3)) (hlk : Cond.methodLink M.1.cls index arraycopyName ∈ mGw) (hnat : Cond.native arraycopyName ∈ mGw) (hst : Cond.static arraycopyName ∈ mGw) (hini : Cond.initialized "java/lang/System" ∈ mGw) (hb : h b = .inl (1, lb, g)) (hg : bFit g) (h5 : dp + 1 ≤ lb) (hlb : lb < 2 ^ 31) (hw : (st.map mcw).sum ≤ 8) (hR : 1 ≤ R.frames ∧ 8 + 18 ≤ R.locals) (k : ∀ (g' : Nat → Int32) (h' : mH), bFit g' → h' b = .inl (1, lb, g') → (∀ j, j ≠ b → h' j = h j) → mT l M R K (pc + 3) ls st h' n cc sc) : mT l M R K pc ls (.int (nI 1) :: .int (nI dp) :: .ref b :: .int (nI 0) :: .retAddr 2 :: st) h n cc sc := mt_xcopy hdg hlk hnat hst hini hb h5 hlb hw hR (fun f hf => k _ _ (fun j => by
  by_cases e : dp ≤ j ∧ j < dp + 1
  · rw [pk_cpy_in e.1 e.2, show 0 + (j - dp) = 0 by omega]
    exact hf
  · rw [pk_cpy_out (by omega)]
    exact hg j) mup_s (fun j hj => mup_n hj))
theorem mp_cloneB {a len index : Nat} {f : Nat → Int32} (hdg : decode M.2.1 pc = .ok (.invokevirtual index, 3)) (hlk : Cond.methodLink M.1.cls index ⟨"[B", "clone", "()Ljava/lang/Object;"⟩ ∈ mGw) (he : h a = .inl (1, len, f)) (hf : bFit f) (hw : (st.map mcw).sum ≤ 8) (hR : 1 ≤ R.frames ∧ 8 + 14 ≤ R.locals) (hcc : cc + 1 ≤ R.cells) (hsc : sc + len ≤ R.slots) (k : ∀ h' : mH, h' n = .inl (1, len, f) → (∀ j, j ≠ n → h' j = h j) → mT l M R K (pc + 3) ls (.ref n :: st) h' (n + 1) (cc + 1) (sc + len)) : mT l M R K pc ls (.ref a :: st) h n cc sc := mt_cloneB hdg hlk mw_699 mw_700 mw_701 mw_702 mw_703 he hf hw hR hcc hsc (k _ mup_s (fun j hj => mup_n hj))
end MTW
theorem bFit0 : bFit (fun _ => 0) := sb_fit0
theorem bFit.u {a : Nat → Int32} {k : Nat} {x : Int32} (h : bFit a) : bFit (upd a k (vp_nar .byte x)) := sb_fitU h (pk_fb x)
theorem bFit.c {f g : Nat → Int32} {sp dp n : Nat} (hf : bFit f) (hg : bFit g) : bFit (va_cpy f g sp dp n) := sb_fitC hf hg
theorem mDJ0 : ∀ j, j < 4 → defaultValue (tyJ0 j) = vp_V [.null, .int (nI 0), .int (nI 0), .int (nI 0)] j
  | 0, _ => rfl
  | 1, _ => rfl
  | 2, _ => rfl
  | 3, _ => rfl
  | _ + 4, h => by omega
theorem mDJ4 : ∀ j, j < 4 → defaultValue (tyJ4 j) = vp_V [.null, .int (nI 0), .int (nI 0), .int (nI 0)] j
  | 0, _ => rfl
  | 1, _ => rfl
  | 2, _ => rfl
  | 3, _ => rfl
  | _ + 4, h => by omega
/-! negative numbers down to the least -/
theorem ngT {u : Nat} (hu : u ≤ 2 ^ 31) : (-nI u).toInt = -(u : Int) := by
  rcases Nat.lt_or_ge u (2 ^ 31) with q | q
  · exact sb_negT q
  · obtain rfl : u = 2 ^ 31 := Nat.le_antisymm hu q
    decide
theorem ng_le {a b : Nat} (ha : a ≤ 2 ^ 31) (hb : b ≤ 2 ^ 31) : -nI a ≤ -nI b ↔ b ≤ a := by
  rw [Int32.le_iff_toInt_le, ngT ha, ngT hb]
  omega
theorem ng_lt {a b : Nat} (ha : a ≤ 2 ^ 31) (hb : b ≤ 2 ^ 31) : -nI a < -nI b ↔ b < a := by
  rw [Int32.lt_iff_toInt_lt, ngT ha, ngT hb]
  omega
theorem ng_div {w : Nat} (hw : w ≤ 2 ^ 31) : (-nI w) / 100 = -nI (w / 100) := by
  apply Int32.toInt_inj.mp
  have h100 : (100 : Int32).toInt = 100 := by decide
  rw [Int32.toInt_div, ngT hw, h100, ngT (by omega), Int.neg_tdiv, Int.tdiv_eq_ediv_of_nonneg (by omega), Int.bmod_eq_of_le (by omega) (by omega)]
  omega
theorem ng_rem {w : Nat} (hw : w ≤ 2 ^ 31) : (-nI (w / 100)) * 100 - (-nI w) = nI (w % 100) := by
  rcases Nat.lt_or_ge w (2 ^ 31) with q | q
  · exact sb_nrem q
  · obtain rfl : w = 2 ^ 31 := Nat.le_antisymm hw q
    decide
/-- every number is the negative of a natural, or a natural -/
theorem ng_of {x : Int32} (h : x < 0) : ∃ u : Nat, 0 < u ∧ u ≤ 2 ^ 31 ∧ x = -nI u := by
  rw [Int32.lt_iff_toInt_lt] at h
  have h0 : (0 : Int32).toInt = 0 := by decide
  have hx := Int32.le_toInt x
  refine ⟨(-x.toInt).toNat, by omega, by omega, Int32.toInt_inj.mp ?_⟩
  rw [ngT (by omega)]
  omega
theorem ng_pos {u : Nat} (hu : u ≤ 2 ^ 31) : ¬ -nI u ≥ 0 ∨ u = 0 := by
  rcases Nat.eq_zero_or_pos u with q | q
  · exact Or.inr q
  · refine Or.inl (fun z => ?_)
    have z1 := Int32.le_iff_toInt_le.mp z
    rw [ngT hu] at z1
    have h0 : (0 : Int32).toInt = 0 := by decide
    omega
theorem ng_neg (u : Nat) : -(-nI u) = nI u := Int32.neg_neg
