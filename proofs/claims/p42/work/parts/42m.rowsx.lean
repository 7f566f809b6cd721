/-! ===== rows for text, at the class's own JDK methods: calls of an inherited method, of the super class's; fields of one byte ===== -/
/-! ===== BEGIN a method of a class above, found by the receiver, that may throw (follows va_callVU, va_runU of this kit) ===== -/
section
variable {p : Program} {l : Launch} {e : Env} {R : Room} {s : State} {m : MethodId} {args : Array Value} {below : List Frame} {meth : Method} {c : Code} {H : Heap} {locs : List Loc} {cells slots : Nat}
theorem vx_callVU {T : State} {locs : List Loc} {cells slots : Nat} (X : Stand p l e R s m args below meth c T locs cells slots) (hexec : p.tables.exec = Jvm.exec) {own C owner : String} {index : Nat} {x y : MethodName} {bytes : ByteArray} {maxL : Nat} {ret : Option FieldType}
    (hown : s.vm.findClass own = some m.cls) (hlink : (Cond.methodLink own index x).before args s = true) (hsame : (Cond.sameMethod x.cls owner x.name x.desc).before args s = true)
    (hd0 : va_Decl s ⟨owner, x.name, x.desc⟩) (howner : owner ≠ "java/lang/invoke/MethodHandle" ∧ owner ≠ "java/lang/invoke/VarHandle")
    (hsel : (Cond.selects C x y).before args s = true) (hinst : (Cond.instanceMethod y).before args s = true) (hcode : (Cond.code y bytes maxL ret).before args s = true)
    {W : Nat} {Pre : Pt → Array Value → Prop} {Post : Pt → Array Value → Option Value → Pt → Prop} {PostX : Pt → Array Value → Addr → Pt → Prop} (hK : vx_Back l R p e below s args y 3 W Pre Post PostX)
    {b : Addr} {cellB : Cell} (hcell : T.heap[b]? = some cellB) (hobj : cellB.vm.isStatics = false) (hcls : s.vm.findClass C = some cellB.cls)
    {g : JFrame} (hg : g.method = m) (hsize : g.locals.size = c.maxLocals) {argsL rest : List Value} (hlen : ∀ sig, parseMethodDescriptor x.desc = some sig → argsL.length = sig.parameters.length)
    (hstack : g.stack = argsL.reverse ++ .ref b :: rest) (hW : 2 * g.monitorRoom + (rest.map fun v => v.category).sum ≤ W) (hdg : decode c.code g.pc = .ok (.invokevirtual index, 3))
    (hpre : ∀ vm₁, s.WarmedH vm₁ → Pre ⟨T.setVm vm₁, locs, cells, slots⟩ (Value.ref b :: argsL).toArray) :
    (∃ (v : Option Value) (vm₁ : Vm) (B : Pt), s.WarmedH vm₁ ∧ Stand p l e R s m args below meth c B.U B.locs B.cells B.slots ∧ Post ⟨T.setVm vm₁, locs, cells, slots⟩ (Value.ref b :: argsL).toArray v B ∧
      ∀ target, Steps p.tables e below (B.U.setTop { g with pc := g.pc + 3, stack := v.toList ++ rest }) target → Steps p.tables e below (T.setTop g) target) ∨
    (∃ (q : Addr) (vm₁ : Vm) (B : Pt), s.WarmedH vm₁ ∧ Stand p l e R s m args below meth c B.U B.locs B.cells B.slots ∧ PostX ⟨T.setVm vm₁, locs, cells, slots⟩ (Value.ref b :: argsL).toArray q B ∧
      Steps p.tables e below (T.setTop g) ((B.U.setTop { g with stack := rest }).pushFrame (.throwing q))) := by
  obtain ⟨r0, r, hn, hrm, hstR, hsigR⟩ := hd0
  obtain ⟨cn, ck, r1, hcn, hck, hni, hf, hn1⟩ := Cond.sameMethod_found hsame
  cases hn.symm.trans hn1
  obtain ⟨mk, methM, hnamed, hmethM, -, habM⟩ := Cond.instanceMethod_spec hinst
  obtain ⟨c2, r2, m2, q1, q2, q3, q4, kP, hkP, hkPi⟩ := Cond.selects_spec hsel
  cases hcls.symm.trans q1
  cases hf.symm.trans q2
  cases hnamed.symm.trans q3
  have hselP : selectMethod e.platform s.vm cellB.cls r0 = .method mk := by rw [Launch.admits_selectMethod X.admits]; exact q4
  obtain ⟨vm₁, X₁, hstep₁⟩ := X.invokevirtualUp hexec hown hlink hsame howner hn hrm hstR (a := b) (cell := cellB) hcell
    (fun z h => by rw [h] at hobj; cases hobj) hselP hmethM habM hkP hkPi (g := g) hg (argsL := argsL) (rest := rest) (hlen _ hsigR) hstack hdg
  rcases hK m meth c ⟨T.setVm vm₁, locs, cells, slots⟩ { g with stack := rest } (.invokevirtual index) mk (Value.ref b :: argsL).toArray X₁ hg hsize hdg hW (X₁.named hnamed) (hpre vm₁ X₁.warmed) with ⟨v, B, X', hpost, hsteps⟩ | ⟨q, B, X', hpost, hsteps⟩
  · exact Or.inl ⟨v, vm₁, B, X₁.warmed, X', hpost, fun target h => hstep₁ _ fun acts => by rw [doInvoke_state]; exact hsteps.trans h⟩
  · exact Or.inr ⟨q, vm₁, B, X₁.warmed, X', hpost, hstep₁ _ fun acts => by rw [doInvoke_state]; exact hsteps⟩
theorem vx_runU {x y : MethodName} {bytes cc : ByteArray} {maxL nL mc ms n index : Nat} {ret : Option FieldType} {ws : List Cond} {rm : Room} {Pc : Array Value → State → Prop} {Qc : Array Value → State → Outcome → State → Prop} {XC : String → State → State → Prop} {free : Addr → Prop} {Ts : List Cond} {own C owner : String} {b : Addr} {As rest : List Value} {g : JFrame}
    (S : CallFix p m c cc nL s args Ts own) (hM : vx_Met l y ws rm Pc Qc XC mc ms free) (cw : va_CU R s args own C owner index x y bytes maxL ret ws rm mc ms n) (hp : PreV s H C b Pc As)
    (hg : g.method = m) (hn : As.length = n) (hsize : g.locals.size = nL) (hstack : g.stack = As.reverse ++ .ref b :: rest) (hW : 2 * g.monitorRoom + (rest.map fun v => v.category).sum ≤ 8) (hdg : decode cc g.pc = .ok (.invokevirtual index, 3)) (hf : cells + mc ≤ R.cells ∧ slots + ms ≤ R.slots) :
    vx_Run p l e R s m args below meth c H locs cells slots mc ms g rest (Qc (Value.ref b :: As).toArray) XC free := by
  obtain ⟨hrc, hrs, hfr, hlo, hws, hcw⟩ := cw.back
  have hini := cw.init
  have hK : vx_Back l R p e below s args y 3 8 (PreOf R mc ms Pc) (PostOf Qc mc ms free) (vx_Post XC mc ms free) := vx_back (bytes := bytes) (maxL := maxL) (ret := ret) hM hp.1 hrc hrs hfr hlo hws hcw (fun a' U hW => word_at hW (Or.inl (by first | rfl | simp [Cond.onTables, Cond.keeps, Cond.steady])) hini)
  obtain ⟨hx, hb, hml, ho, -⟩ := S
  obtain ⟨-, ⟨cellB, hcB, hoB, hclB⟩, hPc⟩ := hp
  intro T hT X
  rcases vx_callVU X hx (C := C) (owner := owner) (bytes := bytes) (maxL := maxL) (ret := ret) ho cw.link cw.same cw.decl cw.notMH cw.sel cw.inst cw.code hK (by rw [hT]; exact hcB) hoB hclB hg (hsize.trans hml.symm) (argsL := As) (rest := rest) (fun sig h => hn.trans (cw.len sig h)) hstack hW (by rw [hb]; exact hdg)
    (fun vm₁ hW₁ => ⟨hf.1, hf.2, hPc (T.setVm vm₁) hT hW₁⟩) with ⟨v, vm₁, ⟨U', l2, c2, s2⟩, hW₁, X', ⟨g', mk, t, L, e1, e2, hq, h1, hL, h2, h3⟩, st⟩ | ⟨q, vm₁, ⟨U', l2, c2, s2⟩, hW₁, X', ⟨g', mk, t, L, E, ce, e1, e2, hq, hce, hcv, hcl, h1, hL, h2, h3⟩, st⟩
  · dsimp only [Pt.U, Pt.locs, Pt.cells, Pt.slots] at X' e1 e2 h1 h2 h3 st
    subst h1; subst h2; subst h3
    exact Or.inl ⟨v, (T.setVm vm₁).calling g' mk (Value.ref b :: As).toArray, t, U', L, hT, X', hL, e1, e2, hq, st⟩
  · dsimp only [Pt.U, Pt.locs, Pt.cells, Pt.slots] at X' e1 e2 h1 h2 h3 st hcl
    subst h1; subst h2; subst h3
    exact Or.inr ⟨q, (T.setVm vm₁).calling g' mk (Value.ref b :: As).toArray, t, U', L, E, ce, hT, X', hL, e1, e2, hq, hce, hcv, vx_cls hW₁ hcl, st⟩
end
/-! ===== END ===== -/
/-! ===== BEGIN super.m(..) that may throw (follows va_callSU, va_runSU) ===== -/
section
variable {p : Program} {l : Launch} {e : Env} {R : Room} {s : State} {m : MethodId} {args : Array Value} {below : List Frame} {meth : Method} {c : Code} {H : Heap} {locs : List Loc} {cells slots : Nat}
theorem vx_callSU {T : State} {locs : List Loc} {cells slots : Nat} (X : Stand p l e R s m args below meth c T locs cells slots) (hexec : p.tables.exec = Jvm.exec) {own : String} {index : Nat} {y : MethodName} {bytes : ByteArray} {maxL : Nat} {ret : Option FieldType}
    (hown : s.vm.findClass own = some m.cls) (hlink : (Cond.methodLink own index y).before args s = true) (hsame : (Cond.sameMethod y.cls y.cls y.name y.desc).before args s = true) (hsup : (Cond.superclass own y.cls).before args s = true)
    (hinst : (Cond.instanceMethod y).before args s = true) (hcode : (Cond.code y bytes maxL ret).before args s = true) (hno : y.name ≠ "<init>")
    {W : Nat} {Pre : Pt → Array Value → Prop} {Post : Pt → Array Value → Option Value → Pt → Prop} {PostX : Pt → Array Value → Addr → Pt → Prop} (hK : vx_Back l R p e below s args y 3 W Pre Post PostX)
    {b : Addr} {cellB : Cell} {kB : Class} (hcell : T.heap[b]? = some cellB) (hobj : cellB.vm.isStatics = false) (hkB : s.vm.classes[cellB.cls]? = some kB)
    {g : JFrame} (hg : g.method = m) (hsize : g.locals.size = c.maxLocals) {argsL rest : List Value} (hlen : ∀ sig, parseMethodDescriptor y.desc = some sig → argsL.length = sig.parameters.length)
    (hstack : g.stack = argsL.reverse ++ .ref b :: rest) (hW : 2 * g.monitorRoom + (rest.map fun v => v.category).sum ≤ W) (hdg : decode c.code g.pc = .ok (.invokespecial index, 3))
    (hpre : ∀ vm₁, s.WarmedH vm₁ → Pre ⟨T.setVm vm₁, locs, cells, slots⟩ (Value.ref b :: argsL).toArray) :
    (∃ (v : Option Value) (vm₁ : Vm) (B : Pt), s.WarmedH vm₁ ∧ Stand p l e R s m args below meth c B.U B.locs B.cells B.slots ∧ Post ⟨T.setVm vm₁, locs, cells, slots⟩ (Value.ref b :: argsL).toArray v B ∧
      ∀ target, Steps p.tables e below (B.U.setTop { g with pc := g.pc + 3, stack := v.toList ++ rest }) target → Steps p.tables e below (T.setTop g) target) ∨
    (∃ (q : Addr) (vm₁ : Vm) (B : Pt), s.WarmedH vm₁ ∧ Stand p l e R s m args below meth c B.U B.locs B.cells B.slots ∧ PostX ⟨T.setVm vm₁, locs, cells, slots⟩ (Value.ref b :: argsL).toArray q B ∧
      Steps p.tables e below (T.setTop g) ((B.U.setTop { g with stack := rest }).pushFrame (.throwing q))) := by
  obtain ⟨mk, methM, hnamed, hmethM, hstM, habM⟩ := Cond.instanceMethod_spec hinst
  obtain ⟨methM', cM, hmethM', -, -, -, -, -, -, hsigM⟩ := Cond.code_spec hnamed hcode
  cases hmethM.symm.trans hmethM'
  obtain ⟨ps, dk, kp, hps, hdk, hkp, hsuper, -, -, hnid⟩ := Cond.superclass_spec hown hsup
  have hn : s.methodNamed? ⟨y.cls, y.name, y.desc⟩ = some mk := hnamed
  have hpm : ps = mk.cls := Option.some.inj (hps.symm.trans (findClass_of_methodNamed hnamed))
  have hsub : s.vm.isSubclass ps mk.cls = true := by rw [hpm]; simp [Vm.isSubclass, Vm.isSubclassAux]
  obtain ⟨vm₁, X₁, hstep₁⟩ := X.invokespecialUp hexec hown hlink hsame hn hmethM hstM habM hno hdk hnid hps hsuper hsub (a := b) (cell := cellB) hcell
    (fun z h => by rw [h] at hobj; cases hobj) hkB (g := g) hg (argsL := argsL) (rest := rest) (hlen _ hsigM) hstack hdg
  rcases hK m meth c ⟨T.setVm vm₁, locs, cells, slots⟩ { g with stack := rest } (.invokespecial index) mk (Value.ref b :: argsL).toArray X₁ hg hsize hdg hW (X₁.named hnamed) (hpre vm₁ X₁.warmed) with ⟨v, B, X', hpost, hsteps⟩ | ⟨q, B, X', hpost, hsteps⟩
  · exact Or.inl ⟨v, vm₁, B, X₁.warmed, X', hpost, fun target h => hstep₁ _ (by rw [doInvoke_state]; exact hsteps.trans h)⟩
  · exact Or.inr ⟨q, vm₁, B, X₁.warmed, X', hpost, hstep₁ _ (by rw [doInvoke_state]; exact hsteps)⟩
theorem vx_runSU {y : MethodName} {bytes cc : ByteArray} {maxL nL mc ms n index : Nat} {ret : Option FieldType} {ws : List Cond} {rm : Room} {Pc : Array Value → State → Prop} {Qc : Array Value → State → Outcome → State → Prop} {XC : String → State → State → Prop} {free : Addr → Prop} {Ts : List Cond} {own C : String} {cC : ClassId} {b : Addr} {As rest : List Value} {g : JFrame}
    (hat : ClassAt s C cC) (S : CallFix p m c cc nL s args Ts own) (hM : vx_Met l y ws rm Pc Qc XC mc ms free) (cw : va_CS R s args own index y bytes maxL ret ws rm mc ms n) (hp : PreV s H C b Pc As)
    (hg : g.method = m) (hn : As.length = n) (hsize : g.locals.size = nL) (hstack : g.stack = As.reverse ++ .ref b :: rest) (hW : 2 * g.monitorRoom + (rest.map fun v => v.category).sum ≤ 8) (hdg : decode cc g.pc = .ok (.invokespecial index, 3)) (hf : cells + mc ≤ R.cells ∧ slots + ms ≤ R.slots) :
    vx_Run p l e R s m args below meth c H locs cells slots mc ms g rest (Qc (Value.ref b :: As).toArray) XC free := by
  obtain ⟨⟨hrc, hrs, hfr, hlo, hws, hcw⟩, hl1, hl2, hl3, hl4, hini, hcode, hno, hlen⟩ := cw
  have hK : vx_Back l R p e below s args y 3 8 (PreOf R mc ms Pc) (PostOf Qc mc ms free) (vx_Post XC mc ms free) := vx_back (bytes := bytes) (maxL := maxL) (ret := ret) hM hp.1 hrc hrs hfr hlo hws hcw (fun a' U hW => word_at hW (Or.inl (by first | rfl | simp [Cond.onTables, Cond.keeps, Cond.steady])) hini)
  obtain ⟨hx, hb, hml, ho, -⟩ := S
  obtain ⟨-, ⟨cellB, hcB, hoB, hclB⟩, hPc⟩ := hp
  obtain ⟨hfc, kB, hkB, -⟩ := hat
  cases hfc.symm.trans hclB
  intro T hT X
  rcases vx_callSU X hx (bytes := bytes) (maxL := maxL) (ret := ret) ho hl1 hl2 hl3 hl4 hcode hno hK (by rw [hT]; exact hcB) hoB hkB hg (hsize.trans hml.symm) (argsL := As) (rest := rest) (fun sig h => hn.trans (hlen sig h)) hstack hW (by rw [hb]; exact hdg)
    (fun vm₁ hW₁ => ⟨hf.1, hf.2, hPc (T.setVm vm₁) hT hW₁⟩) with ⟨v, vm₁, ⟨U', l2, c2, s2⟩, hW₁, X', ⟨g', mk, t, L, e1, e2, hq, h1, hL, h2, h3⟩, st⟩ | ⟨q, vm₁, ⟨U', l2, c2, s2⟩, hW₁, X', ⟨g', mk, t, L, E, ce, e1, e2, hq, hce, hcv, hcl, h1, hL, h2, h3⟩, st⟩
  · dsimp only [Pt.U, Pt.locs, Pt.cells, Pt.slots] at X' e1 e2 h1 h2 h3 st
    subst h1; subst h2; subst h3
    exact Or.inl ⟨v, (T.setVm vm₁).calling g' mk (Value.ref b :: As).toArray, t, U', L, hT, X', hL, e1, e2, hq, st⟩
  · dsimp only [Pt.U, Pt.locs, Pt.cells, Pt.slots] at X' e1 e2 h1 h2 h3 st hcl
    subst h1; subst h2; subst h3
    exact Or.inr ⟨q, (T.setVm vm₁).calling g' mk (Value.ref b :: As).toArray, t, U', L, E, ce, hT, X', hL, e1, e2, hq, hce, hcv, vx_cls hW₁ hcl, st⟩
end
/-! ===== END ===== -/
section MTW
variable {l : Launch} {M : mM} {R : Room} {K : mK} {pc : Nat} {ls st : List Value} {h : mH} {n cc sc : Nat}
def mU (N : mM) (k : Nat) : Prop := mWd N ∈ mGw ∧ Cond.instanceMethod N.1 ∈ mGw ∧ Cond.initialized N.1.cls ∈ mGw ∧ mNm N k ∧ N.2.2.2.2.1 = []
/-- a method of the class above, on an object of class C -/
theorem mt_callU {N : mM} {Rc : Room} {As stk : List Value} {b ci Nf index : Nat} {C : String} {T : u_T} {ty0 : Nat → FieldType} {fs : List Value} {Φ : Option Value → mH → Nat → Prop} {X : String → mH → Nat → Prop}
    (hdg : decode M.2.1 pc = .ok (.invokevirtual index, 3)) (hCt : mC l N Rc (.ref b :: As) h n Φ X) (hN : mU N As.length) (hsel : Cond.selects C N.1 N.1 ∈ mGw) (hlk : Cond.methodLink M.1.cls index N.1 ∈ mGw) (hc : mCl ci C T Nf ty0) (hb : h b = .inr (.inr (ci, fs))) (hst : stk = As.reverse ++ .ref b :: st) (hw : (st.map mcw).sum ≤ 8) (hR : mRm R Rc N cc sc)
    (k : ∀ v h' n', Φ v h' n' → mT l M R K (pc + 3) ls (v.toList ++ st) h' n' (cc + Rc.cells) (sc + Rc.slots)) (kx : ∀ E h' n', X E h' n' → mTX l M R K pc ls E h' n' (cc + Rc.cells) (sc + Rc.slots)) : mT l M R K pc ls stk h n cc sc := by
  intro p e s m args below meth c G w0 H locs LS ws st' hC hD
  subst hst
  obtain ⟨d1, d2, d3, d4, d5, d6, d7⟩ := hD
  obtain ⟨sa, sb, rfl, s1, s2⟩ := mrl.split d7
  obtain ⟨⟨ab, eb⟩, t', hwb, rfl, s3⟩ := s2.ref
  have hav : mrl G.2.2.2.1 ws (.ref b :: As) (.ref ab :: sa.reverse) := mrl.cons ⟨_, hwb, rfl⟩ (by have := s1.rev; rwa [List.reverse_reverse] at this)
  have hC' := hC
  obtain ⟨hx, -, hbb, -, hml, hown, hts, -, -, -, hmS, -⟩ := hC'
  obtain ⟨n1, n2, n4, n5, n6⟩ := hN
  have hr := d1.at hwb
  rw [hb] at hr
  obtain ⟨fs', rfl, -⟩ := hr
  have hrev : sa ++ (Value.ref ab :: t') = sa.reverse.reverse ++ (Value.ref ab :: t') := by rw [List.reverse_reverse]
  have run := vx_runV (R := R) (locs := locs) (cells := cc) (slots := sc) (C := C) (As := sa.reverse) (rest := t') (g := F0 m pc LS (sa ++ (Value.ref ab :: t'))) ⟨hx, hbb, hml, hown, hts⟩ (hCt G ws H.size _ d1 hav)
    (n := As.length) (index := index) (own := M.1.cls) (ret := N.2.2.2.1) (bytes := N.2.1) (maxL := N.2.2.1)
    ⟨callB_of As.length hts (mGoodG n1) (mWs_nil n6) rfl rfl (hts _ n4) (hts _ hlk) n5 hR.1, hts _ n2, hts _ hsel⟩
    (b := ab) ⟨mPc.blind, va_recv hmS.1 d2 hc.1 hwb, mPc_at hC d2 d3 d4⟩ rfl (by rw [List.length_reverse, s1.len, List.length_reverse]) d6.choose_spec.1.1 hrev (lv_room (Nat.le_trans s3.weight hw)) hdg hR.2 (e := e) (below := below) (meth := meth)
  exact mt_back hC ⟨d1, d2, d3, d4, d5, d6, s3⟩ run k kx
/-- a method that the class C declares anew: the reference names the class above (x), the code is C's own -/
theorem mt_callO {N : mM} {Rc : Room} {As stk : List Value} {b ci Nf index : Nat} {C : String} {x : MethodName} {b0 : ByteArray} {m0 : Nat} {r0 : Option FieldType} {T : u_T} {ty0 : Nat → FieldType} {fs : List Value} {Φ : Option Value → mH → Nat → Prop} {X : String → mH → Nat → Prop}
    (hdg : decode M.2.1 pc = .ok (.invokevirtual index, 3)) (hCt : mC l N Rc (.ref b :: As) h n Φ X) (hN : mU N As.length) (hsel : Cond.selects C x N.1 ∈ mGw) (hlk : Cond.methodLink M.1.cls index x ∈ mGw) (hsame : Cond.sameMethod x.cls x.cls x.name x.desc ∈ mGw) (hxi : Cond.instanceMethod x ∈ mGw) (hxc : Cond.code x b0 m0 r0 ∈ mGw) (hxd : x.desc = N.1.desc) (hxm : x.cls ≠ "java/lang/invoke/MethodHandle" ∧ x.cls ≠ "java/lang/invoke/VarHandle") (hc : mCl ci C T Nf ty0) (hb : h b = .inr (.inr (ci, fs))) (hst : stk = As.reverse ++ .ref b :: st) (hw : (st.map mcw).sum ≤ 8) (hR : mRm R Rc N cc sc)
    (k : ∀ v h' n', Φ v h' n' → mT l M R K (pc + 3) ls (v.toList ++ st) h' n' (cc + Rc.cells) (sc + Rc.slots)) (kx : ∀ E h' n', X E h' n' → mTX l M R K pc ls E h' n' (cc + Rc.cells) (sc + Rc.slots)) : mT l M R K pc ls stk h n cc sc := by
  intro p e s m args below meth c G w0 H locs LS ws st' hC hD
  subst hst
  obtain ⟨d1, d2, d3, d4, d5, d6, d7⟩ := hD
  obtain ⟨sa, sb, rfl, s1, s2⟩ := mrl.split d7
  obtain ⟨⟨ab, eb⟩, t', hwb, rfl, s3⟩ := s2.ref
  have hav : mrl G.2.2.2.1 ws (.ref b :: As) (.ref ab :: sa.reverse) := mrl.cons ⟨_, hwb, rfl⟩ (by have := s1.rev; rwa [List.reverse_reverse] at this)
  have hC' := hC
  obtain ⟨hx, -, hbb, -, hml, hown, hts, -, -, -, hmS, -⟩ := hC'
  obtain ⟨n1, n2, n4, n5, n6⟩ := hN
  have hr := d1.at hwb
  rw [hb] at hr
  obtain ⟨fs', rfl, -⟩ := hr
  have hrev : sa ++ (Value.ref ab :: t') = sa.reverse.reverse ++ (Value.ref ab :: t') := by rw [List.reverse_reverse]
  have hcm : Cond.code N.1 N.2.1 N.2.2.1 N.2.2.2.1 ∈ mWs N := by rw [mWs_nil n6]; exact List.mem_cons_self
  have run := vx_runU (R := R) (locs := locs) (cells := cc) (slots := sc) (C := C) (owner := x.cls) (x := x) (y := N.1) (As := sa.reverse) (rest := t') (g := F0 m pc LS (sa ++ (Value.ref ab :: t'))) ⟨hx, hbb, hml, hown, hts⟩ (hCt G ws H.size _ d1 hav)
    (n := As.length) (index := index) (own := M.1.cls) (ret := N.2.2.2.1) (bytes := N.2.1) (maxL := N.2.2.1)
    ⟨⟨rfl, rfl, hR.1.1, hR.1.2, pay_in hts (mGoodG n1), hcm⟩, hts _ ((mGoodG n1) _ hcm).1, hts _ n4, hxm, fun sig hs => by have h2 := n5.2.2; rw [← hxd, hs] at h2; exact (Option.some.inj h2).symm, hts _ hlk, hts _ hsame, va_Decl.of (hts _ hxi) (hts _ hxc), hts _ hsel, hts _ n2⟩
    (b := ab) ⟨mPc.blind, va_recv hmS.1 d2 hc.1 hwb, mPc_at hC d2 d3 d4⟩ rfl (by rw [List.length_reverse, s1.len, List.length_reverse]) d6.choose_spec.1.1 hrev (lv_room (Nat.le_trans s3.weight hw)) hdg hR.2 (e := e) (below := below) (meth := meth)
  exact mt_back hC ⟨d1, d2, d3, d4, d5, d6, s3⟩ run k kx
/-- super.m(..) -/
theorem mt_callSU {N : mM} {Rc : Room} {As stk : List Value} {b ci Nf index : Nat} {C : String} {T : u_T} {ty0 : Nat → FieldType} {fs : List Value} {Φ : Option Value → mH → Nat → Prop} {X : String → mH → Nat → Prop}
    (hdg : decode M.2.1 pc = .ok (.invokespecial index, 3)) (hCt : mC l N Rc (.ref b :: As) h n Φ X) (hN : mU N As.length) (hno : N.1.name ≠ "<init>") (hlk : Cond.methodLink M.1.cls index N.1 ∈ mGw) (hsame : Cond.sameMethod N.1.cls N.1.cls N.1.name N.1.desc ∈ mGw) (hsup : Cond.superclass M.1.cls N.1.cls ∈ mGw) (hc : mCl ci C T Nf ty0) (hb : h b = .inr (.inr (ci, fs))) (hst : stk = As.reverse ++ .ref b :: st) (hw : (st.map mcw).sum ≤ 8) (hR : mRm R Rc N cc sc)
    (k : ∀ v h' n', Φ v h' n' → mT l M R K (pc + 3) ls (v.toList ++ st) h' n' (cc + Rc.cells) (sc + Rc.slots)) (kx : ∀ E h' n', X E h' n' → mTX l M R K pc ls E h' n' (cc + Rc.cells) (sc + Rc.slots)) : mT l M R K pc ls stk h n cc sc := by
  intro p e s m args below meth c G w0 H locs LS ws st' hC hD
  subst hst
  obtain ⟨d1, d2, d3, d4, d5, d6, d7⟩ := hD
  obtain ⟨sa, sb, rfl, s1, s2⟩ := mrl.split d7
  obtain ⟨⟨ab, eb⟩, t', hwb, rfl, s3⟩ := s2.ref
  have hav : mrl G.2.2.2.1 ws (.ref b :: As) (.ref ab :: sa.reverse) := mrl.cons ⟨_, hwb, rfl⟩ (by have := s1.rev; rwa [List.reverse_reverse] at this)
  have hC' := hC
  obtain ⟨hx, -, hbb, -, hml, hown, hts, -, -, -, hmS, -⟩ := hC'
  obtain ⟨n1, n2, n4, n5, n6⟩ := hN
  have hr := d1.at hwb
  rw [hb] at hr
  obtain ⟨fs', rfl, -⟩ := hr
  have hrev : sa ++ (Value.ref ab :: t') = sa.reverse.reverse ++ (Value.ref ab :: t') := by rw [List.reverse_reverse]
  have hcm : Cond.code N.1 N.2.1 N.2.2.1 N.2.2.2.1 ∈ mWs N := by rw [mWs_nil n6]; exact List.mem_cons_self
  have run := vx_runSU (R := R) (locs := locs) (cells := cc) (slots := sc) (C := C) (As := sa.reverse) (rest := t') (g := F0 m pc LS (sa ++ (Value.ref ab :: t'))) (hmS.1.1 ci _ hc.1).2 ⟨hx, hbb, hml, hown, hts⟩ (hCt G ws H.size _ d1 hav)
    (n := As.length) (index := index) (own := M.1.cls) (ret := N.2.2.2.1) (bytes := N.2.1) (maxL := N.2.2.1)
    ⟨⟨rfl, rfl, hR.1.1, hR.1.2, pay_in hts (mGoodG n1), hcm⟩, hts _ hlk, hts _ hsame, hts _ hsup, hts _ n2, hts _ n4, hts _ ((mGoodG n1) _ hcm).1, hno, fun sig hs => by have h2 := n5.2.2; rw [hs] at h2; exact (Option.some.inj h2).symm⟩
    (b := ab) ⟨mPc.blind, va_recv hmS.1 d2 hc.1 hwb, mPc_at hC d2 d3 d4⟩ rfl (by rw [List.length_reverse, s1.len, List.length_reverse]) d6.choose_spec.1.1 hrev (lv_room (Nat.le_trans s3.weight hw)) hdg hR.2 (e := e) (below := below) (meth := meth)
  exact mt_back hC ⟨d1, d2, d3, d4, d5, d6, s3⟩ run k kx
/-- an int into a field that is shorter than one -/
theorem mt_putI {a ci i : Nat} {C : String} {T : u_T} {N index : Nat} {ty0 : Nat → FieldType} {fs : List Value} {x : Int32} (hc : mCl ci C T N ty0) (hk : i < N) (hlink : Cond.fieldLink M.1.cls index (T i).1 (T i).2.1 (T i).2.2.1 ∈ mGw) (hfin : (T i).2.2.2 = false) (hdg : decode M.2.1 pc = .ok (.putfield index, 3)) (he : h a = .inr (.inr (ci, fs))) (hl : i < fs.length) (f1 : narrow (ty0 i) (.int x) = .int x) (f2 : fits (ty0 i) (.int x) = true) (k : mT l M R K (pc + 3) ls st (mup h a (.inr (.inr (ci, fs.set i (.int x))))) n cc sc) : mT l M R K pc ls (.int x :: .ref a :: st) h n cc sc := by
  intro p e s m args below meth c G w0 H locs LS ws st' hC hD
  obtain ⟨d1, d2, d3, d4, d5, d6, d7⟩ := hD
  obtain ⟨t1, rfl, d7b⟩ := d7.int
  obtain ⟨⟨q, e'⟩, t', h1, rfl, d7a⟩ := d7b.ref
  have hr := d1.at h1
  rw [he] at hr
  obtain ⟨fs', rfl, h3⟩ := hr
  have hC' := hC
  obtain ⟨hx, -, hb, -, -, hown, hts, -, -, -, hmS, -⟩ := hC'
  refine va_put hx hb hts hc.2.1 ty0 hc.2.2.1 hc.2.2.2 hown hmS.1 d2 d3 d4 a h1 hc.1 i hk (hts _ hlink) (fun _ q => q) hfin (hc.2.2.1 i hk) f1 f2 (by rw [h3.len]; exact hl) hdg (fun H1 locs1 g1 g2 g3 => ?_)
  have hE := mExt.set (e := .inr (ci, fs'.set i (.int x))) h1
  exact k p e s m args below meth c G w0 H1 locs1 LS _ _ hC ⟨d1.set h1 ⟨_, rfl, h3.set rfl⟩, g1, g2, g3, d5.tr hE, d6.mono hE, d7a.mono hE⟩
theorem mt_putFI {a ci i : Nat} {C : String} {T : u_T} {N index : Nat} {ty0 : Nat → FieldType} {fs : List Value} {x : Int32} (hc : mCl ci C T N ty0) (hk : i < N) (hlink : Cond.fieldLink M.1.cls index (T i).1 (T i).2.1 (T i).2.2.1 ∈ mGw) (hfin : (T i).2.2.2 = true) (hin : M.1.name = "<init>") (hdecl : (T i).1 = M.1.cls) (hdg : decode M.2.1 pc = .ok (.putfield index, 3)) (he : h a = .inr (.inr (ci, fs))) (hl : i < fs.length) (f1 : narrow (ty0 i) (.int x) = .int x) (f2 : fits (ty0 i) (.int x) = true) (k : mT l M R K (pc + 3) ls st (mup h a (.inr (.inr (ci, fs.set i (.int x))))) n cc sc) : mT l M R K pc ls (.int x :: .ref a :: st) h n cc sc := by
  intro p e s m args below meth c G w0 H locs LS ws st' hC hD
  obtain ⟨d1, d2, d3, d4, d5, d6, d7⟩ := hD
  obtain ⟨t1, rfl, d7b⟩ := d7.int
  obtain ⟨⟨q, e'⟩, t', h1, rfl, d7a⟩ := d7b.ref
  have hr := d1.at h1
  rw [he] at hr
  obtain ⟨fs', rfl, h3⟩ := hr
  have hC' := hC
  obtain ⟨hx, -, hb, -, -, hown, hts, -, hnm, -, hmS, -⟩ := hC'
  refine va_putF hx hb hts hc.2.1 ty0 hc.2.2.1 hc.2.2.2 hown hmS.1 d2 d3 d4 a h1 hc.1 i hk (hts _ hlink) (fun _ q => q) hfin (hnm.trans hin) hdecl (hc.2.2.1 i hk) f1 f2 (by rw [h3.len]; exact hl) hdg (fun H1 locs1 g1 g2 g3 => ?_)
  have hE := mExt.set (e := .inr (ci, fs'.set i (.int x))) h1
  exact k p e s m args below meth c G w0 H1 locs1 LS _ _ hC ⟨d1.set h1 ⟨_, rfl, h3.set rfl⟩, g1, g2, g3, d5.tr hE, d6.mono hE, d7a.mono hE⟩
theorem mp_putI {a ci i : Nat} {C : String} {T : u_T} {N index : Nat} {ty0 : Nat → FieldType} {fs fs' : List Value} {x : Int32} (hc : mCl ci C T N ty0) (hk : i < N) (hlink : Cond.fieldLink M.1.cls index (T i).1 (T i).2.1 (T i).2.2.1 ∈ mGw) (hfin : (T i).2.2.2 = false) (hdg : decode M.2.1 pc = .ok (.putfield index, 3)) (he : h a = .inr (.inr (ci, fs))) (hl : i < fs.length) (hfs : fs.set i (.int x) = fs') (f1 : narrow (ty0 i) (.int x) = .int x) (f2 : fits (ty0 i) (.int x) = true) (k : ∀ h' : mH, h' a = .inr (.inr (ci, fs')) → (∀ j, j ≠ a → h' j = h j) → mT l M R K (pc + 3) ls st h' n cc sc) : mT l M R K pc ls (.int x :: .ref a :: st) h n cc sc := mt_putI hc hk hlink hfin hdg he hl f1 f2 (by subst hfs; exact k _ mup_s (fun j hj => mup_n hj))
theorem mp_putFI {a ci i : Nat} {C : String} {T : u_T} {N index : Nat} {ty0 : Nat → FieldType} {fs fs' : List Value} {x : Int32} (hc : mCl ci C T N ty0) (hk : i < N) (hlink : Cond.fieldLink M.1.cls index (T i).1 (T i).2.1 (T i).2.2.1 ∈ mGw) (hfin : (T i).2.2.2 = true) (hin : M.1.name = "<init>") (hdecl : (T i).1 = M.1.cls) (hdg : decode M.2.1 pc = .ok (.putfield index, 3)) (he : h a = .inr (.inr (ci, fs))) (hl : i < fs.length) (hfs : fs.set i (.int x) = fs') (f1 : narrow (ty0 i) (.int x) = .int x) (f2 : fits (ty0 i) (.int x) = true) (k : ∀ h' : mH, h' a = .inr (.inr (ci, fs')) → (∀ j, j ≠ a → h' j = h j) → mT l M R K (pc + 3) ls st h' n cc sc) : mT l M R K pc ls (.int x :: .ref a :: st) h n cc sc := mt_putFI hc hk hlink hfin hin hdecl hdg he hl f1 f2 (by subst hfs; exact k _ mup_s (fun j hj => mup_n hj))
theorem mt_aconst_null (hdg : decode M.2.1 pc = .ok (.aconst_null, 1)) (k : mT l M R K (pc + 1) ls (.null :: st) h n cc sc) : mT l M R K pc ls st h n cc sc := mt_lift k (fun _ _ _ hx hb hr => ⟨_, mrl.cons (v' := .null) rfl hr, lv_null hx hb hdg⟩)
theorem mt_ifnonnullX {off : Int} {tgt : Nat} (hdg : decode M.2.1 pc = .ok (.ifnonnull off, 3)) (ht : (pc : Int) + off = (tgt : Int)) (k : mT l M R K tgt ls st h n cc sc) : mT l M R K pc ls (.retAddr 1 :: st) h n cc sc := mt_lift k (fun _ _ _ hx hb hr => by
  obtain ⟨v', t', rfl, hv, hr2⟩ := hr
  obtain rfl : v' = .ref _ := hv
  exact ⟨_, hr2, lv_ifnonnull hx hb hdg ht⟩)
theorem mp_bastore {a len j : Nat} {x : Int32} {f : Nat → Int32} (hdg : decode M.2.1 pc = .ok (.bastore, 1)) (he : h a = .inl (1, len, f)) (hj : j < len) (hL : len < 2 ^ 31) (k : ∀ h' : mH, h' a = .inl (1, len, upd f j (vp_nar .byte x)) → (∀ j, j ≠ a → h' j = h j) → mT l M R K (pc + 1) ls st h' n cc sc) : mT l M R K pc ls (.int x :: .int (nI j) :: .ref a :: st) h n cc sc := mt_bastore hdg he hj hL (k _ mup_s (fun j hj => mup_n hj))
theorem mp_newarrayB {len : Nat} (hdg : decode M.2.1 pc = .ok (.newarray .byte, 2)) (harr : Cond.arrayClass .byte ∈ mGw) (hL : len < 2 ^ 27) (hcc : cc + 1 ≤ R.cells) (hsc : sc + len ≤ R.slots) (k : ∀ h' : mH, h' n = .inl (1, len, fun _ => 0) → (∀ j, j ≠ n → h' j = h j) → mT l M R K (pc + 2) ls (.ref n :: st) h' (n + 1) (cc + 1) (sc + len)) : mT l M R K pc ls (.int (nI len) :: st) h n cc sc := mt_newarrayB hdg harr hL hcc hsc (k _ mup_s (fun j hj => mup_n hj))
theorem mp_acopyB {a b la lb sp dp cnt index : Nat} {f g : Nat → Int32} (hdg : decode M.2.1 pc = .ok (.invokestatic index, 3)) (hlk : Cond.methodLink M.1.cls index arraycopyName ∈ mGw) (hnat : Cond.native arraycopyName ∈ mGw) (hst : Cond.static arraycopyName ∈ mGw) (hini : Cond.initialized "java/lang/System" ∈ mGw) (ha : h a = .inl (1, la, f)) (hb : h b = .inl (1, lb, g)) (hf : bFit f) (h4 : sp + cnt ≤ la) (h5 : dp + cnt ≤ lb) (hla : la < 2 ^ 31) (hlb : lb < 2 ^ 31) (hw : (st.map mcw).sum ≤ 8) (hR : 1 ≤ R.frames ∧ 8 + 18 ≤ R.locals) (k : ∀ h' : mH, h' b = .inl (1, lb, va_cpy f g sp dp cnt) → (∀ j, j ≠ b → h' j = h j) → mT l M R K (pc + 3) ls st h' n cc sc) : mT l M R K pc ls (.int (nI cnt) :: .int (nI dp) :: .ref b :: .int (nI sp) :: .ref a :: st) h n cc sc := mt_acopyB hdg hlk hnat hst hini ha hb hf h4 h5 hla hlb hw hR (k _ mup_s (fun j hj => mup_n hj))
theorem mp_xcopy {b lb dp index : Nat} {g : Nat → Int32} (hdg : decode M.2.1 pc = .ok (.invokestatic index, 3)) (hlk : Cond.methodLink M.1.cls index arraycopyName ∈ mGw) (hnat : Cond.native arraycopyName ∈ mGw) (hst : Cond.static arraycopyName ∈ mGw) (hini : Cond.initialized "java/lang/System" ∈ mGw) (hb : h b = .inl (1, lb, g)) (hg : bFit g) (h5 : dp + 1 ≤ lb) (hlb : lb < 2 ^ 31) (hw : (st.map mcw).sum ≤ 8) (hR : 1 ≤ R.frames ∧ 8 + 18 ≤ R.locals) (k : ∀ (g' : Nat → Int32) (h' : mH), bFit g' → h' b = .inl (1, lb, g') → (∀ j, j ≠ b → h' j = h j) → mT l M R K (pc + 3) ls st h' n cc sc) : mT l M R K pc ls (.int (nI 1) :: .int (nI dp) :: .ref b :: .int (nI 0) :: .retAddr 2 :: st) h n cc sc := mt_xcopy hdg hlk hnat hst hini hb h5 hlb hw hR (fun f hf => k _ _ (fun j => by
  by_cases e : dp ≤ j ∧ j < dp + 1
  · rw [pk_cpy_in e.1 e.2, show 0 + (j - dp) = 0 by omega]
    exact hf
  · rw [pk_cpy_out (by omega)]
    exact hg j) mup_s (fun j hj => mup_n hj))
theorem mp_cloneB {a len index : Nat} {f : Nat → Int32} (hdg : decode M.2.1 pc = .ok (.invokevirtual index, 3)) (hlk : Cond.methodLink M.1.cls index ⟨"[B", "clone", "()Ljava/lang/Object;"⟩ ∈ mGw) (he : h a = .inl (1, len, f)) (hf : bFit f) (hw : (st.map mcw).sum ≤ 8) (hR : 1 ≤ R.frames ∧ 8 + 14 ≤ R.locals) (hcc : cc + 1 ≤ R.cells) (hsc : sc + len ≤ R.slots) (k : ∀ h' : mH, h' n = .inl (1, len, f) → (∀ j, j ≠ n → h' j = h j) → mT l M R K (pc + 3) ls (.ref n :: st) h' (n + 1) (cc + 1) (sc + len)) : mT l M R K pc ls (.ref a :: st) h n cc sc := mt_cloneB hdg hlk mw_699 mw_700 mw_701 mw_702 mw_703 he hf hw hR hcc hsc (k _ mup_s (fun j hj => mup_n hj))
end MTW
theorem bFit0 : bFit (fun _ => 0) := sb_fit0
theorem bFit.u {a : Nat → Int32} {k : Nat} {x : Int32} (h : bFit a) : bFit (upd a k (vp_nar .byte x)) := sb_fitU h (pk_fb x)
theorem bFit.c {f g : Nat → Int32} {sp dp n : Nat} (hf : bFit f) (hg : bFit g) : bFit (va_cpy f g sp dp n) := sb_fitC hf hg
theorem mDJ0 : ∀ j, j < 4 → defaultValue (tyJ0 j) = vp_V [.null, .int (nI 0), .int (nI 0), .int (nI 0)] j
  | 0, _ => rfl
  | 1, _ => rfl
  | 2, _ => rfl
  | 3, _ => rfl
  | _ + 4, h => by omega
theorem mDJ4 : ∀ j, j < 4 → defaultValue (tyJ4 j) = vp_V [.null, .int (nI 0), .int (nI 0), .int (nI 0)] j
  | 0, _ => rfl
  | 1, _ => rfl
  | 2, _ => rfl
  | 3, _ => rfl
  | _ + 4, h => by omega
/-! negative numbers down to the least -/
theorem ngT {u : Nat} (hu : u ≤ 2 ^ 31) : (-nI u).toInt = -(u : Int) := by
  rcases Nat.lt_or_ge u (2 ^ 31) with q | q
  · exact sb_negT q
  · obtain rfl : u = 2 ^ 31 := Nat.le_antisymm hu q
    decide
theorem ng_le {a b : Nat} (ha : a ≤ 2 ^ 31) (hb : b ≤ 2 ^ 31) : -nI a ≤ -nI b ↔ b ≤ a := by
  rw [Int32.le_iff_toInt_le, ngT ha, ngT hb]
  omega
theorem ng_lt {a b : Nat} (ha : a ≤ 2 ^ 31) (hb : b ≤ 2 ^ 31) : -nI a < -nI b ↔ b < a := by
  rw [Int32.lt_iff_toInt_lt, ngT ha, ngT hb]
  omega
theorem ng_div {w : Nat} (hw : w ≤ 2 ^ 31) : (-nI w) / 100 = -nI (w / 100) := by
  apply Int32.toInt_inj.mp
  have h100 : (100 : Int32).toInt = 100 := by decide
  rw [Int32.toInt_div, ngT hw, h100, ngT (by omega), Int.neg_tdiv, Int.tdiv_eq_ediv_of_nonneg (by omega), Int.bmod_eq_of_le (by omega) (by omega)]
  omega
theorem ng_rem {w : Nat} (hw : w ≤ 2 ^ 31) : (-nI (w / 100)) * 100 - (-nI w) = nI (w % 100) := by
  rcases Nat.lt_or_ge w (2 ^ 31) with q | q
  · exact sb_nrem q
  · obtain rfl : w = 2 ^ 31 := Nat.le_antisymm hw q
    decide
/-- every number is the negative of a natural, or a natural -/
theorem ng_of {x : Int32} (h : x < 0) : ∃ u : Nat, 0 < u ∧ u ≤ 2 ^ 31 ∧ x = -nI u := by
  rw [Int32.lt_iff_toInt_lt] at h
  have h0 : (0 : Int32).toInt = 0 := by decide
  have hx := Int32.le_toInt x
  refine ⟨(-x.toInt).toNat, by omega, by omega, Int32.toInt_inj.mp ?_⟩
  rw [ngT (by omega)]
  omega
theorem ng_pos {u : Nat} (hu : u ≤ 2 ^ 31) : ¬ -nI u ≥ 0 ∨ u = 0 := by
  rcases Nat.eq_zero_or_pos u with q | q
  · exact Or.inr q
  · refine Or.inl (fun z => ?_)
    have z1 := Int32.le_iff_toInt_le.mp z
    rw [ngT hu] at z1
    have h0 : (0 : Int32).toInt = 0 := by decide
    omega
theorem ng_neg (u : Nat) : -(-nI u) = nI u := Int32.neg_neg

/-! ===== decode rows: the JDK methods that text reaches ===== -/
set_option maxRecDepth 100000 in
theorem bJ5_init_d00df_0 : (decode cJ5_init_d00df 0 = .ok (.aload_n 0, 1)) ∧ (decode cJ5_init_d00df 1 = .ok (.invokespecial 3, 3)) ∧ (decode cJ5_init_d00df 4 = .ok (.getstatic 18, 3)) ∧ (decode cJ5_init_d00df 7 = .ok (.ifCond .eq 18, 3)) ∧ (decode cJ5_init_d00df 10 = .ok (.aload_n 0, 1)) ∧ (decode cJ5_init_d00df 11 = .ok (.iload_n 1, 1)) ∧ (decode cJ5_init_d00df 12 = .ok (.newarray .byte, 2)) ∧ (decode cJ5_init_d00df 14 = .ok (.putfield 15, 3)) ∧ (decode cJ5_init_d00df 17 = .ok (.aload_n 0, 1)) ∧ (decode cJ5_init_d00df 18 = .ok (.iconst 0, 1)) ∧ (decode cJ5_init_d00df 19 = .ok (.putfield 22, 3)) ∧ (decode cJ5_init_d00df 22 = .ok (.goto 16, 3)) ∧ (decode cJ5_init_d00df 25 = .ok (.aload_n 0, 1)) ∧ (decode cJ5_init_d00df 26 = .ok (.iload_n 1, 1)) ∧ (decode cJ5_init_d00df 27 = .ok (.invokestatic 26, 3)) ∧ (decode cJ5_init_d00df 30 = .ok (.putfield 15, 3)) := by decide +kernel
theorem dJ5_init_d00df_0 : decode cJ5_init_d00df 0 = .ok (.aload_n 0, 1) := bJ5_init_d00df_0.1
theorem dJ5_init_d00df_1 : decode cJ5_init_d00df 1 = .ok (.invokespecial 3, 3) := bJ5_init_d00df_0.2.1
theorem dJ5_init_d00df_4 : decode cJ5_init_d00df 4 = .ok (.getstatic 18, 3) := bJ5_init_d00df_0.2.2.1
theorem dJ5_init_d00df_7 : decode cJ5_init_d00df 7 = .ok (.ifCond .eq 18, 3) := bJ5_init_d00df_0.2.2.2.1
theorem dJ5_init_d00df_10 : decode cJ5_init_d00df 10 = .ok (.aload_n 0, 1) := bJ5_init_d00df_0.2.2.2.2.1
theorem dJ5_init_d00df_11 : decode cJ5_init_d00df 11 = .ok (.iload_n 1, 1) := bJ5_init_d00df_0.2.2.2.2.2.1
theorem dJ5_init_d00df_12 : decode cJ5_init_d00df 12 = .ok (.newarray .byte, 2) := bJ5_init_d00df_0.2.2.2.2.2.2.1
theorem dJ5_init_d00df_14 : decode cJ5_init_d00df 14 = .ok (.putfield 15, 3) := bJ5_init_d00df_0.2.2.2.2.2.2.2.1
theorem dJ5_init_d00df_17 : decode cJ5_init_d00df 17 = .ok (.aload_n 0, 1) := bJ5_init_d00df_0.2.2.2.2.2.2.2.2.1
theorem dJ5_init_d00df_18 : decode cJ5_init_d00df 18 = .ok (.iconst 0, 1) := bJ5_init_d00df_0.2.2.2.2.2.2.2.2.2.1
theorem dJ5_init_d00df_19 : decode cJ5_init_d00df 19 = .ok (.putfield 22, 3) := bJ5_init_d00df_0.2.2.2.2.2.2.2.2.2.2.1
theorem dJ5_init_d00df_22 : decode cJ5_init_d00df 22 = .ok (.goto 16, 3) := bJ5_init_d00df_0.2.2.2.2.2.2.2.2.2.2.2.1
theorem dJ5_init_d00df_25 : decode cJ5_init_d00df 25 = .ok (.aload_n 0, 1) := bJ5_init_d00df_0.2.2.2.2.2.2.2.2.2.2.2.2.1
theorem dJ5_init_d00df_26 : decode cJ5_init_d00df 26 = .ok (.iload_n 1, 1) := bJ5_init_d00df_0.2.2.2.2.2.2.2.2.2.2.2.2.2.1
theorem dJ5_init_d00df_27 : decode cJ5_init_d00df 27 = .ok (.invokestatic 26, 3) := bJ5_init_d00df_0.2.2.2.2.2.2.2.2.2.2.2.2.2.2.1
theorem dJ5_init_d00df_30 : decode cJ5_init_d00df 30 = .ok (.putfield 15, 3) := bJ5_init_d00df_0.2.2.2.2.2.2.2.2.2.2.2.2.2.2.2
set_option maxRecDepth 100000 in
theorem bJ5_init_d00df_33 : (decode cJ5_init_d00df 33 = .ok (.aload_n 0, 1)) ∧ (decode cJ5_init_d00df 34 = .ok (.iconst 1, 1)) ∧ (decode cJ5_init_d00df 35 = .ok (.putfield 22, 3)) ∧ (decode cJ5_init_d00df 38 = .ok (.return_, 1)) := by decide +kernel
theorem dJ5_init_d00df_33 : decode cJ5_init_d00df 33 = .ok (.aload_n 0, 1) := bJ5_init_d00df_33.1
theorem dJ5_init_d00df_34 : decode cJ5_init_d00df 34 = .ok (.iconst 1, 1) := bJ5_init_d00df_33.2.1
theorem dJ5_init_d00df_35 : decode cJ5_init_d00df 35 = .ok (.putfield 22, 3) := bJ5_init_d00df_33.2.2.1
theorem dJ5_init_d00df_38 : decode cJ5_init_d00df 38 = .ok (.return_, 1) := bJ5_init_d00df_33.2.2.2
set_option maxRecDepth 100000 in
theorem bJ5_length_8abf5_0 : (decode cJ5_length_8abf5 0 = .ok (.aload_n 0, 1)) ∧ (decode cJ5_length_8abf5 1 = .ok (.getfield 79, 3)) ∧ (decode cJ5_length_8abf5 4 = .ok (.ireturn, 1)) := by decide +kernel
theorem dJ5_length_8abf5_0 : decode cJ5_length_8abf5 0 = .ok (.aload_n 0, 1) := bJ5_length_8abf5_0.1
theorem dJ5_length_8abf5_1 : decode cJ5_length_8abf5 1 = .ok (.getfield 79, 3) := bJ5_length_8abf5_0.2.1
theorem dJ5_length_8abf5_4 : decode cJ5_length_8abf5 4 = .ok (.ireturn, 1) := bJ5_length_8abf5_0.2.2
set_option maxRecDepth 100000 in
theorem bJ5_ensureCapacityInternal_d00df_0 : (decode cJ5_ensureCapacityInternal_d00df 0 = .ok (.aload_n 0, 1)) ∧ (decode cJ5_ensureCapacityInternal_d00df 1 = .ok (.getfield 15, 3)) ∧ (decode cJ5_ensureCapacityInternal_d00df 4 = .ok (.arraylength, 1)) ∧ (decode cJ5_ensureCapacityInternal_d00df 5 = .ok (.aload_n 0, 1)) ∧ (decode cJ5_ensureCapacityInternal_d00df 6 = .ok (.getfield 22, 3)) ∧ (decode cJ5_ensureCapacityInternal_d00df 9 = .ok (.ishr, 1)) ∧ (decode cJ5_ensureCapacityInternal_d00df 10 = .ok (.istore_n 2, 1)) ∧ (decode cJ5_ensureCapacityInternal_d00df 11 = .ok (.iload_n 1, 1)) ∧ (decode cJ5_ensureCapacityInternal_d00df 12 = .ok (.iload_n 2, 1)) ∧ (decode cJ5_ensureCapacityInternal_d00df 13 = .ok (.isub, 1)) ∧ (decode cJ5_ensureCapacityInternal_d00df 14 = .ok (.ifCond .le 24, 3)) ∧ (decode cJ5_ensureCapacityInternal_d00df 17 = .ok (.aload_n 0, 1)) ∧ (decode cJ5_ensureCapacityInternal_d00df 18 = .ok (.aload_n 0, 1)) ∧ (decode cJ5_ensureCapacityInternal_d00df 19 = .ok (.getfield 15, 3)) ∧ (decode cJ5_ensureCapacityInternal_d00df 22 = .ok (.aload_n 0, 1)) ∧ (decode cJ5_ensureCapacityInternal_d00df 23 = .ok (.iload_n 1, 1)) := by decide +kernel
theorem dJ5_ensureCapacityInternal_d00df_0 : decode cJ5_ensureCapacityInternal_d00df 0 = .ok (.aload_n 0, 1) := bJ5_ensureCapacityInternal_d00df_0.1
theorem dJ5_ensureCapacityInternal_d00df_1 : decode cJ5_ensureCapacityInternal_d00df 1 = .ok (.getfield 15, 3) := bJ5_ensureCapacityInternal_d00df_0.2.1
theorem dJ5_ensureCapacityInternal_d00df_4 : decode cJ5_ensureCapacityInternal_d00df 4 = .ok (.arraylength, 1) := bJ5_ensureCapacityInternal_d00df_0.2.2.1
theorem dJ5_ensureCapacityInternal_d00df_5 : decode cJ5_ensureCapacityInternal_d00df 5 = .ok (.aload_n 0, 1) := bJ5_ensureCapacityInternal_d00df_0.2.2.2.1
theorem dJ5_ensureCapacityInternal_d00df_6 : decode cJ5_ensureCapacityInternal_d00df 6 = .ok (.getfield 22, 3) := bJ5_ensureCapacityInternal_d00df_0.2.2.2.2.1
theorem dJ5_ensureCapacityInternal_d00df_9 : decode cJ5_ensureCapacityInternal_d00df 9 = .ok (.ishr, 1) := bJ5_ensureCapacityInternal_d00df_0.2.2.2.2.2.1
theorem dJ5_ensureCapacityInternal_d00df_10 : decode cJ5_ensureCapacityInternal_d00df 10 = .ok (.istore_n 2, 1) := bJ5_ensureCapacityInternal_d00df_0.2.2.2.2.2.2.1
theorem dJ5_ensureCapacityInternal_d00df_11 : decode cJ5_ensureCapacityInternal_d00df 11 = .ok (.iload_n 1, 1) := bJ5_ensureCapacityInternal_d00df_0.2.2.2.2.2.2.2.1
theorem dJ5_ensureCapacityInternal_d00df_12 : decode cJ5_ensureCapacityInternal_d00df 12 = .ok (.iload_n 2, 1) := bJ5_ensureCapacityInternal_d00df_0.2.2.2.2.2.2.2.2.1
theorem dJ5_ensureCapacityInternal_d00df_13 : decode cJ5_ensureCapacityInternal_d00df 13 = .ok (.isub, 1) := bJ5_ensureCapacityInternal_d00df_0.2.2.2.2.2.2.2.2.2.1
theorem dJ5_ensureCapacityInternal_d00df_14 : decode cJ5_ensureCapacityInternal_d00df 14 = .ok (.ifCond .le 24, 3) := bJ5_ensureCapacityInternal_d00df_0.2.2.2.2.2.2.2.2.2.2.1
theorem dJ5_ensureCapacityInternal_d00df_17 : decode cJ5_ensureCapacityInternal_d00df 17 = .ok (.aload_n 0, 1) := bJ5_ensureCapacityInternal_d00df_0.2.2.2.2.2.2.2.2.2.2.2.1
theorem dJ5_ensureCapacityInternal_d00df_18 : decode cJ5_ensureCapacityInternal_d00df 18 = .ok (.aload_n 0, 1) := bJ5_ensureCapacityInternal_d00df_0.2.2.2.2.2.2.2.2.2.2.2.2.1
theorem dJ5_ensureCapacityInternal_d00df_19 : decode cJ5_ensureCapacityInternal_d00df 19 = .ok (.getfield 15, 3) := bJ5_ensureCapacityInternal_d00df_0.2.2.2.2.2.2.2.2.2.2.2.2.2.1
theorem dJ5_ensureCapacityInternal_d00df_22 : decode cJ5_ensureCapacityInternal_d00df 22 = .ok (.aload_n 0, 1) := bJ5_ensureCapacityInternal_d00df_0.2.2.2.2.2.2.2.2.2.2.2.2.2.2.1
theorem dJ5_ensureCapacityInternal_d00df_23 : decode cJ5_ensureCapacityInternal_d00df 23 = .ok (.iload_n 1, 1) := bJ5_ensureCapacityInternal_d00df_0.2.2.2.2.2.2.2.2.2.2.2.2.2.2.2
set_option maxRecDepth 100000 in
theorem bJ5_ensureCapacityInternal_d00df_24 : (decode cJ5_ensureCapacityInternal_d00df 24 = .ok (.invokevirtual 104, 3)) ∧ (decode cJ5_ensureCapacityInternal_d00df 27 = .ok (.aload_n 0, 1)) ∧ (decode cJ5_ensureCapacityInternal_d00df 28 = .ok (.getfield 22, 3)) ∧ (decode cJ5_ensureCapacityInternal_d00df 31 = .ok (.ishl, 1)) ∧ (decode cJ5_ensureCapacityInternal_d00df 32 = .ok (.invokestatic 108, 3)) ∧ (decode cJ5_ensureCapacityInternal_d00df 35 = .ok (.putfield 15, 3)) ∧ (decode cJ5_ensureCapacityInternal_d00df 38 = .ok (.return_, 1)) := by decide +kernel
theorem dJ5_ensureCapacityInternal_d00df_24 : decode cJ5_ensureCapacityInternal_d00df 24 = .ok (.invokevirtual 104, 3) := bJ5_ensureCapacityInternal_d00df_24.1
theorem dJ5_ensureCapacityInternal_d00df_27 : decode cJ5_ensureCapacityInternal_d00df 27 = .ok (.aload_n 0, 1) := bJ5_ensureCapacityInternal_d00df_24.2.1
theorem dJ5_ensureCapacityInternal_d00df_28 : decode cJ5_ensureCapacityInternal_d00df 28 = .ok (.getfield 22, 3) := bJ5_ensureCapacityInternal_d00df_24.2.2.1
theorem dJ5_ensureCapacityInternal_d00df_31 : decode cJ5_ensureCapacityInternal_d00df 31 = .ok (.ishl, 1) := bJ5_ensureCapacityInternal_d00df_24.2.2.2.1
theorem dJ5_ensureCapacityInternal_d00df_32 : decode cJ5_ensureCapacityInternal_d00df 32 = .ok (.invokestatic 108, 3) := bJ5_ensureCapacityInternal_d00df_24.2.2.2.2.1
theorem dJ5_ensureCapacityInternal_d00df_35 : decode cJ5_ensureCapacityInternal_d00df 35 = .ok (.putfield 15, 3) := bJ5_ensureCapacityInternal_d00df_24.2.2.2.2.2.1
theorem dJ5_ensureCapacityInternal_d00df_38 : decode cJ5_ensureCapacityInternal_d00df 38 = .ok (.return_, 1) := bJ5_ensureCapacityInternal_d00df_24.2.2.2.2.2.2
set_option maxRecDepth 100000 in
theorem bJ5_newCapacity_0f7a4_0 : (decode cJ5_newCapacity_0f7a4 0 = .ok (.aload_n 0, 1)) ∧ (decode cJ5_newCapacity_0f7a4 1 = .ok (.getfield 15, 3)) ∧ (decode cJ5_newCapacity_0f7a4 4 = .ok (.arraylength, 1)) ∧ (decode cJ5_newCapacity_0f7a4 5 = .ok (.istore_n 2, 1)) ∧ (decode cJ5_newCapacity_0f7a4 6 = .ok (.iload_n 1, 1)) ∧ (decode cJ5_newCapacity_0f7a4 7 = .ok (.aload_n 0, 1)) ∧ (decode cJ5_newCapacity_0f7a4 8 = .ok (.getfield 22, 3)) ∧ (decode cJ5_newCapacity_0f7a4 11 = .ok (.ishl, 1)) ∧ (decode cJ5_newCapacity_0f7a4 12 = .ok (.istore_n 3, 1)) ∧ (decode cJ5_newCapacity_0f7a4 13 = .ok (.iload_n 3, 1)) ∧ (decode cJ5_newCapacity_0f7a4 14 = .ok (.iload_n 2, 1)) ∧ (decode cJ5_newCapacity_0f7a4 15 = .ok (.isub, 1)) ∧ (decode cJ5_newCapacity_0f7a4 16 = .ok (.istore 4, 2)) ∧ (decode cJ5_newCapacity_0f7a4 18 = .ok (.iload_n 2, 1)) ∧ (decode cJ5_newCapacity_0f7a4 19 = .ok (.iload 4, 2)) ∧ (decode cJ5_newCapacity_0f7a4 21 = .ok (.iload_n 2, 1)) := by decide +kernel
theorem dJ5_newCapacity_0f7a4_0 : decode cJ5_newCapacity_0f7a4 0 = .ok (.aload_n 0, 1) := bJ5_newCapacity_0f7a4_0.1
theorem dJ5_newCapacity_0f7a4_1 : decode cJ5_newCapacity_0f7a4 1 = .ok (.getfield 15, 3) := bJ5_newCapacity_0f7a4_0.2.1
theorem dJ5_newCapacity_0f7a4_4 : decode cJ5_newCapacity_0f7a4 4 = .ok (.arraylength, 1) := bJ5_newCapacity_0f7a4_0.2.2.1
theorem dJ5_newCapacity_0f7a4_5 : decode cJ5_newCapacity_0f7a4 5 = .ok (.istore_n 2, 1) := bJ5_newCapacity_0f7a4_0.2.2.2.1
theorem dJ5_newCapacity_0f7a4_6 : decode cJ5_newCapacity_0f7a4 6 = .ok (.iload_n 1, 1) := bJ5_newCapacity_0f7a4_0.2.2.2.2.1
theorem dJ5_newCapacity_0f7a4_7 : decode cJ5_newCapacity_0f7a4 7 = .ok (.aload_n 0, 1) := bJ5_newCapacity_0f7a4_0.2.2.2.2.2.1
theorem dJ5_newCapacity_0f7a4_8 : decode cJ5_newCapacity_0f7a4 8 = .ok (.getfield 22, 3) := bJ5_newCapacity_0f7a4_0.2.2.2.2.2.2.1
theorem dJ5_newCapacity_0f7a4_11 : decode cJ5_newCapacity_0f7a4 11 = .ok (.ishl, 1) := bJ5_newCapacity_0f7a4_0.2.2.2.2.2.2.2.1
theorem dJ5_newCapacity_0f7a4_12 : decode cJ5_newCapacity_0f7a4 12 = .ok (.istore_n 3, 1) := bJ5_newCapacity_0f7a4_0.2.2.2.2.2.2.2.2.1
theorem dJ5_newCapacity_0f7a4_13 : decode cJ5_newCapacity_0f7a4 13 = .ok (.iload_n 3, 1) := bJ5_newCapacity_0f7a4_0.2.2.2.2.2.2.2.2.2.1
theorem dJ5_newCapacity_0f7a4_14 : decode cJ5_newCapacity_0f7a4 14 = .ok (.iload_n 2, 1) := bJ5_newCapacity_0f7a4_0.2.2.2.2.2.2.2.2.2.2.1
theorem dJ5_newCapacity_0f7a4_15 : decode cJ5_newCapacity_0f7a4 15 = .ok (.isub, 1) := bJ5_newCapacity_0f7a4_0.2.2.2.2.2.2.2.2.2.2.2.1
theorem dJ5_newCapacity_0f7a4_16 : decode cJ5_newCapacity_0f7a4 16 = .ok (.istore 4, 2) := bJ5_newCapacity_0f7a4_0.2.2.2.2.2.2.2.2.2.2.2.2.1
theorem dJ5_newCapacity_0f7a4_18 : decode cJ5_newCapacity_0f7a4 18 = .ok (.iload_n 2, 1) := bJ5_newCapacity_0f7a4_0.2.2.2.2.2.2.2.2.2.2.2.2.2.1
theorem dJ5_newCapacity_0f7a4_19 : decode cJ5_newCapacity_0f7a4 19 = .ok (.iload 4, 2) := bJ5_newCapacity_0f7a4_0.2.2.2.2.2.2.2.2.2.2.2.2.2.2.1
theorem dJ5_newCapacity_0f7a4_21 : decode cJ5_newCapacity_0f7a4 21 = .ok (.iload_n 2, 1) := bJ5_newCapacity_0f7a4_0.2.2.2.2.2.2.2.2.2.2.2.2.2.2.2
set_option maxRecDepth 100000 in
theorem bJ5_newCapacity_0f7a4_22 : (decode cJ5_newCapacity_0f7a4 22 = .ok (.iconst 2, 1)) ∧ (decode cJ5_newCapacity_0f7a4 23 = .ok (.aload_n 0, 1)) ∧ (decode cJ5_newCapacity_0f7a4 24 = .ok (.getfield 22, 3)) ∧ (decode cJ5_newCapacity_0f7a4 27 = .ok (.ishl, 1)) ∧ (decode cJ5_newCapacity_0f7a4 28 = .ok (.iadd, 1)) ∧ (decode cJ5_newCapacity_0f7a4 29 = .ok (.invokestatic 114, 3)) ∧ (decode cJ5_newCapacity_0f7a4 32 = .ok (.istore 5, 2)) ∧ (decode cJ5_newCapacity_0f7a4 34 = .ok (.iload 5, 2)) ∧ (decode cJ5_newCapacity_0f7a4 36 = .ok (.ldc 39, 2)) ∧ (decode cJ5_newCapacity_0f7a4 38 = .ok (.if_icmp .ne 13, 3)) ∧ (decode cJ5_newCapacity_0f7a4 41 = .ok (.new 120, 3)) ∧ (decode cJ5_newCapacity_0f7a4 44 = .ok (.dup, 1)) ∧ (decode cJ5_newCapacity_0f7a4 45 = .ok (.ldc 122, 2)) ∧ (decode cJ5_newCapacity_0f7a4 47 = .ok (.invokespecial 124, 3)) ∧ (decode cJ5_newCapacity_0f7a4 50 = .ok (.athrow, 1)) ∧ (decode cJ5_newCapacity_0f7a4 51 = .ok (.iload 5, 2)) := by decide +kernel
theorem dJ5_newCapacity_0f7a4_22 : decode cJ5_newCapacity_0f7a4 22 = .ok (.iconst 2, 1) := bJ5_newCapacity_0f7a4_22.1
theorem dJ5_newCapacity_0f7a4_23 : decode cJ5_newCapacity_0f7a4 23 = .ok (.aload_n 0, 1) := bJ5_newCapacity_0f7a4_22.2.1
theorem dJ5_newCapacity_0f7a4_24 : decode cJ5_newCapacity_0f7a4 24 = .ok (.getfield 22, 3) := bJ5_newCapacity_0f7a4_22.2.2.1
theorem dJ5_newCapacity_0f7a4_27 : decode cJ5_newCapacity_0f7a4 27 = .ok (.ishl, 1) := bJ5_newCapacity_0f7a4_22.2.2.2.1
theorem dJ5_newCapacity_0f7a4_28 : decode cJ5_newCapacity_0f7a4 28 = .ok (.iadd, 1) := bJ5_newCapacity_0f7a4_22.2.2.2.2.1
theorem dJ5_newCapacity_0f7a4_29 : decode cJ5_newCapacity_0f7a4 29 = .ok (.invokestatic 114, 3) := bJ5_newCapacity_0f7a4_22.2.2.2.2.2.1
theorem dJ5_newCapacity_0f7a4_32 : decode cJ5_newCapacity_0f7a4 32 = .ok (.istore 5, 2) := bJ5_newCapacity_0f7a4_22.2.2.2.2.2.2.1
theorem dJ5_newCapacity_0f7a4_34 : decode cJ5_newCapacity_0f7a4 34 = .ok (.iload 5, 2) := bJ5_newCapacity_0f7a4_22.2.2.2.2.2.2.2.1
theorem dJ5_newCapacity_0f7a4_36 : decode cJ5_newCapacity_0f7a4 36 = .ok (.ldc 39, 2) := bJ5_newCapacity_0f7a4_22.2.2.2.2.2.2.2.2.1
theorem dJ5_newCapacity_0f7a4_38 : decode cJ5_newCapacity_0f7a4 38 = .ok (.if_icmp .ne 13, 3) := bJ5_newCapacity_0f7a4_22.2.2.2.2.2.2.2.2.2.1
theorem dJ5_newCapacity_0f7a4_41 : decode cJ5_newCapacity_0f7a4 41 = .ok (.new 120, 3) := bJ5_newCapacity_0f7a4_22.2.2.2.2.2.2.2.2.2.2.1
theorem dJ5_newCapacity_0f7a4_44 : decode cJ5_newCapacity_0f7a4 44 = .ok (.dup, 1) := bJ5_newCapacity_0f7a4_22.2.2.2.2.2.2.2.2.2.2.2.1
theorem dJ5_newCapacity_0f7a4_45 : decode cJ5_newCapacity_0f7a4 45 = .ok (.ldc 122, 2) := bJ5_newCapacity_0f7a4_22.2.2.2.2.2.2.2.2.2.2.2.2.1
theorem dJ5_newCapacity_0f7a4_47 : decode cJ5_newCapacity_0f7a4 47 = .ok (.invokespecial 124, 3) := bJ5_newCapacity_0f7a4_22.2.2.2.2.2.2.2.2.2.2.2.2.2.1
theorem dJ5_newCapacity_0f7a4_50 : decode cJ5_newCapacity_0f7a4 50 = .ok (.athrow, 1) := bJ5_newCapacity_0f7a4_22.2.2.2.2.2.2.2.2.2.2.2.2.2.2.1
theorem dJ5_newCapacity_0f7a4_51 : decode cJ5_newCapacity_0f7a4 51 = .ok (.iload 5, 2) := bJ5_newCapacity_0f7a4_22.2.2.2.2.2.2.2.2.2.2.2.2.2.2.2
set_option maxRecDepth 100000 in
theorem bJ5_newCapacity_0f7a4_53 : (decode cJ5_newCapacity_0f7a4 53 = .ok (.aload_n 0, 1)) ∧ (decode cJ5_newCapacity_0f7a4 54 = .ok (.getfield 22, 3)) ∧ (decode cJ5_newCapacity_0f7a4 57 = .ok (.ishr, 1)) ∧ (decode cJ5_newCapacity_0f7a4 58 = .ok (.ireturn, 1)) := by decide +kernel
theorem dJ5_newCapacity_0f7a4_53 : decode cJ5_newCapacity_0f7a4 53 = .ok (.aload_n 0, 1) := bJ5_newCapacity_0f7a4_53.1
theorem dJ5_newCapacity_0f7a4_54 : decode cJ5_newCapacity_0f7a4 54 = .ok (.getfield 22, 3) := bJ5_newCapacity_0f7a4_53.2.1
theorem dJ5_newCapacity_0f7a4_57 : decode cJ5_newCapacity_0f7a4 57 = .ok (.ishr, 1) := bJ5_newCapacity_0f7a4_53.2.2.1
theorem dJ5_newCapacity_0f7a4_58 : decode cJ5_newCapacity_0f7a4 58 = .ok (.ireturn, 1) := bJ5_newCapacity_0f7a4_53.2.2.2
set_option maxRecDepth 100000 in
theorem bJ5_append_cf1ce_0 : (decode cJ5_append_cf1ce 0 = .ok (.aload_n 1, 1)) ∧ (decode cJ5_append_cf1ce 1 = .ok (.ifnonnull 8, 3)) ∧ (decode cJ5_append_cf1ce 4 = .ok (.aload_n 0, 1)) ∧ (decode cJ5_append_cf1ce 5 = .ok (.invokevirtual 204, 3)) ∧ (decode cJ5_append_cf1ce 8 = .ok (.areturn, 1)) ∧ (decode cJ5_append_cf1ce 9 = .ok (.aload_n 1, 1)) ∧ (decode cJ5_append_cf1ce 10 = .ok (.invokevirtual 32, 3)) ∧ (decode cJ5_append_cf1ce 13 = .ok (.istore_n 2, 1)) ∧ (decode cJ5_append_cf1ce 14 = .ok (.aload_n 0, 1)) ∧ (decode cJ5_append_cf1ce 15 = .ok (.aload_n 0, 1)) ∧ (decode cJ5_append_cf1ce 16 = .ok (.getfield 79, 3)) ∧ (decode cJ5_append_cf1ce 19 = .ok (.iload_n 2, 1)) ∧ (decode cJ5_append_cf1ce 20 = .ok (.iadd, 1)) ∧ (decode cJ5_append_cf1ce 21 = .ok (.invokevirtual 100, 3)) ∧ (decode cJ5_append_cf1ce 24 = .ok (.aload_n 0, 1)) ∧ (decode cJ5_append_cf1ce 25 = .ok (.aload_n 0, 1)) := by decide +kernel
theorem dJ5_append_cf1ce_0 : decode cJ5_append_cf1ce 0 = .ok (.aload_n 1, 1) := bJ5_append_cf1ce_0.1
theorem dJ5_append_cf1ce_1 : decode cJ5_append_cf1ce 1 = .ok (.ifnonnull 8, 3) := bJ5_append_cf1ce_0.2.1
theorem dJ5_append_cf1ce_4 : decode cJ5_append_cf1ce 4 = .ok (.aload_n 0, 1) := bJ5_append_cf1ce_0.2.2.1
theorem dJ5_append_cf1ce_5 : decode cJ5_append_cf1ce 5 = .ok (.invokevirtual 204, 3) := bJ5_append_cf1ce_0.2.2.2.1
theorem dJ5_append_cf1ce_8 : decode cJ5_append_cf1ce 8 = .ok (.areturn, 1) := bJ5_append_cf1ce_0.2.2.2.2.1
theorem dJ5_append_cf1ce_9 : decode cJ5_append_cf1ce 9 = .ok (.aload_n 1, 1) := bJ5_append_cf1ce_0.2.2.2.2.2.1
theorem dJ5_append_cf1ce_10 : decode cJ5_append_cf1ce 10 = .ok (.invokevirtual 32, 3) := bJ5_append_cf1ce_0.2.2.2.2.2.2.1
theorem dJ5_append_cf1ce_13 : decode cJ5_append_cf1ce 13 = .ok (.istore_n 2, 1) := bJ5_append_cf1ce_0.2.2.2.2.2.2.2.1
theorem dJ5_append_cf1ce_14 : decode cJ5_append_cf1ce 14 = .ok (.aload_n 0, 1) := bJ5_append_cf1ce_0.2.2.2.2.2.2.2.2.1
theorem dJ5_append_cf1ce_15 : decode cJ5_append_cf1ce 15 = .ok (.aload_n 0, 1) := bJ5_append_cf1ce_0.2.2.2.2.2.2.2.2.2.1
theorem dJ5_append_cf1ce_16 : decode cJ5_append_cf1ce 16 = .ok (.getfield 79, 3) := bJ5_append_cf1ce_0.2.2.2.2.2.2.2.2.2.2.1
theorem dJ5_append_cf1ce_19 : decode cJ5_append_cf1ce 19 = .ok (.iload_n 2, 1) := bJ5_append_cf1ce_0.2.2.2.2.2.2.2.2.2.2.2.1
theorem dJ5_append_cf1ce_20 : decode cJ5_append_cf1ce 20 = .ok (.iadd, 1) := bJ5_append_cf1ce_0.2.2.2.2.2.2.2.2.2.2.2.2.1
theorem dJ5_append_cf1ce_21 : decode cJ5_append_cf1ce 21 = .ok (.invokevirtual 100, 3) := bJ5_append_cf1ce_0.2.2.2.2.2.2.2.2.2.2.2.2.2.1
theorem dJ5_append_cf1ce_24 : decode cJ5_append_cf1ce 24 = .ok (.aload_n 0, 1) := bJ5_append_cf1ce_0.2.2.2.2.2.2.2.2.2.2.2.2.2.2.1
theorem dJ5_append_cf1ce_25 : decode cJ5_append_cf1ce 25 = .ok (.aload_n 0, 1) := bJ5_append_cf1ce_0.2.2.2.2.2.2.2.2.2.2.2.2.2.2.2
set_option maxRecDepth 100000 in
theorem bJ5_append_cf1ce_26 : (decode cJ5_append_cf1ce 26 = .ok (.getfield 79, 3)) ∧ (decode cJ5_append_cf1ce 29 = .ok (.aload_n 1, 1)) ∧ (decode cJ5_append_cf1ce 30 = .ok (.invokevirtual 208, 3)) ∧ (decode cJ5_append_cf1ce 33 = .ok (.aload_n 0, 1)) ∧ (decode cJ5_append_cf1ce 34 = .ok (.dup, 1)) ∧ (decode cJ5_append_cf1ce 35 = .ok (.getfield 79, 3)) ∧ (decode cJ5_append_cf1ce 38 = .ok (.iload_n 2, 1)) ∧ (decode cJ5_append_cf1ce 39 = .ok (.iadd, 1)) ∧ (decode cJ5_append_cf1ce 40 = .ok (.putfield 79, 3)) ∧ (decode cJ5_append_cf1ce 43 = .ok (.aload_n 0, 1)) ∧ (decode cJ5_append_cf1ce 44 = .ok (.areturn, 1)) := by decide +kernel
theorem dJ5_append_cf1ce_26 : decode cJ5_append_cf1ce 26 = .ok (.getfield 79, 3) := bJ5_append_cf1ce_26.1
theorem dJ5_append_cf1ce_29 : decode cJ5_append_cf1ce 29 = .ok (.aload_n 1, 1) := bJ5_append_cf1ce_26.2.1
theorem dJ5_append_cf1ce_30 : decode cJ5_append_cf1ce 30 = .ok (.invokevirtual 208, 3) := bJ5_append_cf1ce_26.2.2.1
theorem dJ5_append_cf1ce_33 : decode cJ5_append_cf1ce 33 = .ok (.aload_n 0, 1) := bJ5_append_cf1ce_26.2.2.2.1
theorem dJ5_append_cf1ce_34 : decode cJ5_append_cf1ce 34 = .ok (.dup, 1) := bJ5_append_cf1ce_26.2.2.2.2.1
theorem dJ5_append_cf1ce_35 : decode cJ5_append_cf1ce 35 = .ok (.getfield 79, 3) := bJ5_append_cf1ce_26.2.2.2.2.2.1
theorem dJ5_append_cf1ce_38 : decode cJ5_append_cf1ce 38 = .ok (.iload_n 2, 1) := bJ5_append_cf1ce_26.2.2.2.2.2.2.1
theorem dJ5_append_cf1ce_39 : decode cJ5_append_cf1ce 39 = .ok (.iadd, 1) := bJ5_append_cf1ce_26.2.2.2.2.2.2.2.1
theorem dJ5_append_cf1ce_40 : decode cJ5_append_cf1ce 40 = .ok (.putfield 79, 3) := bJ5_append_cf1ce_26.2.2.2.2.2.2.2.2.1
theorem dJ5_append_cf1ce_43 : decode cJ5_append_cf1ce 43 = .ok (.aload_n 0, 1) := bJ5_append_cf1ce_26.2.2.2.2.2.2.2.2.2.1
theorem dJ5_append_cf1ce_44 : decode cJ5_append_cf1ce 44 = .ok (.areturn, 1) := bJ5_append_cf1ce_26.2.2.2.2.2.2.2.2.2.2
set_option maxRecDepth 100000 in
theorem bJ5_append_3fe6f_0 : (decode cJ5_append_3fe6f 0 = .ok (.aload_n 0, 1)) ∧ (decode cJ5_append_3fe6f 1 = .ok (.aload_n 0, 1)) ∧ (decode cJ5_append_3fe6f 2 = .ok (.getfield 79, 3)) ∧ (decode cJ5_append_3fe6f 5 = .ok (.iconst 1, 1)) ∧ (decode cJ5_append_3fe6f 6 = .ok (.iadd, 1)) ∧ (decode cJ5_append_3fe6f 7 = .ok (.invokevirtual 100, 3)) ∧ (decode cJ5_append_3fe6f 10 = .ok (.aload_n 0, 1)) ∧ (decode cJ5_append_3fe6f 11 = .ok (.invokevirtual 83, 3)) ∧ (decode cJ5_append_3fe6f 14 = .ok (.ifCond .eq 31, 3)) ∧ (decode cJ5_append_3fe6f 17 = .ok (.iload_n 1, 1)) ∧ (decode cJ5_append_3fe6f 18 = .ok (.invokestatic 191, 3)) ∧ (decode cJ5_append_3fe6f 21 = .ok (.ifCond .eq 24, 3)) ∧ (decode cJ5_append_3fe6f 24 = .ok (.aload_n 0, 1)) ∧ (decode cJ5_append_3fe6f 25 = .ok (.getfield 15, 3)) ∧ (decode cJ5_append_3fe6f 28 = .ok (.aload_n 0, 1)) ∧ (decode cJ5_append_3fe6f 29 = .ok (.dup, 1)) := by decide +kernel
theorem dJ5_append_3fe6f_0 : decode cJ5_append_3fe6f 0 = .ok (.aload_n 0, 1) := bJ5_append_3fe6f_0.1
theorem dJ5_append_3fe6f_1 : decode cJ5_append_3fe6f 1 = .ok (.aload_n 0, 1) := bJ5_append_3fe6f_0.2.1
theorem dJ5_append_3fe6f_2 : decode cJ5_append_3fe6f 2 = .ok (.getfield 79, 3) := bJ5_append_3fe6f_0.2.2.1
theorem dJ5_append_3fe6f_5 : decode cJ5_append_3fe6f 5 = .ok (.iconst 1, 1) := bJ5_append_3fe6f_0.2.2.2.1
theorem dJ5_append_3fe6f_6 : decode cJ5_append_3fe6f 6 = .ok (.iadd, 1) := bJ5_append_3fe6f_0.2.2.2.2.1
theorem dJ5_append_3fe6f_7 : decode cJ5_append_3fe6f 7 = .ok (.invokevirtual 100, 3) := bJ5_append_3fe6f_0.2.2.2.2.2.1
theorem dJ5_append_3fe6f_10 : decode cJ5_append_3fe6f 10 = .ok (.aload_n 0, 1) := bJ5_append_3fe6f_0.2.2.2.2.2.2.1
theorem dJ5_append_3fe6f_11 : decode cJ5_append_3fe6f 11 = .ok (.invokevirtual 83, 3) := bJ5_append_3fe6f_0.2.2.2.2.2.2.2.1
theorem dJ5_append_3fe6f_14 : decode cJ5_append_3fe6f 14 = .ok (.ifCond .eq 31, 3) := bJ5_append_3fe6f_0.2.2.2.2.2.2.2.2.1
theorem dJ5_append_3fe6f_17 : decode cJ5_append_3fe6f 17 = .ok (.iload_n 1, 1) := bJ5_append_3fe6f_0.2.2.2.2.2.2.2.2.2.1
theorem dJ5_append_3fe6f_18 : decode cJ5_append_3fe6f 18 = .ok (.invokestatic 191, 3) := bJ5_append_3fe6f_0.2.2.2.2.2.2.2.2.2.2.1
theorem dJ5_append_3fe6f_21 : decode cJ5_append_3fe6f 21 = .ok (.ifCond .eq 24, 3) := bJ5_append_3fe6f_0.2.2.2.2.2.2.2.2.2.2.2.1
theorem dJ5_append_3fe6f_24 : decode cJ5_append_3fe6f 24 = .ok (.aload_n 0, 1) := bJ5_append_3fe6f_0.2.2.2.2.2.2.2.2.2.2.2.2.1
theorem dJ5_append_3fe6f_25 : decode cJ5_append_3fe6f 25 = .ok (.getfield 15, 3) := bJ5_append_3fe6f_0.2.2.2.2.2.2.2.2.2.2.2.2.2.1
theorem dJ5_append_3fe6f_28 : decode cJ5_append_3fe6f 28 = .ok (.aload_n 0, 1) := bJ5_append_3fe6f_0.2.2.2.2.2.2.2.2.2.2.2.2.2.2.1
theorem dJ5_append_3fe6f_29 : decode cJ5_append_3fe6f 29 = .ok (.dup, 1) := bJ5_append_3fe6f_0.2.2.2.2.2.2.2.2.2.2.2.2.2.2.2
set_option maxRecDepth 100000 in
theorem bJ5_append_3fe6f_30 : (decode cJ5_append_3fe6f 30 = .ok (.getfield 79, 3)) ∧ (decode cJ5_append_3fe6f 33 = .ok (.dup_x1, 1)) ∧ (decode cJ5_append_3fe6f 34 = .ok (.iconst 1, 1)) ∧ (decode cJ5_append_3fe6f 35 = .ok (.iadd, 1)) ∧ (decode cJ5_append_3fe6f 36 = .ok (.putfield 79, 3)) ∧ (decode cJ5_append_3fe6f 39 = .ok (.iload_n 1, 1)) ∧ (decode cJ5_append_3fe6f 40 = .ok (.i2b, 1)) ∧ (decode cJ5_append_3fe6f 41 = .ok (.bastore, 1)) ∧ (decode cJ5_append_3fe6f 42 = .ok (.goto 33, 3)) ∧ (decode cJ5_append_3fe6f 45 = .ok (.aload_n 0, 1)) ∧ (decode cJ5_append_3fe6f 46 = .ok (.invokevirtual 83, 3)) ∧ (decode cJ5_append_3fe6f 49 = .ok (.ifCond .eq 7, 3)) ∧ (decode cJ5_append_3fe6f 52 = .ok (.aload_n 0, 1)) ∧ (decode cJ5_append_3fe6f 53 = .ok (.invokevirtual 195, 3)) ∧ (decode cJ5_append_3fe6f 56 = .ok (.aload_n 0, 1)) ∧ (decode cJ5_append_3fe6f 57 = .ok (.getfield 15, 3)) := by decide +kernel
theorem dJ5_append_3fe6f_30 : decode cJ5_append_3fe6f 30 = .ok (.getfield 79, 3) := bJ5_append_3fe6f_30.1
theorem dJ5_append_3fe6f_33 : decode cJ5_append_3fe6f 33 = .ok (.dup_x1, 1) := bJ5_append_3fe6f_30.2.1
theorem dJ5_append_3fe6f_34 : decode cJ5_append_3fe6f 34 = .ok (.iconst 1, 1) := bJ5_append_3fe6f_30.2.2.1
theorem dJ5_append_3fe6f_35 : decode cJ5_append_3fe6f 35 = .ok (.iadd, 1) := bJ5_append_3fe6f_30.2.2.2.1
theorem dJ5_append_3fe6f_36 : decode cJ5_append_3fe6f 36 = .ok (.putfield 79, 3) := bJ5_append_3fe6f_30.2.2.2.2.1
theorem dJ5_append_3fe6f_39 : decode cJ5_append_3fe6f 39 = .ok (.iload_n 1, 1) := bJ5_append_3fe6f_30.2.2.2.2.2.1
theorem dJ5_append_3fe6f_40 : decode cJ5_append_3fe6f 40 = .ok (.i2b, 1) := bJ5_append_3fe6f_30.2.2.2.2.2.2.1
theorem dJ5_append_3fe6f_41 : decode cJ5_append_3fe6f 41 = .ok (.bastore, 1) := bJ5_append_3fe6f_30.2.2.2.2.2.2.2.1
theorem dJ5_append_3fe6f_42 : decode cJ5_append_3fe6f 42 = .ok (.goto 33, 3) := bJ5_append_3fe6f_30.2.2.2.2.2.2.2.2.1
theorem dJ5_append_3fe6f_45 : decode cJ5_append_3fe6f 45 = .ok (.aload_n 0, 1) := bJ5_append_3fe6f_30.2.2.2.2.2.2.2.2.2.1
theorem dJ5_append_3fe6f_46 : decode cJ5_append_3fe6f 46 = .ok (.invokevirtual 83, 3) := bJ5_append_3fe6f_30.2.2.2.2.2.2.2.2.2.2.1
theorem dJ5_append_3fe6f_49 : decode cJ5_append_3fe6f 49 = .ok (.ifCond .eq 7, 3) := bJ5_append_3fe6f_30.2.2.2.2.2.2.2.2.2.2.2.1
theorem dJ5_append_3fe6f_52 : decode cJ5_append_3fe6f 52 = .ok (.aload_n 0, 1) := bJ5_append_3fe6f_30.2.2.2.2.2.2.2.2.2.2.2.2.1
theorem dJ5_append_3fe6f_53 : decode cJ5_append_3fe6f 53 = .ok (.invokevirtual 195, 3) := bJ5_append_3fe6f_30.2.2.2.2.2.2.2.2.2.2.2.2.2.1
theorem dJ5_append_3fe6f_56 : decode cJ5_append_3fe6f 56 = .ok (.aload_n 0, 1) := bJ5_append_3fe6f_30.2.2.2.2.2.2.2.2.2.2.2.2.2.2.1
theorem dJ5_append_3fe6f_57 : decode cJ5_append_3fe6f 57 = .ok (.getfield 15, 3) := bJ5_append_3fe6f_30.2.2.2.2.2.2.2.2.2.2.2.2.2.2.2
set_option maxRecDepth 100000 in
theorem bJ5_append_3fe6f_60 : (decode cJ5_append_3fe6f 60 = .ok (.aload_n 0, 1)) ∧ (decode cJ5_append_3fe6f 61 = .ok (.dup, 1)) ∧ (decode cJ5_append_3fe6f 62 = .ok (.getfield 79, 3)) ∧ (decode cJ5_append_3fe6f 65 = .ok (.dup_x1, 1)) ∧ (decode cJ5_append_3fe6f 66 = .ok (.iconst 1, 1)) ∧ (decode cJ5_append_3fe6f 67 = .ok (.iadd, 1)) ∧ (decode cJ5_append_3fe6f 68 = .ok (.putfield 79, 3)) ∧ (decode cJ5_append_3fe6f 71 = .ok (.iload_n 1, 1)) ∧ (decode cJ5_append_3fe6f 72 = .ok (.invokestatic 197, 3)) ∧ (decode cJ5_append_3fe6f 75 = .ok (.aload_n 0, 1)) ∧ (decode cJ5_append_3fe6f 76 = .ok (.areturn, 1)) := by decide +kernel
theorem dJ5_append_3fe6f_60 : decode cJ5_append_3fe6f 60 = .ok (.aload_n 0, 1) := bJ5_append_3fe6f_60.1
theorem dJ5_append_3fe6f_61 : decode cJ5_append_3fe6f 61 = .ok (.dup, 1) := bJ5_append_3fe6f_60.2.1
theorem dJ5_append_3fe6f_62 : decode cJ5_append_3fe6f 62 = .ok (.getfield 79, 3) := bJ5_append_3fe6f_60.2.2.1
theorem dJ5_append_3fe6f_65 : decode cJ5_append_3fe6f 65 = .ok (.dup_x1, 1) := bJ5_append_3fe6f_60.2.2.2.1
theorem dJ5_append_3fe6f_66 : decode cJ5_append_3fe6f 66 = .ok (.iconst 1, 1) := bJ5_append_3fe6f_60.2.2.2.2.1
theorem dJ5_append_3fe6f_67 : decode cJ5_append_3fe6f 67 = .ok (.iadd, 1) := bJ5_append_3fe6f_60.2.2.2.2.2.1
theorem dJ5_append_3fe6f_68 : decode cJ5_append_3fe6f 68 = .ok (.putfield 79, 3) := bJ5_append_3fe6f_60.2.2.2.2.2.2.1
theorem dJ5_append_3fe6f_71 : decode cJ5_append_3fe6f 71 = .ok (.iload_n 1, 1) := bJ5_append_3fe6f_60.2.2.2.2.2.2.2.1
theorem dJ5_append_3fe6f_72 : decode cJ5_append_3fe6f 72 = .ok (.invokestatic 197, 3) := bJ5_append_3fe6f_60.2.2.2.2.2.2.2.2.1
theorem dJ5_append_3fe6f_75 : decode cJ5_append_3fe6f 75 = .ok (.aload_n 0, 1) := bJ5_append_3fe6f_60.2.2.2.2.2.2.2.2.2.1
theorem dJ5_append_3fe6f_76 : decode cJ5_append_3fe6f 76 = .ok (.areturn, 1) := bJ5_append_3fe6f_60.2.2.2.2.2.2.2.2.2.2
set_option maxRecDepth 100000 in
theorem bJ5_append_c97b9_0 : (decode cJ5_append_c97b9 0 = .ok (.aload_n 0, 1)) ∧ (decode cJ5_append_c97b9 1 = .ok (.getfield 79, 3)) ∧ (decode cJ5_append_c97b9 4 = .ok (.istore_n 2, 1)) ∧ (decode cJ5_append_c97b9 5 = .ok (.iload_n 2, 1)) ∧ (decode cJ5_append_c97b9 6 = .ok (.iload_n 1, 1)) ∧ (decode cJ5_append_c97b9 7 = .ok (.invokestatic 245, 3)) ∧ (decode cJ5_append_c97b9 10 = .ok (.iadd, 1)) ∧ (decode cJ5_append_c97b9 11 = .ok (.istore_n 3, 1)) ∧ (decode cJ5_append_c97b9 12 = .ok (.aload_n 0, 1)) ∧ (decode cJ5_append_c97b9 13 = .ok (.iload_n 3, 1)) ∧ (decode cJ5_append_c97b9 14 = .ok (.invokevirtual 100, 3)) ∧ (decode cJ5_append_c97b9 17 = .ok (.aload_n 0, 1)) ∧ (decode cJ5_append_c97b9 18 = .ok (.invokevirtual 83, 3)) ∧ (decode cJ5_append_c97b9 21 = .ok (.ifCond .eq 16, 3)) ∧ (decode cJ5_append_c97b9 24 = .ok (.iload_n 1, 1)) ∧ (decode cJ5_append_c97b9 25 = .ok (.iload_n 3, 1)) := by decide +kernel
theorem dJ5_append_c97b9_0 : decode cJ5_append_c97b9 0 = .ok (.aload_n 0, 1) := bJ5_append_c97b9_0.1
theorem dJ5_append_c97b9_1 : decode cJ5_append_c97b9 1 = .ok (.getfield 79, 3) := bJ5_append_c97b9_0.2.1
theorem dJ5_append_c97b9_4 : decode cJ5_append_c97b9 4 = .ok (.istore_n 2, 1) := bJ5_append_c97b9_0.2.2.1
theorem dJ5_append_c97b9_5 : decode cJ5_append_c97b9 5 = .ok (.iload_n 2, 1) := bJ5_append_c97b9_0.2.2.2.1
theorem dJ5_append_c97b9_6 : decode cJ5_append_c97b9 6 = .ok (.iload_n 1, 1) := bJ5_append_c97b9_0.2.2.2.2.1
theorem dJ5_append_c97b9_7 : decode cJ5_append_c97b9 7 = .ok (.invokestatic 245, 3) := bJ5_append_c97b9_0.2.2.2.2.2.1
theorem dJ5_append_c97b9_10 : decode cJ5_append_c97b9 10 = .ok (.iadd, 1) := bJ5_append_c97b9_0.2.2.2.2.2.2.1
theorem dJ5_append_c97b9_11 : decode cJ5_append_c97b9 11 = .ok (.istore_n 3, 1) := bJ5_append_c97b9_0.2.2.2.2.2.2.2.1
theorem dJ5_append_c97b9_12 : decode cJ5_append_c97b9 12 = .ok (.aload_n 0, 1) := bJ5_append_c97b9_0.2.2.2.2.2.2.2.2.1
theorem dJ5_append_c97b9_13 : decode cJ5_append_c97b9 13 = .ok (.iload_n 3, 1) := bJ5_append_c97b9_0.2.2.2.2.2.2.2.2.2.1
theorem dJ5_append_c97b9_14 : decode cJ5_append_c97b9 14 = .ok (.invokevirtual 100, 3) := bJ5_append_c97b9_0.2.2.2.2.2.2.2.2.2.2.1
theorem dJ5_append_c97b9_17 : decode cJ5_append_c97b9 17 = .ok (.aload_n 0, 1) := bJ5_append_c97b9_0.2.2.2.2.2.2.2.2.2.2.2.1
theorem dJ5_append_c97b9_18 : decode cJ5_append_c97b9 18 = .ok (.invokevirtual 83, 3) := bJ5_append_c97b9_0.2.2.2.2.2.2.2.2.2.2.2.2.1
theorem dJ5_append_c97b9_21 : decode cJ5_append_c97b9 21 = .ok (.ifCond .eq 16, 3) := bJ5_append_c97b9_0.2.2.2.2.2.2.2.2.2.2.2.2.2.1
theorem dJ5_append_c97b9_24 : decode cJ5_append_c97b9 24 = .ok (.iload_n 1, 1) := bJ5_append_c97b9_0.2.2.2.2.2.2.2.2.2.2.2.2.2.2.1
theorem dJ5_append_c97b9_25 : decode cJ5_append_c97b9 25 = .ok (.iload_n 3, 1) := bJ5_append_c97b9_0.2.2.2.2.2.2.2.2.2.2.2.2.2.2.2
set_option maxRecDepth 100000 in
theorem bJ5_append_c97b9_26 : (decode cJ5_append_c97b9 26 = .ok (.aload_n 0, 1)) ∧ (decode cJ5_append_c97b9 27 = .ok (.getfield 15, 3)) ∧ (decode cJ5_append_c97b9 30 = .ok (.invokestatic 248, 3)) ∧ (decode cJ5_append_c97b9 33 = .ok (.pop, 1)) ∧ (decode cJ5_append_c97b9 34 = .ok (.goto 14, 3)) ∧ (decode cJ5_append_c97b9 37 = .ok (.iload_n 1, 1)) ∧ (decode cJ5_append_c97b9 38 = .ok (.iload_n 2, 1)) ∧ (decode cJ5_append_c97b9 39 = .ok (.iload_n 3, 1)) ∧ (decode cJ5_append_c97b9 40 = .ok (.aload_n 0, 1)) ∧ (decode cJ5_append_c97b9 41 = .ok (.getfield 15, 3)) ∧ (decode cJ5_append_c97b9 44 = .ok (.invokestatic 251, 3)) ∧ (decode cJ5_append_c97b9 47 = .ok (.pop, 1)) ∧ (decode cJ5_append_c97b9 48 = .ok (.aload_n 0, 1)) ∧ (decode cJ5_append_c97b9 49 = .ok (.iload_n 3, 1)) ∧ (decode cJ5_append_c97b9 50 = .ok (.putfield 79, 3)) ∧ (decode cJ5_append_c97b9 53 = .ok (.aload_n 0, 1)) := by decide +kernel
theorem dJ5_append_c97b9_26 : decode cJ5_append_c97b9 26 = .ok (.aload_n 0, 1) := bJ5_append_c97b9_26.1
theorem dJ5_append_c97b9_27 : decode cJ5_append_c97b9 27 = .ok (.getfield 15, 3) := bJ5_append_c97b9_26.2.1
theorem dJ5_append_c97b9_30 : decode cJ5_append_c97b9 30 = .ok (.invokestatic 248, 3) := bJ5_append_c97b9_26.2.2.1
theorem dJ5_append_c97b9_33 : decode cJ5_append_c97b9 33 = .ok (.pop, 1) := bJ5_append_c97b9_26.2.2.2.1
theorem dJ5_append_c97b9_34 : decode cJ5_append_c97b9 34 = .ok (.goto 14, 3) := bJ5_append_c97b9_26.2.2.2.2.1
theorem dJ5_append_c97b9_37 : decode cJ5_append_c97b9 37 = .ok (.iload_n 1, 1) := bJ5_append_c97b9_26.2.2.2.2.2.1
theorem dJ5_append_c97b9_38 : decode cJ5_append_c97b9 38 = .ok (.iload_n 2, 1) := bJ5_append_c97b9_26.2.2.2.2.2.2.1
theorem dJ5_append_c97b9_39 : decode cJ5_append_c97b9 39 = .ok (.iload_n 3, 1) := bJ5_append_c97b9_26.2.2.2.2.2.2.2.1
theorem dJ5_append_c97b9_40 : decode cJ5_append_c97b9 40 = .ok (.aload_n 0, 1) := bJ5_append_c97b9_26.2.2.2.2.2.2.2.2.1
theorem dJ5_append_c97b9_41 : decode cJ5_append_c97b9 41 = .ok (.getfield 15, 3) := bJ5_append_c97b9_26.2.2.2.2.2.2.2.2.2.1
theorem dJ5_append_c97b9_44 : decode cJ5_append_c97b9 44 = .ok (.invokestatic 251, 3) := bJ5_append_c97b9_26.2.2.2.2.2.2.2.2.2.2.1
theorem dJ5_append_c97b9_47 : decode cJ5_append_c97b9 47 = .ok (.pop, 1) := bJ5_append_c97b9_26.2.2.2.2.2.2.2.2.2.2.2.1
theorem dJ5_append_c97b9_48 : decode cJ5_append_c97b9 48 = .ok (.aload_n 0, 1) := bJ5_append_c97b9_26.2.2.2.2.2.2.2.2.2.2.2.2.1
theorem dJ5_append_c97b9_49 : decode cJ5_append_c97b9 49 = .ok (.iload_n 3, 1) := bJ5_append_c97b9_26.2.2.2.2.2.2.2.2.2.2.2.2.2.1
theorem dJ5_append_c97b9_50 : decode cJ5_append_c97b9 50 = .ok (.putfield 79, 3) := bJ5_append_c97b9_26.2.2.2.2.2.2.2.2.2.2.2.2.2.2.1
theorem dJ5_append_c97b9_53 : decode cJ5_append_c97b9 53 = .ok (.aload_n 0, 1) := bJ5_append_c97b9_26.2.2.2.2.2.2.2.2.2.2.2.2.2.2.2
theorem dJ5_append_c97b9_54 : decode cJ5_append_c97b9 54 = .ok (.areturn, 1) := by decide +kernel
set_option maxRecDepth 100000 in
theorem bJ5_getValue_6d5f1_0 : (decode cJ5_getValue_6d5f1 0 = .ok (.aload_n 0, 1)) ∧ (decode cJ5_getValue_6d5f1 1 = .ok (.getfield 15, 3)) ∧ (decode cJ5_getValue_6d5f1 4 = .ok (.areturn, 1)) := by decide +kernel
theorem dJ5_getValue_6d5f1_0 : decode cJ5_getValue_6d5f1 0 = .ok (.aload_n 0, 1) := bJ5_getValue_6d5f1_0.1
theorem dJ5_getValue_6d5f1_1 : decode cJ5_getValue_6d5f1 1 = .ok (.getfield 15, 3) := bJ5_getValue_6d5f1_0.2.1
theorem dJ5_getValue_6d5f1_4 : decode cJ5_getValue_6d5f1 4 = .ok (.areturn, 1) := bJ5_getValue_6d5f1_0.2.2
set_option maxRecDepth 100000 in
theorem bJ5_isLatin1_aae02_0 : (decode cJ5_isLatin1_aae02 0 = .ok (.getstatic 18, 3)) ∧ (decode cJ5_isLatin1_aae02 3 = .ok (.ifCond .eq 14, 3)) ∧ (decode cJ5_isLatin1_aae02 6 = .ok (.aload_n 0, 1)) ∧ (decode cJ5_isLatin1_aae02 7 = .ok (.getfield 22, 3)) ∧ (decode cJ5_isLatin1_aae02 10 = .ok (.ifCond .ne 7, 3)) ∧ (decode cJ5_isLatin1_aae02 13 = .ok (.iconst 1, 1)) ∧ (decode cJ5_isLatin1_aae02 14 = .ok (.goto 4, 3)) ∧ (decode cJ5_isLatin1_aae02 17 = .ok (.iconst 0, 1)) ∧ (decode cJ5_isLatin1_aae02 18 = .ok (.ireturn, 1)) := by decide +kernel
theorem dJ5_isLatin1_aae02_0 : decode cJ5_isLatin1_aae02 0 = .ok (.getstatic 18, 3) := bJ5_isLatin1_aae02_0.1
theorem dJ5_isLatin1_aae02_3 : decode cJ5_isLatin1_aae02 3 = .ok (.ifCond .eq 14, 3) := bJ5_isLatin1_aae02_0.2.1
theorem dJ5_isLatin1_aae02_6 : decode cJ5_isLatin1_aae02 6 = .ok (.aload_n 0, 1) := bJ5_isLatin1_aae02_0.2.2.1
theorem dJ5_isLatin1_aae02_7 : decode cJ5_isLatin1_aae02 7 = .ok (.getfield 22, 3) := bJ5_isLatin1_aae02_0.2.2.2.1
theorem dJ5_isLatin1_aae02_10 : decode cJ5_isLatin1_aae02 10 = .ok (.ifCond .ne 7, 3) := bJ5_isLatin1_aae02_0.2.2.2.2.1
theorem dJ5_isLatin1_aae02_13 : decode cJ5_isLatin1_aae02 13 = .ok (.iconst 1, 1) := bJ5_isLatin1_aae02_0.2.2.2.2.2.1
theorem dJ5_isLatin1_aae02_14 : decode cJ5_isLatin1_aae02 14 = .ok (.goto 4, 3) := bJ5_isLatin1_aae02_0.2.2.2.2.2.2.1
theorem dJ5_isLatin1_aae02_17 : decode cJ5_isLatin1_aae02 17 = .ok (.iconst 0, 1) := bJ5_isLatin1_aae02_0.2.2.2.2.2.2.2.1
theorem dJ5_isLatin1_aae02_18 : decode cJ5_isLatin1_aae02 18 = .ok (.ireturn, 1) := bJ5_isLatin1_aae02_0.2.2.2.2.2.2.2.2
set_option maxRecDepth 100000 in
theorem bJ5_inflateIfNeededFor_a7421_0 : (decode cJ5_inflateIfNeededFor_a7421 0 = .ok (.getstatic 18, 3)) ∧ (decode cJ5_inflateIfNeededFor_a7421 3 = .ok (.ifCond .eq 18, 3)) ∧ (decode cJ5_inflateIfNeededFor_a7421 6 = .ok (.aload_n 0, 1)) ∧ (decode cJ5_inflateIfNeededFor_a7421 7 = .ok (.getfield 22, 3)) ∧ (decode cJ5_inflateIfNeededFor_a7421 10 = .ok (.aload_n 1, 1)) ∧ (decode cJ5_inflateIfNeededFor_a7421 11 = .ok (.invokevirtual 40, 3)) ∧ (decode cJ5_inflateIfNeededFor_a7421 14 = .ok (.if_icmp .eq 7, 3)) ∧ (decode cJ5_inflateIfNeededFor_a7421 17 = .ok (.aload_n 0, 1)) ∧ (decode cJ5_inflateIfNeededFor_a7421 18 = .ok (.invokevirtual 195, 3)) ∧ (decode cJ5_inflateIfNeededFor_a7421 21 = .ok (.return_, 1)) := by decide +kernel
theorem dJ5_inflateIfNeededFor_a7421_0 : decode cJ5_inflateIfNeededFor_a7421 0 = .ok (.getstatic 18, 3) := bJ5_inflateIfNeededFor_a7421_0.1
theorem dJ5_inflateIfNeededFor_a7421_3 : decode cJ5_inflateIfNeededFor_a7421 3 = .ok (.ifCond .eq 18, 3) := bJ5_inflateIfNeededFor_a7421_0.2.1
theorem dJ5_inflateIfNeededFor_a7421_6 : decode cJ5_inflateIfNeededFor_a7421 6 = .ok (.aload_n 0, 1) := bJ5_inflateIfNeededFor_a7421_0.2.2.1
theorem dJ5_inflateIfNeededFor_a7421_7 : decode cJ5_inflateIfNeededFor_a7421 7 = .ok (.getfield 22, 3) := bJ5_inflateIfNeededFor_a7421_0.2.2.2.1
theorem dJ5_inflateIfNeededFor_a7421_10 : decode cJ5_inflateIfNeededFor_a7421 10 = .ok (.aload_n 1, 1) := bJ5_inflateIfNeededFor_a7421_0.2.2.2.2.1
theorem dJ5_inflateIfNeededFor_a7421_11 : decode cJ5_inflateIfNeededFor_a7421 11 = .ok (.invokevirtual 40, 3) := bJ5_inflateIfNeededFor_a7421_0.2.2.2.2.2.1
theorem dJ5_inflateIfNeededFor_a7421_14 : decode cJ5_inflateIfNeededFor_a7421 14 = .ok (.if_icmp .eq 7, 3) := bJ5_inflateIfNeededFor_a7421_0.2.2.2.2.2.2.1
theorem dJ5_inflateIfNeededFor_a7421_17 : decode cJ5_inflateIfNeededFor_a7421 17 = .ok (.aload_n 0, 1) := bJ5_inflateIfNeededFor_a7421_0.2.2.2.2.2.2.2.1
theorem dJ5_inflateIfNeededFor_a7421_18 : decode cJ5_inflateIfNeededFor_a7421 18 = .ok (.invokevirtual 195, 3) := bJ5_inflateIfNeededFor_a7421_0.2.2.2.2.2.2.2.2.1
theorem dJ5_inflateIfNeededFor_a7421_21 : decode cJ5_inflateIfNeededFor_a7421 21 = .ok (.return_, 1) := bJ5_inflateIfNeededFor_a7421_0.2.2.2.2.2.2.2.2.2
set_option maxRecDepth 100000 in
theorem bJ5_putStringAt_47b60_0 : (decode cJ5_putStringAt_47b60 0 = .ok (.aload_n 0, 1)) ∧ (decode cJ5_putStringAt_47b60 1 = .ok (.aload_n 2, 1)) ∧ (decode cJ5_putStringAt_47b60 2 = .ok (.invokevirtual 397, 3)) ∧ (decode cJ5_putStringAt_47b60 5 = .ok (.aload_n 2, 1)) ∧ (decode cJ5_putStringAt_47b60 6 = .ok (.aload_n 0, 1)) ∧ (decode cJ5_putStringAt_47b60 7 = .ok (.getfield 15, 3)) ∧ (decode cJ5_putStringAt_47b60 10 = .ok (.iload_n 1, 1)) ∧ (decode cJ5_putStringAt_47b60 11 = .ok (.aload_n 0, 1)) ∧ (decode cJ5_putStringAt_47b60 12 = .ok (.getfield 22, 3)) ∧ (decode cJ5_putStringAt_47b60 15 = .ok (.invokevirtual 399, 3)) ∧ (decode cJ5_putStringAt_47b60 18 = .ok (.return_, 1)) := by decide +kernel
theorem dJ5_putStringAt_47b60_0 : decode cJ5_putStringAt_47b60 0 = .ok (.aload_n 0, 1) := bJ5_putStringAt_47b60_0.1
theorem dJ5_putStringAt_47b60_1 : decode cJ5_putStringAt_47b60 1 = .ok (.aload_n 2, 1) := bJ5_putStringAt_47b60_0.2.1
theorem dJ5_putStringAt_47b60_2 : decode cJ5_putStringAt_47b60 2 = .ok (.invokevirtual 397, 3) := bJ5_putStringAt_47b60_0.2.2.1
theorem dJ5_putStringAt_47b60_5 : decode cJ5_putStringAt_47b60 5 = .ok (.aload_n 2, 1) := bJ5_putStringAt_47b60_0.2.2.2.1
theorem dJ5_putStringAt_47b60_6 : decode cJ5_putStringAt_47b60 6 = .ok (.aload_n 0, 1) := bJ5_putStringAt_47b60_0.2.2.2.2.1
theorem dJ5_putStringAt_47b60_7 : decode cJ5_putStringAt_47b60 7 = .ok (.getfield 15, 3) := bJ5_putStringAt_47b60_0.2.2.2.2.2.1
theorem dJ5_putStringAt_47b60_10 : decode cJ5_putStringAt_47b60 10 = .ok (.iload_n 1, 1) := bJ5_putStringAt_47b60_0.2.2.2.2.2.2.1
theorem dJ5_putStringAt_47b60_11 : decode cJ5_putStringAt_47b60 11 = .ok (.aload_n 0, 1) := bJ5_putStringAt_47b60_0.2.2.2.2.2.2.2.1
theorem dJ5_putStringAt_47b60_12 : decode cJ5_putStringAt_47b60 12 = .ok (.getfield 22, 3) := bJ5_putStringAt_47b60_0.2.2.2.2.2.2.2.2.1
theorem dJ5_putStringAt_47b60_15 : decode cJ5_putStringAt_47b60 15 = .ok (.invokevirtual 399, 3) := bJ5_putStringAt_47b60_0.2.2.2.2.2.2.2.2.2.1
theorem dJ5_putStringAt_47b60_18 : decode cJ5_putStringAt_47b60 18 = .ok (.return_, 1) := bJ5_putStringAt_47b60_0.2.2.2.2.2.2.2.2.2.2
set_option maxRecDepth 100000 in
theorem bJ6_getChars_ba4f3_0 : (decode cJ6_getChars_ba4f3 0 = .ok (.iload_n 1, 1)) ∧ (decode cJ6_getChars_ba4f3 1 = .ok (.istore 5, 2)) ∧ (decode cJ6_getChars_ba4f3 3 = .ok (.iload_n 0, 1)) ∧ (decode cJ6_getChars_ba4f3 4 = .ok (.ifCond .ge 7, 3)) ∧ (decode cJ6_getChars_ba4f3 7 = .ok (.iconst 1, 1)) ∧ (decode cJ6_getChars_ba4f3 8 = .ok (.goto 4, 3)) ∧ (decode cJ6_getChars_ba4f3 11 = .ok (.iconst 0, 1)) ∧ (decode cJ6_getChars_ba4f3 12 = .ok (.istore 6, 2)) ∧ (decode cJ6_getChars_ba4f3 14 = .ok (.iload 6, 2)) ∧ (decode cJ6_getChars_ba4f3 16 = .ok (.ifCond .ne 6, 3)) ∧ (decode cJ6_getChars_ba4f3 19 = .ok (.iload_n 0, 1)) ∧ (decode cJ6_getChars_ba4f3 20 = .ok (.ineg, 1)) ∧ (decode cJ6_getChars_ba4f3 21 = .ok (.istore_n 0, 1)) ∧ (decode cJ6_getChars_ba4f3 22 = .ok (.iload_n 0, 1)) ∧ (decode cJ6_getChars_ba4f3 23 = .ok (.bipush (-100), 2)) ∧ (decode cJ6_getChars_ba4f3 25 = .ok (.if_icmp .gt 47, 3)) := by decide +kernel
theorem dJ6_getChars_ba4f3_0 : decode cJ6_getChars_ba4f3 0 = .ok (.iload_n 1, 1) := bJ6_getChars_ba4f3_0.1
theorem dJ6_getChars_ba4f3_1 : decode cJ6_getChars_ba4f3 1 = .ok (.istore 5, 2) := bJ6_getChars_ba4f3_0.2.1
theorem dJ6_getChars_ba4f3_3 : decode cJ6_getChars_ba4f3 3 = .ok (.iload_n 0, 1) := bJ6_getChars_ba4f3_0.2.2.1
theorem dJ6_getChars_ba4f3_4 : decode cJ6_getChars_ba4f3 4 = .ok (.ifCond .ge 7, 3) := bJ6_getChars_ba4f3_0.2.2.2.1
theorem dJ6_getChars_ba4f3_7 : decode cJ6_getChars_ba4f3 7 = .ok (.iconst 1, 1) := bJ6_getChars_ba4f3_0.2.2.2.2.1
theorem dJ6_getChars_ba4f3_8 : decode cJ6_getChars_ba4f3 8 = .ok (.goto 4, 3) := bJ6_getChars_ba4f3_0.2.2.2.2.2.1
theorem dJ6_getChars_ba4f3_11 : decode cJ6_getChars_ba4f3 11 = .ok (.iconst 0, 1) := bJ6_getChars_ba4f3_0.2.2.2.2.2.2.1
theorem dJ6_getChars_ba4f3_12 : decode cJ6_getChars_ba4f3 12 = .ok (.istore 6, 2) := bJ6_getChars_ba4f3_0.2.2.2.2.2.2.2.1
theorem dJ6_getChars_ba4f3_14 : decode cJ6_getChars_ba4f3 14 = .ok (.iload 6, 2) := bJ6_getChars_ba4f3_0.2.2.2.2.2.2.2.2.1
theorem dJ6_getChars_ba4f3_16 : decode cJ6_getChars_ba4f3 16 = .ok (.ifCond .ne 6, 3) := bJ6_getChars_ba4f3_0.2.2.2.2.2.2.2.2.2.1
theorem dJ6_getChars_ba4f3_19 : decode cJ6_getChars_ba4f3 19 = .ok (.iload_n 0, 1) := bJ6_getChars_ba4f3_0.2.2.2.2.2.2.2.2.2.2.1
theorem dJ6_getChars_ba4f3_20 : decode cJ6_getChars_ba4f3 20 = .ok (.ineg, 1) := bJ6_getChars_ba4f3_0.2.2.2.2.2.2.2.2.2.2.2.1
theorem dJ6_getChars_ba4f3_21 : decode cJ6_getChars_ba4f3 21 = .ok (.istore_n 0, 1) := bJ6_getChars_ba4f3_0.2.2.2.2.2.2.2.2.2.2.2.2.1
theorem dJ6_getChars_ba4f3_22 : decode cJ6_getChars_ba4f3 22 = .ok (.iload_n 0, 1) := bJ6_getChars_ba4f3_0.2.2.2.2.2.2.2.2.2.2.2.2.2.1
theorem dJ6_getChars_ba4f3_23 : decode cJ6_getChars_ba4f3 23 = .ok (.bipush (-100), 2) := bJ6_getChars_ba4f3_0.2.2.2.2.2.2.2.2.2.2.2.2.2.2.1
theorem dJ6_getChars_ba4f3_25 : decode cJ6_getChars_ba4f3 25 = .ok (.if_icmp .gt 47, 3) := bJ6_getChars_ba4f3_0.2.2.2.2.2.2.2.2.2.2.2.2.2.2.2
set_option maxRecDepth 100000 in
theorem bJ6_getChars_ba4f3_28 : (decode cJ6_getChars_ba4f3 28 = .ok (.iload_n 0, 1)) ∧ (decode cJ6_getChars_ba4f3 29 = .ok (.bipush 100, 2)) ∧ (decode cJ6_getChars_ba4f3 31 = .ok (.idiv, 1)) ∧ (decode cJ6_getChars_ba4f3 32 = .ok (.istore_n 3, 1)) ∧ (decode cJ6_getChars_ba4f3 33 = .ok (.iload_n 3, 1)) ∧ (decode cJ6_getChars_ba4f3 34 = .ok (.bipush 100, 2)) ∧ (decode cJ6_getChars_ba4f3 36 = .ok (.imul, 1)) ∧ (decode cJ6_getChars_ba4f3 37 = .ok (.iload_n 0, 1)) ∧ (decode cJ6_getChars_ba4f3 38 = .ok (.isub, 1)) ∧ (decode cJ6_getChars_ba4f3 39 = .ok (.istore 4, 2)) ∧ (decode cJ6_getChars_ba4f3 41 = .ok (.iload_n 3, 1)) ∧ (decode cJ6_getChars_ba4f3 42 = .ok (.istore_n 0, 1)) ∧ (decode cJ6_getChars_ba4f3 43 = .ok (.aload_n 2, 1)) ∧ (decode cJ6_getChars_ba4f3 44 = .ok (.iinc 5 (-1), 3)) ∧ (decode cJ6_getChars_ba4f3 47 = .ok (.iload 5, 2)) ∧ (decode cJ6_getChars_ba4f3 49 = .ok (.getstatic 83, 3)) := by decide +kernel
theorem dJ6_getChars_ba4f3_28 : decode cJ6_getChars_ba4f3 28 = .ok (.iload_n 0, 1) := bJ6_getChars_ba4f3_28.1
theorem dJ6_getChars_ba4f3_29 : decode cJ6_getChars_ba4f3 29 = .ok (.bipush 100, 2) := bJ6_getChars_ba4f3_28.2.1
theorem dJ6_getChars_ba4f3_31 : decode cJ6_getChars_ba4f3 31 = .ok (.idiv, 1) := bJ6_getChars_ba4f3_28.2.2.1
theorem dJ6_getChars_ba4f3_32 : decode cJ6_getChars_ba4f3 32 = .ok (.istore_n 3, 1) := bJ6_getChars_ba4f3_28.2.2.2.1
theorem dJ6_getChars_ba4f3_33 : decode cJ6_getChars_ba4f3 33 = .ok (.iload_n 3, 1) := bJ6_getChars_ba4f3_28.2.2.2.2.1
theorem dJ6_getChars_ba4f3_34 : decode cJ6_getChars_ba4f3 34 = .ok (.bipush 100, 2) := bJ6_getChars_ba4f3_28.2.2.2.2.2.1
theorem dJ6_getChars_ba4f3_36 : decode cJ6_getChars_ba4f3 36 = .ok (.imul, 1) := bJ6_getChars_ba4f3_28.2.2.2.2.2.2.1
theorem dJ6_getChars_ba4f3_37 : decode cJ6_getChars_ba4f3 37 = .ok (.iload_n 0, 1) := bJ6_getChars_ba4f3_28.2.2.2.2.2.2.2.1
theorem dJ6_getChars_ba4f3_38 : decode cJ6_getChars_ba4f3 38 = .ok (.isub, 1) := bJ6_getChars_ba4f3_28.2.2.2.2.2.2.2.2.1
theorem dJ6_getChars_ba4f3_39 : decode cJ6_getChars_ba4f3 39 = .ok (.istore 4, 2) := bJ6_getChars_ba4f3_28.2.2.2.2.2.2.2.2.2.1
theorem dJ6_getChars_ba4f3_41 : decode cJ6_getChars_ba4f3 41 = .ok (.iload_n 3, 1) := bJ6_getChars_ba4f3_28.2.2.2.2.2.2.2.2.2.2.1
theorem dJ6_getChars_ba4f3_42 : decode cJ6_getChars_ba4f3 42 = .ok (.istore_n 0, 1) := bJ6_getChars_ba4f3_28.2.2.2.2.2.2.2.2.2.2.2.1
theorem dJ6_getChars_ba4f3_43 : decode cJ6_getChars_ba4f3 43 = .ok (.aload_n 2, 1) := bJ6_getChars_ba4f3_28.2.2.2.2.2.2.2.2.2.2.2.2.1
theorem dJ6_getChars_ba4f3_44 : decode cJ6_getChars_ba4f3 44 = .ok (.iinc 5 (-1), 3) := bJ6_getChars_ba4f3_28.2.2.2.2.2.2.2.2.2.2.2.2.2.1
theorem dJ6_getChars_ba4f3_47 : decode cJ6_getChars_ba4f3 47 = .ok (.iload 5, 2) := bJ6_getChars_ba4f3_28.2.2.2.2.2.2.2.2.2.2.2.2.2.2.1
theorem dJ6_getChars_ba4f3_49 : decode cJ6_getChars_ba4f3 49 = .ok (.getstatic 83, 3) := bJ6_getChars_ba4f3_28.2.2.2.2.2.2.2.2.2.2.2.2.2.2.2
set_option maxRecDepth 100000 in
theorem bJ6_getChars_ba4f3_52 : (decode cJ6_getChars_ba4f3 52 = .ok (.iload 4, 2)) ∧ (decode cJ6_getChars_ba4f3 54 = .ok (.baload, 1)) ∧ (decode cJ6_getChars_ba4f3 55 = .ok (.bastore, 1)) ∧ (decode cJ6_getChars_ba4f3 56 = .ok (.aload_n 2, 1)) ∧ (decode cJ6_getChars_ba4f3 57 = .ok (.iinc 5 (-1), 3)) ∧ (decode cJ6_getChars_ba4f3 60 = .ok (.iload 5, 2)) ∧ (decode cJ6_getChars_ba4f3 62 = .ok (.getstatic 87, 3)) ∧ (decode cJ6_getChars_ba4f3 65 = .ok (.iload 4, 2)) ∧ (decode cJ6_getChars_ba4f3 67 = .ok (.baload, 1)) ∧ (decode cJ6_getChars_ba4f3 68 = .ok (.bastore, 1)) ∧ (decode cJ6_getChars_ba4f3 69 = .ok (.goto (-47), 3)) ∧ (decode cJ6_getChars_ba4f3 72 = .ok (.aload_n 2, 1)) ∧ (decode cJ6_getChars_ba4f3 73 = .ok (.iinc 5 (-1), 3)) ∧ (decode cJ6_getChars_ba4f3 76 = .ok (.iload 5, 2)) ∧ (decode cJ6_getChars_ba4f3 78 = .ok (.getstatic 83, 3)) ∧ (decode cJ6_getChars_ba4f3 81 = .ok (.iload_n 0, 1)) := by decide +kernel
theorem dJ6_getChars_ba4f3_52 : decode cJ6_getChars_ba4f3 52 = .ok (.iload 4, 2) := bJ6_getChars_ba4f3_52.1
theorem dJ6_getChars_ba4f3_54 : decode cJ6_getChars_ba4f3 54 = .ok (.baload, 1) := bJ6_getChars_ba4f3_52.2.1
theorem dJ6_getChars_ba4f3_55 : decode cJ6_getChars_ba4f3 55 = .ok (.bastore, 1) := bJ6_getChars_ba4f3_52.2.2.1
theorem dJ6_getChars_ba4f3_56 : decode cJ6_getChars_ba4f3 56 = .ok (.aload_n 2, 1) := bJ6_getChars_ba4f3_52.2.2.2.1
theorem dJ6_getChars_ba4f3_57 : decode cJ6_getChars_ba4f3 57 = .ok (.iinc 5 (-1), 3) := bJ6_getChars_ba4f3_52.2.2.2.2.1
theorem dJ6_getChars_ba4f3_60 : decode cJ6_getChars_ba4f3 60 = .ok (.iload 5, 2) := bJ6_getChars_ba4f3_52.2.2.2.2.2.1
theorem dJ6_getChars_ba4f3_62 : decode cJ6_getChars_ba4f3 62 = .ok (.getstatic 87, 3) := bJ6_getChars_ba4f3_52.2.2.2.2.2.2.1
theorem dJ6_getChars_ba4f3_65 : decode cJ6_getChars_ba4f3 65 = .ok (.iload 4, 2) := bJ6_getChars_ba4f3_52.2.2.2.2.2.2.2.1
theorem dJ6_getChars_ba4f3_67 : decode cJ6_getChars_ba4f3 67 = .ok (.baload, 1) := bJ6_getChars_ba4f3_52.2.2.2.2.2.2.2.2.1
theorem dJ6_getChars_ba4f3_68 : decode cJ6_getChars_ba4f3 68 = .ok (.bastore, 1) := bJ6_getChars_ba4f3_52.2.2.2.2.2.2.2.2.2.1
theorem dJ6_getChars_ba4f3_69 : decode cJ6_getChars_ba4f3 69 = .ok (.goto (-47), 3) := bJ6_getChars_ba4f3_52.2.2.2.2.2.2.2.2.2.2.1
theorem dJ6_getChars_ba4f3_72 : decode cJ6_getChars_ba4f3 72 = .ok (.aload_n 2, 1) := bJ6_getChars_ba4f3_52.2.2.2.2.2.2.2.2.2.2.2.1
theorem dJ6_getChars_ba4f3_73 : decode cJ6_getChars_ba4f3 73 = .ok (.iinc 5 (-1), 3) := bJ6_getChars_ba4f3_52.2.2.2.2.2.2.2.2.2.2.2.2.1
theorem dJ6_getChars_ba4f3_76 : decode cJ6_getChars_ba4f3 76 = .ok (.iload 5, 2) := bJ6_getChars_ba4f3_52.2.2.2.2.2.2.2.2.2.2.2.2.2.1
theorem dJ6_getChars_ba4f3_78 : decode cJ6_getChars_ba4f3 78 = .ok (.getstatic 83, 3) := bJ6_getChars_ba4f3_52.2.2.2.2.2.2.2.2.2.2.2.2.2.2.1
theorem dJ6_getChars_ba4f3_81 : decode cJ6_getChars_ba4f3 81 = .ok (.iload_n 0, 1) := bJ6_getChars_ba4f3_52.2.2.2.2.2.2.2.2.2.2.2.2.2.2.2
set_option maxRecDepth 100000 in
theorem bJ6_getChars_ba4f3_82 : (decode cJ6_getChars_ba4f3 82 = .ok (.ineg, 1)) ∧ (decode cJ6_getChars_ba4f3 83 = .ok (.baload, 1)) ∧ (decode cJ6_getChars_ba4f3 84 = .ok (.bastore, 1)) ∧ (decode cJ6_getChars_ba4f3 85 = .ok (.iload_n 0, 1)) ∧ (decode cJ6_getChars_ba4f3 86 = .ok (.bipush (-9), 2)) ∧ (decode cJ6_getChars_ba4f3 88 = .ok (.if_icmp .ge 16, 3)) ∧ (decode cJ6_getChars_ba4f3 91 = .ok (.aload_n 2, 1)) ∧ (decode cJ6_getChars_ba4f3 92 = .ok (.iinc 5 (-1), 3)) ∧ (decode cJ6_getChars_ba4f3 95 = .ok (.iload 5, 2)) ∧ (decode cJ6_getChars_ba4f3 97 = .ok (.getstatic 87, 3)) ∧ (decode cJ6_getChars_ba4f3 100 = .ok (.iload_n 0, 1)) ∧ (decode cJ6_getChars_ba4f3 101 = .ok (.ineg, 1)) ∧ (decode cJ6_getChars_ba4f3 102 = .ok (.baload, 1)) ∧ (decode cJ6_getChars_ba4f3 103 = .ok (.bastore, 1)) ∧ (decode cJ6_getChars_ba4f3 104 = .ok (.iload 6, 2)) ∧ (decode cJ6_getChars_ba4f3 106 = .ok (.ifCond .eq 12, 3)) := by decide +kernel
theorem dJ6_getChars_ba4f3_82 : decode cJ6_getChars_ba4f3 82 = .ok (.ineg, 1) := bJ6_getChars_ba4f3_82.1
theorem dJ6_getChars_ba4f3_83 : decode cJ6_getChars_ba4f3 83 = .ok (.baload, 1) := bJ6_getChars_ba4f3_82.2.1
theorem dJ6_getChars_ba4f3_84 : decode cJ6_getChars_ba4f3 84 = .ok (.bastore, 1) := bJ6_getChars_ba4f3_82.2.2.1
theorem dJ6_getChars_ba4f3_85 : decode cJ6_getChars_ba4f3 85 = .ok (.iload_n 0, 1) := bJ6_getChars_ba4f3_82.2.2.2.1
theorem dJ6_getChars_ba4f3_86 : decode cJ6_getChars_ba4f3 86 = .ok (.bipush (-9), 2) := bJ6_getChars_ba4f3_82.2.2.2.2.1
theorem dJ6_getChars_ba4f3_88 : decode cJ6_getChars_ba4f3 88 = .ok (.if_icmp .ge 16, 3) := bJ6_getChars_ba4f3_82.2.2.2.2.2.1
theorem dJ6_getChars_ba4f3_91 : decode cJ6_getChars_ba4f3 91 = .ok (.aload_n 2, 1) := bJ6_getChars_ba4f3_82.2.2.2.2.2.2.1
theorem dJ6_getChars_ba4f3_92 : decode cJ6_getChars_ba4f3 92 = .ok (.iinc 5 (-1), 3) := bJ6_getChars_ba4f3_82.2.2.2.2.2.2.2.1
theorem dJ6_getChars_ba4f3_95 : decode cJ6_getChars_ba4f3 95 = .ok (.iload 5, 2) := bJ6_getChars_ba4f3_82.2.2.2.2.2.2.2.2.1
theorem dJ6_getChars_ba4f3_97 : decode cJ6_getChars_ba4f3 97 = .ok (.getstatic 87, 3) := bJ6_getChars_ba4f3_82.2.2.2.2.2.2.2.2.2.1
theorem dJ6_getChars_ba4f3_100 : decode cJ6_getChars_ba4f3 100 = .ok (.iload_n 0, 1) := bJ6_getChars_ba4f3_82.2.2.2.2.2.2.2.2.2.2.1
theorem dJ6_getChars_ba4f3_101 : decode cJ6_getChars_ba4f3 101 = .ok (.ineg, 1) := bJ6_getChars_ba4f3_82.2.2.2.2.2.2.2.2.2.2.2.1
theorem dJ6_getChars_ba4f3_102 : decode cJ6_getChars_ba4f3 102 = .ok (.baload, 1) := bJ6_getChars_ba4f3_82.2.2.2.2.2.2.2.2.2.2.2.2.1
theorem dJ6_getChars_ba4f3_103 : decode cJ6_getChars_ba4f3 103 = .ok (.bastore, 1) := bJ6_getChars_ba4f3_82.2.2.2.2.2.2.2.2.2.2.2.2.2.1
theorem dJ6_getChars_ba4f3_104 : decode cJ6_getChars_ba4f3 104 = .ok (.iload 6, 2) := bJ6_getChars_ba4f3_82.2.2.2.2.2.2.2.2.2.2.2.2.2.2.1
theorem dJ6_getChars_ba4f3_106 : decode cJ6_getChars_ba4f3 106 = .ok (.ifCond .eq 12, 3) := bJ6_getChars_ba4f3_82.2.2.2.2.2.2.2.2.2.2.2.2.2.2.2
set_option maxRecDepth 100000 in
theorem bJ6_getChars_ba4f3_109 : (decode cJ6_getChars_ba4f3 109 = .ok (.aload_n 2, 1)) ∧ (decode cJ6_getChars_ba4f3 110 = .ok (.iinc 5 (-1), 3)) ∧ (decode cJ6_getChars_ba4f3 113 = .ok (.iload 5, 2)) ∧ (decode cJ6_getChars_ba4f3 115 = .ok (.bipush 45, 2)) ∧ (decode cJ6_getChars_ba4f3 117 = .ok (.bastore, 1)) ∧ (decode cJ6_getChars_ba4f3 118 = .ok (.iload 5, 2)) ∧ (decode cJ6_getChars_ba4f3 120 = .ok (.ireturn, 1)) := by decide +kernel
theorem dJ6_getChars_ba4f3_109 : decode cJ6_getChars_ba4f3 109 = .ok (.aload_n 2, 1) := bJ6_getChars_ba4f3_109.1
theorem dJ6_getChars_ba4f3_110 : decode cJ6_getChars_ba4f3 110 = .ok (.iinc 5 (-1), 3) := bJ6_getChars_ba4f3_109.2.1
theorem dJ6_getChars_ba4f3_113 : decode cJ6_getChars_ba4f3 113 = .ok (.iload 5, 2) := bJ6_getChars_ba4f3_109.2.2.1
theorem dJ6_getChars_ba4f3_115 : decode cJ6_getChars_ba4f3 115 = .ok (.bipush 45, 2) := bJ6_getChars_ba4f3_109.2.2.2.1
theorem dJ6_getChars_ba4f3_117 : decode cJ6_getChars_ba4f3 117 = .ok (.bastore, 1) := bJ6_getChars_ba4f3_109.2.2.2.2.1
theorem dJ6_getChars_ba4f3_118 : decode cJ6_getChars_ba4f3 118 = .ok (.iload 5, 2) := bJ6_getChars_ba4f3_109.2.2.2.2.2.1
theorem dJ6_getChars_ba4f3_120 : decode cJ6_getChars_ba4f3 120 = .ok (.ireturn, 1) := bJ6_getChars_ba4f3_109.2.2.2.2.2.2
set_option maxRecDepth 100000 in
theorem bJ6_stringSize_0f7a4_0 : (decode cJ6_stringSize_0f7a4 0 = .ok (.iconst 1, 1)) ∧ (decode cJ6_stringSize_0f7a4 1 = .ok (.istore_n 1, 1)) ∧ (decode cJ6_stringSize_0f7a4 2 = .ok (.iload_n 0, 1)) ∧ (decode cJ6_stringSize_0f7a4 3 = .ok (.ifCond .lt 8, 3)) ∧ (decode cJ6_stringSize_0f7a4 6 = .ok (.iconst 0, 1)) ∧ (decode cJ6_stringSize_0f7a4 7 = .ok (.istore_n 1, 1)) ∧ (decode cJ6_stringSize_0f7a4 8 = .ok (.iload_n 0, 1)) ∧ (decode cJ6_stringSize_0f7a4 9 = .ok (.ineg, 1)) ∧ (decode cJ6_stringSize_0f7a4 10 = .ok (.istore_n 0, 1)) ∧ (decode cJ6_stringSize_0f7a4 11 = .ok (.bipush (-10), 2)) ∧ (decode cJ6_stringSize_0f7a4 13 = .ok (.istore_n 2, 1)) ∧ (decode cJ6_stringSize_0f7a4 14 = .ok (.iconst 1, 1)) ∧ (decode cJ6_stringSize_0f7a4 15 = .ok (.istore_n 3, 1)) ∧ (decode cJ6_stringSize_0f7a4 16 = .ok (.iload_n 3, 1)) ∧ (decode cJ6_stringSize_0f7a4 17 = .ok (.bipush 10, 2)) ∧ (decode cJ6_stringSize_0f7a4 19 = .ok (.if_icmp .ge 23, 3)) := by decide +kernel
theorem dJ6_stringSize_0f7a4_0 : decode cJ6_stringSize_0f7a4 0 = .ok (.iconst 1, 1) := bJ6_stringSize_0f7a4_0.1
theorem dJ6_stringSize_0f7a4_1 : decode cJ6_stringSize_0f7a4 1 = .ok (.istore_n 1, 1) := bJ6_stringSize_0f7a4_0.2.1
theorem dJ6_stringSize_0f7a4_2 : decode cJ6_stringSize_0f7a4 2 = .ok (.iload_n 0, 1) := bJ6_stringSize_0f7a4_0.2.2.1
theorem dJ6_stringSize_0f7a4_3 : decode cJ6_stringSize_0f7a4 3 = .ok (.ifCond .lt 8, 3) := bJ6_stringSize_0f7a4_0.2.2.2.1
theorem dJ6_stringSize_0f7a4_6 : decode cJ6_stringSize_0f7a4 6 = .ok (.iconst 0, 1) := bJ6_stringSize_0f7a4_0.2.2.2.2.1
theorem dJ6_stringSize_0f7a4_7 : decode cJ6_stringSize_0f7a4 7 = .ok (.istore_n 1, 1) := bJ6_stringSize_0f7a4_0.2.2.2.2.2.1
theorem dJ6_stringSize_0f7a4_8 : decode cJ6_stringSize_0f7a4 8 = .ok (.iload_n 0, 1) := bJ6_stringSize_0f7a4_0.2.2.2.2.2.2.1
theorem dJ6_stringSize_0f7a4_9 : decode cJ6_stringSize_0f7a4 9 = .ok (.ineg, 1) := bJ6_stringSize_0f7a4_0.2.2.2.2.2.2.2.1
theorem dJ6_stringSize_0f7a4_10 : decode cJ6_stringSize_0f7a4 10 = .ok (.istore_n 0, 1) := bJ6_stringSize_0f7a4_0.2.2.2.2.2.2.2.2.1
theorem dJ6_stringSize_0f7a4_11 : decode cJ6_stringSize_0f7a4 11 = .ok (.bipush (-10), 2) := bJ6_stringSize_0f7a4_0.2.2.2.2.2.2.2.2.2.1
theorem dJ6_stringSize_0f7a4_13 : decode cJ6_stringSize_0f7a4 13 = .ok (.istore_n 2, 1) := bJ6_stringSize_0f7a4_0.2.2.2.2.2.2.2.2.2.2.1
theorem dJ6_stringSize_0f7a4_14 : decode cJ6_stringSize_0f7a4 14 = .ok (.iconst 1, 1) := bJ6_stringSize_0f7a4_0.2.2.2.2.2.2.2.2.2.2.2.1
theorem dJ6_stringSize_0f7a4_15 : decode cJ6_stringSize_0f7a4 15 = .ok (.istore_n 3, 1) := bJ6_stringSize_0f7a4_0.2.2.2.2.2.2.2.2.2.2.2.2.1
theorem dJ6_stringSize_0f7a4_16 : decode cJ6_stringSize_0f7a4 16 = .ok (.iload_n 3, 1) := bJ6_stringSize_0f7a4_0.2.2.2.2.2.2.2.2.2.2.2.2.2.1
theorem dJ6_stringSize_0f7a4_17 : decode cJ6_stringSize_0f7a4 17 = .ok (.bipush 10, 2) := bJ6_stringSize_0f7a4_0.2.2.2.2.2.2.2.2.2.2.2.2.2.2.1
theorem dJ6_stringSize_0f7a4_19 : decode cJ6_stringSize_0f7a4 19 = .ok (.if_icmp .ge 23, 3) := bJ6_stringSize_0f7a4_0.2.2.2.2.2.2.2.2.2.2.2.2.2.2.2
set_option maxRecDepth 100000 in
theorem bJ6_stringSize_0f7a4_22 : (decode cJ6_stringSize_0f7a4 22 = .ok (.iload_n 0, 1)) ∧ (decode cJ6_stringSize_0f7a4 23 = .ok (.iload_n 2, 1)) ∧ (decode cJ6_stringSize_0f7a4 24 = .ok (.if_icmp .le 7, 3)) ∧ (decode cJ6_stringSize_0f7a4 27 = .ok (.iload_n 3, 1)) ∧ (decode cJ6_stringSize_0f7a4 28 = .ok (.iload_n 1, 1)) ∧ (decode cJ6_stringSize_0f7a4 29 = .ok (.iadd, 1)) ∧ (decode cJ6_stringSize_0f7a4 30 = .ok (.ireturn, 1)) ∧ (decode cJ6_stringSize_0f7a4 31 = .ok (.bipush 10, 2)) ∧ (decode cJ6_stringSize_0f7a4 33 = .ok (.iload_n 2, 1)) ∧ (decode cJ6_stringSize_0f7a4 34 = .ok (.imul, 1)) ∧ (decode cJ6_stringSize_0f7a4 35 = .ok (.istore_n 2, 1)) ∧ (decode cJ6_stringSize_0f7a4 36 = .ok (.iinc 3 1, 3)) ∧ (decode cJ6_stringSize_0f7a4 39 = .ok (.goto (-23), 3)) ∧ (decode cJ6_stringSize_0f7a4 42 = .ok (.bipush 10, 2)) ∧ (decode cJ6_stringSize_0f7a4 44 = .ok (.iload_n 1, 1)) ∧ (decode cJ6_stringSize_0f7a4 45 = .ok (.iadd, 1)) := by decide +kernel
theorem dJ6_stringSize_0f7a4_22 : decode cJ6_stringSize_0f7a4 22 = .ok (.iload_n 0, 1) := bJ6_stringSize_0f7a4_22.1
theorem dJ6_stringSize_0f7a4_23 : decode cJ6_stringSize_0f7a4 23 = .ok (.iload_n 2, 1) := bJ6_stringSize_0f7a4_22.2.1
theorem dJ6_stringSize_0f7a4_24 : decode cJ6_stringSize_0f7a4 24 = .ok (.if_icmp .le 7, 3) := bJ6_stringSize_0f7a4_22.2.2.1
theorem dJ6_stringSize_0f7a4_27 : decode cJ6_stringSize_0f7a4 27 = .ok (.iload_n 3, 1) := bJ6_stringSize_0f7a4_22.2.2.2.1
theorem dJ6_stringSize_0f7a4_28 : decode cJ6_stringSize_0f7a4 28 = .ok (.iload_n 1, 1) := bJ6_stringSize_0f7a4_22.2.2.2.2.1
theorem dJ6_stringSize_0f7a4_29 : decode cJ6_stringSize_0f7a4 29 = .ok (.iadd, 1) := bJ6_stringSize_0f7a4_22.2.2.2.2.2.1
theorem dJ6_stringSize_0f7a4_30 : decode cJ6_stringSize_0f7a4 30 = .ok (.ireturn, 1) := bJ6_stringSize_0f7a4_22.2.2.2.2.2.2.1
theorem dJ6_stringSize_0f7a4_31 : decode cJ6_stringSize_0f7a4 31 = .ok (.bipush 10, 2) := bJ6_stringSize_0f7a4_22.2.2.2.2.2.2.2.1
theorem dJ6_stringSize_0f7a4_33 : decode cJ6_stringSize_0f7a4 33 = .ok (.iload_n 2, 1) := bJ6_stringSize_0f7a4_22.2.2.2.2.2.2.2.2.1
theorem dJ6_stringSize_0f7a4_34 : decode cJ6_stringSize_0f7a4 34 = .ok (.imul, 1) := bJ6_stringSize_0f7a4_22.2.2.2.2.2.2.2.2.2.1
theorem dJ6_stringSize_0f7a4_35 : decode cJ6_stringSize_0f7a4 35 = .ok (.istore_n 2, 1) := bJ6_stringSize_0f7a4_22.2.2.2.2.2.2.2.2.2.2.1
theorem dJ6_stringSize_0f7a4_36 : decode cJ6_stringSize_0f7a4 36 = .ok (.iinc 3 1, 3) := bJ6_stringSize_0f7a4_22.2.2.2.2.2.2.2.2.2.2.2.1
theorem dJ6_stringSize_0f7a4_39 : decode cJ6_stringSize_0f7a4 39 = .ok (.goto (-23), 3) := bJ6_stringSize_0f7a4_22.2.2.2.2.2.2.2.2.2.2.2.2.1
theorem dJ6_stringSize_0f7a4_42 : decode cJ6_stringSize_0f7a4 42 = .ok (.bipush 10, 2) := bJ6_stringSize_0f7a4_22.2.2.2.2.2.2.2.2.2.2.2.2.2.1
theorem dJ6_stringSize_0f7a4_44 : decode cJ6_stringSize_0f7a4 44 = .ok (.iload_n 1, 1) := bJ6_stringSize_0f7a4_22.2.2.2.2.2.2.2.2.2.2.2.2.2.2.1
theorem dJ6_stringSize_0f7a4_45 : decode cJ6_stringSize_0f7a4 45 = .ok (.iadd, 1) := bJ6_stringSize_0f7a4_22.2.2.2.2.2.2.2.2.2.2.2.2.2.2.2
theorem dJ6_stringSize_0f7a4_46 : decode cJ6_stringSize_0f7a4 46 = .ok (.ireturn, 1) := by decide +kernel
set_option maxRecDepth 100000 in
theorem bJ0_init_81219_0 : (decode cJ0_init_81219 0 = .ok (.aload_n 0, 1)) ∧ (decode cJ0_init_81219 1 = .ok (.aload_n 1, 1)) ∧ (decode cJ0_init_81219 2 = .ok (.aconst_null, 1)) ∧ (decode cJ0_init_81219 3 = .ok (.invokespecial 489, 3)) ∧ (decode cJ0_init_81219 6 = .ok (.return_, 1)) := by decide +kernel
theorem dJ0_init_81219_0 : decode cJ0_init_81219 0 = .ok (.aload_n 0, 1) := bJ0_init_81219_0.1
theorem dJ0_init_81219_1 : decode cJ0_init_81219 1 = .ok (.aload_n 1, 1) := bJ0_init_81219_0.2.1
theorem dJ0_init_81219_2 : decode cJ0_init_81219 2 = .ok (.aconst_null, 1) := bJ0_init_81219_0.2.2.1
theorem dJ0_init_81219_3 : decode cJ0_init_81219 3 = .ok (.invokespecial 489, 3) := bJ0_init_81219_0.2.2.2.1
theorem dJ0_init_81219_6 : decode cJ0_init_81219 6 = .ok (.return_, 1) := bJ0_init_81219_0.2.2.2.2
set_option maxRecDepth 100000 in
theorem bJ0_length_8abf5_0 : (decode cJ0_length_8abf5 0 = .ok (.aload_n 0, 1)) ∧ (decode cJ0_length_8abf5 1 = .ok (.getfield 9, 3)) ∧ (decode cJ0_length_8abf5 4 = .ok (.arraylength, 1)) ∧ (decode cJ0_length_8abf5 5 = .ok (.aload_n 0, 1)) ∧ (decode cJ0_length_8abf5 6 = .ok (.invokevirtual 335, 3)) ∧ (decode cJ0_length_8abf5 9 = .ok (.ishr, 1)) ∧ (decode cJ0_length_8abf5 10 = .ok (.ireturn, 1)) := by decide +kernel
theorem dJ0_length_8abf5_0 : decode cJ0_length_8abf5 0 = .ok (.aload_n 0, 1) := bJ0_length_8abf5_0.1
theorem dJ0_length_8abf5_1 : decode cJ0_length_8abf5 1 = .ok (.getfield 9, 3) := bJ0_length_8abf5_0.2.1
theorem dJ0_length_8abf5_4 : decode cJ0_length_8abf5 4 = .ok (.arraylength, 1) := bJ0_length_8abf5_0.2.2.1
theorem dJ0_length_8abf5_5 : decode cJ0_length_8abf5 5 = .ok (.aload_n 0, 1) := bJ0_length_8abf5_0.2.2.2.1
theorem dJ0_length_8abf5_6 : decode cJ0_length_8abf5 6 = .ok (.invokevirtual 335, 3) := bJ0_length_8abf5_0.2.2.2.2.1
theorem dJ0_length_8abf5_9 : decode cJ0_length_8abf5 9 = .ok (.ishr, 1) := bJ0_length_8abf5_0.2.2.2.2.2.1
theorem dJ0_length_8abf5_10 : decode cJ0_length_8abf5 10 = .ok (.ireturn, 1) := bJ0_length_8abf5_0.2.2.2.2.2.2
set_option maxRecDepth 100000 in
theorem bJ0_getBytes_840e7_0 : (decode cJ0_getBytes_840e7 0 = .ok (.aload_n 0, 1)) ∧ (decode cJ0_getBytes_840e7 1 = .ok (.invokevirtual 335, 3)) ∧ (decode cJ0_getBytes_840e7 4 = .ok (.iload_n 3, 1)) ∧ (decode cJ0_getBytes_840e7 5 = .ok (.if_icmp .ne 23, 3)) ∧ (decode cJ0_getBytes_840e7 8 = .ok (.aload_n 0, 1)) ∧ (decode cJ0_getBytes_840e7 9 = .ok (.getfield 9, 3)) ∧ (decode cJ0_getBytes_840e7 12 = .ok (.iconst 0, 1)) ∧ (decode cJ0_getBytes_840e7 13 = .ok (.aload_n 1, 1)) ∧ (decode cJ0_getBytes_840e7 14 = .ok (.iload_n 2, 1)) ∧ (decode cJ0_getBytes_840e7 15 = .ok (.iload_n 3, 1)) ∧ (decode cJ0_getBytes_840e7 16 = .ok (.ishl, 1)) ∧ (decode cJ0_getBytes_840e7 17 = .ok (.aload_n 0, 1)) ∧ (decode cJ0_getBytes_840e7 18 = .ok (.getfield 9, 3)) ∧ (decode cJ0_getBytes_840e7 21 = .ok (.arraylength, 1)) ∧ (decode cJ0_getBytes_840e7 22 = .ok (.invokestatic 212, 3)) ∧ (decode cJ0_getBytes_840e7 25 = .ok (.goto 18, 3)) := by decide +kernel
theorem dJ0_getBytes_840e7_0 : decode cJ0_getBytes_840e7 0 = .ok (.aload_n 0, 1) := bJ0_getBytes_840e7_0.1
theorem dJ0_getBytes_840e7_1 : decode cJ0_getBytes_840e7 1 = .ok (.invokevirtual 335, 3) := bJ0_getBytes_840e7_0.2.1
theorem dJ0_getBytes_840e7_4 : decode cJ0_getBytes_840e7 4 = .ok (.iload_n 3, 1) := bJ0_getBytes_840e7_0.2.2.1
theorem dJ0_getBytes_840e7_5 : decode cJ0_getBytes_840e7 5 = .ok (.if_icmp .ne 23, 3) := bJ0_getBytes_840e7_0.2.2.2.1
theorem dJ0_getBytes_840e7_8 : decode cJ0_getBytes_840e7 8 = .ok (.aload_n 0, 1) := bJ0_getBytes_840e7_0.2.2.2.2.1
theorem dJ0_getBytes_840e7_9 : decode cJ0_getBytes_840e7 9 = .ok (.getfield 9, 3) := bJ0_getBytes_840e7_0.2.2.2.2.2.1
theorem dJ0_getBytes_840e7_12 : decode cJ0_getBytes_840e7 12 = .ok (.iconst 0, 1) := bJ0_getBytes_840e7_0.2.2.2.2.2.2.1
theorem dJ0_getBytes_840e7_13 : decode cJ0_getBytes_840e7 13 = .ok (.aload_n 1, 1) := bJ0_getBytes_840e7_0.2.2.2.2.2.2.2.1
theorem dJ0_getBytes_840e7_14 : decode cJ0_getBytes_840e7 14 = .ok (.iload_n 2, 1) := bJ0_getBytes_840e7_0.2.2.2.2.2.2.2.2.1
theorem dJ0_getBytes_840e7_15 : decode cJ0_getBytes_840e7 15 = .ok (.iload_n 3, 1) := bJ0_getBytes_840e7_0.2.2.2.2.2.2.2.2.2.1
theorem dJ0_getBytes_840e7_16 : decode cJ0_getBytes_840e7 16 = .ok (.ishl, 1) := bJ0_getBytes_840e7_0.2.2.2.2.2.2.2.2.2.2.1
theorem dJ0_getBytes_840e7_17 : decode cJ0_getBytes_840e7 17 = .ok (.aload_n 0, 1) := bJ0_getBytes_840e7_0.2.2.2.2.2.2.2.2.2.2.2.1
theorem dJ0_getBytes_840e7_18 : decode cJ0_getBytes_840e7 18 = .ok (.getfield 9, 3) := bJ0_getBytes_840e7_0.2.2.2.2.2.2.2.2.2.2.2.2.1
theorem dJ0_getBytes_840e7_21 : decode cJ0_getBytes_840e7 21 = .ok (.arraylength, 1) := bJ0_getBytes_840e7_0.2.2.2.2.2.2.2.2.2.2.2.2.2.1
theorem dJ0_getBytes_840e7_22 : decode cJ0_getBytes_840e7 22 = .ok (.invokestatic 212, 3) := bJ0_getBytes_840e7_0.2.2.2.2.2.2.2.2.2.2.2.2.2.2.1
theorem dJ0_getBytes_840e7_25 : decode cJ0_getBytes_840e7 25 = .ok (.goto 18, 3) := bJ0_getBytes_840e7_0.2.2.2.2.2.2.2.2.2.2.2.2.2.2.2
set_option maxRecDepth 100000 in
theorem bJ0_getBytes_840e7_28 : (decode cJ0_getBytes_840e7 28 = .ok (.aload_n 0, 1)) ∧ (decode cJ0_getBytes_840e7 29 = .ok (.getfield 9, 3)) ∧ (decode cJ0_getBytes_840e7 32 = .ok (.iconst 0, 1)) ∧ (decode cJ0_getBytes_840e7 33 = .ok (.aload_n 1, 1)) ∧ (decode cJ0_getBytes_840e7 34 = .ok (.iload_n 2, 1)) ∧ (decode cJ0_getBytes_840e7 35 = .ok (.aload_n 0, 1)) ∧ (decode cJ0_getBytes_840e7 36 = .ok (.getfield 9, 3)) ∧ (decode cJ0_getBytes_840e7 39 = .ok (.arraylength, 1)) ∧ (decode cJ0_getBytes_840e7 40 = .ok (.invokestatic 106, 3)) ∧ (decode cJ0_getBytes_840e7 43 = .ok (.return_, 1)) := by decide +kernel
theorem dJ0_getBytes_840e7_28 : decode cJ0_getBytes_840e7 28 = .ok (.aload_n 0, 1) := bJ0_getBytes_840e7_28.1
theorem dJ0_getBytes_840e7_29 : decode cJ0_getBytes_840e7 29 = .ok (.getfield 9, 3) := bJ0_getBytes_840e7_28.2.1
theorem dJ0_getBytes_840e7_32 : decode cJ0_getBytes_840e7 32 = .ok (.iconst 0, 1) := bJ0_getBytes_840e7_28.2.2.1
theorem dJ0_getBytes_840e7_33 : decode cJ0_getBytes_840e7 33 = .ok (.aload_n 1, 1) := bJ0_getBytes_840e7_28.2.2.2.1
theorem dJ0_getBytes_840e7_34 : decode cJ0_getBytes_840e7 34 = .ok (.iload_n 2, 1) := bJ0_getBytes_840e7_28.2.2.2.2.1
theorem dJ0_getBytes_840e7_35 : decode cJ0_getBytes_840e7 35 = .ok (.aload_n 0, 1) := bJ0_getBytes_840e7_28.2.2.2.2.2.1
theorem dJ0_getBytes_840e7_36 : decode cJ0_getBytes_840e7 36 = .ok (.getfield 9, 3) := bJ0_getBytes_840e7_28.2.2.2.2.2.2.1
theorem dJ0_getBytes_840e7_39 : decode cJ0_getBytes_840e7 39 = .ok (.arraylength, 1) := bJ0_getBytes_840e7_28.2.2.2.2.2.2.2.1
theorem dJ0_getBytes_840e7_40 : decode cJ0_getBytes_840e7 40 = .ok (.invokestatic 106, 3) := bJ0_getBytes_840e7_28.2.2.2.2.2.2.2.2.1
theorem dJ0_getBytes_840e7_43 : decode cJ0_getBytes_840e7 43 = .ok (.return_, 1) := bJ0_getBytes_840e7_28.2.2.2.2.2.2.2.2.2
set_option maxRecDepth 100000 in
theorem bJ0_init_db425_0 : (decode cJ0_init_db425 0 = .ok (.aload_n 0, 1)) ∧ (decode cJ0_init_db425 1 = .ok (.invokespecial 1, 3)) ∧ (decode cJ0_init_db425 4 = .ok (.aload_n 1, 1)) ∧ (decode cJ0_init_db425 5 = .ok (.invokevirtual 552, 3)) ∧ (decode cJ0_init_db425 8 = .ok (.astore_n 3, 1)) ∧ (decode cJ0_init_db425 9 = .ok (.aload_n 1, 1)) ∧ (decode cJ0_init_db425 10 = .ok (.invokevirtual 549, 3)) ∧ (decode cJ0_init_db425 13 = .ok (.istore 4, 2)) ∧ (decode cJ0_init_db425 15 = .ok (.aload_n 1, 1)) ∧ (decode cJ0_init_db425 16 = .ok (.invokevirtual 1047, 3)) ∧ (decode cJ0_init_db425 19 = .ok (.ifCond .eq 22, 3)) ∧ (decode cJ0_init_db425 22 = .ok (.aload_n 0, 1)) ∧ (decode cJ0_init_db425 23 = .ok (.iconst 0, 1)) ∧ (decode cJ0_init_db425 24 = .ok (.putfield 15, 3)) ∧ (decode cJ0_init_db425 27 = .ok (.aload_n 0, 1)) ∧ (decode cJ0_init_db425 28 = .ok (.aload_n 3, 1)) := by decide +kernel
theorem dJ0_init_db425_0 : decode cJ0_init_db425 0 = .ok (.aload_n 0, 1) := bJ0_init_db425_0.1
theorem dJ0_init_db425_1 : decode cJ0_init_db425 1 = .ok (.invokespecial 1, 3) := bJ0_init_db425_0.2.1
theorem dJ0_init_db425_4 : decode cJ0_init_db425 4 = .ok (.aload_n 1, 1) := bJ0_init_db425_0.2.2.1
theorem dJ0_init_db425_5 : decode cJ0_init_db425 5 = .ok (.invokevirtual 552, 3) := bJ0_init_db425_0.2.2.2.1
theorem dJ0_init_db425_8 : decode cJ0_init_db425 8 = .ok (.astore_n 3, 1) := bJ0_init_db425_0.2.2.2.2.1
theorem dJ0_init_db425_9 : decode cJ0_init_db425 9 = .ok (.aload_n 1, 1) := bJ0_init_db425_0.2.2.2.2.2.1
theorem dJ0_init_db425_10 : decode cJ0_init_db425 10 = .ok (.invokevirtual 549, 3) := bJ0_init_db425_0.2.2.2.2.2.2.1
theorem dJ0_init_db425_13 : decode cJ0_init_db425 13 = .ok (.istore 4, 2) := bJ0_init_db425_0.2.2.2.2.2.2.2.1
theorem dJ0_init_db425_15 : decode cJ0_init_db425 15 = .ok (.aload_n 1, 1) := bJ0_init_db425_0.2.2.2.2.2.2.2.2.1
theorem dJ0_init_db425_16 : decode cJ0_init_db425 16 = .ok (.invokevirtual 1047, 3) := bJ0_init_db425_0.2.2.2.2.2.2.2.2.2.1
theorem dJ0_init_db425_19 : decode cJ0_init_db425 19 = .ok (.ifCond .eq 22, 3) := bJ0_init_db425_0.2.2.2.2.2.2.2.2.2.2.1
theorem dJ0_init_db425_22 : decode cJ0_init_db425 22 = .ok (.aload_n 0, 1) := bJ0_init_db425_0.2.2.2.2.2.2.2.2.2.2.2.1
theorem dJ0_init_db425_23 : decode cJ0_init_db425 23 = .ok (.iconst 0, 1) := bJ0_init_db425_0.2.2.2.2.2.2.2.2.2.2.2.2.1
theorem dJ0_init_db425_24 : decode cJ0_init_db425 24 = .ok (.putfield 15, 3) := bJ0_init_db425_0.2.2.2.2.2.2.2.2.2.2.2.2.2.1
theorem dJ0_init_db425_27 : decode cJ0_init_db425 27 = .ok (.aload_n 0, 1) := bJ0_init_db425_0.2.2.2.2.2.2.2.2.2.2.2.2.2.2.1
theorem dJ0_init_db425_28 : decode cJ0_init_db425 28 = .ok (.aload_n 3, 1) := bJ0_init_db425_0.2.2.2.2.2.2.2.2.2.2.2.2.2.2.2
set_option maxRecDepth 100000 in
theorem bJ0_init_db425_29 : (decode cJ0_init_db425 29 = .ok (.iconst 0, 1)) ∧ (decode cJ0_init_db425 30 = .ok (.iload 4, 2)) ∧ (decode cJ0_init_db425 32 = .ok (.invokestatic 54, 3)) ∧ (decode cJ0_init_db425 35 = .ok (.putfield 9, 3)) ∧ (decode cJ0_init_db425 38 = .ok (.goto 59, 3)) ∧ (decode cJ0_init_db425 41 = .ok (.getstatic 38, 3)) ∧ (decode cJ0_init_db425 44 = .ok (.ifCond .eq 35, 3)) ∧ (decode cJ0_init_db425 47 = .ok (.aload_n 1, 1)) ∧ (decode cJ0_init_db425 48 = .ok (.getfield 1048, 3)) ∧ (decode cJ0_init_db425 51 = .ok (.ifCond .eq 28, 3)) ∧ (decode cJ0_init_db425 54 = .ok (.aload_n 0, 1)) ∧ (decode cJ0_init_db425 55 = .ok (.aload_n 3, 1)) ∧ (decode cJ0_init_db425 56 = .ok (.iconst 0, 1)) ∧ (decode cJ0_init_db425 57 = .ok (.iload 4, 2)) ∧ (decode cJ0_init_db425 59 = .ok (.invokestatic 1051, 3)) ∧ (decode cJ0_init_db425 62 = .ok (.putfield 9, 3)) := by decide +kernel
theorem dJ0_init_db425_29 : decode cJ0_init_db425 29 = .ok (.iconst 0, 1) := bJ0_init_db425_29.1
theorem dJ0_init_db425_30 : decode cJ0_init_db425 30 = .ok (.iload 4, 2) := bJ0_init_db425_29.2.1
theorem dJ0_init_db425_32 : decode cJ0_init_db425 32 = .ok (.invokestatic 54, 3) := bJ0_init_db425_29.2.2.1
theorem dJ0_init_db425_35 : decode cJ0_init_db425 35 = .ok (.putfield 9, 3) := bJ0_init_db425_29.2.2.2.1
theorem dJ0_init_db425_38 : decode cJ0_init_db425 38 = .ok (.goto 59, 3) := bJ0_init_db425_29.2.2.2.2.1
theorem dJ0_init_db425_41 : decode cJ0_init_db425 41 = .ok (.getstatic 38, 3) := bJ0_init_db425_29.2.2.2.2.2.1
theorem dJ0_init_db425_44 : decode cJ0_init_db425 44 = .ok (.ifCond .eq 35, 3) := bJ0_init_db425_29.2.2.2.2.2.2.1
theorem dJ0_init_db425_47 : decode cJ0_init_db425 47 = .ok (.aload_n 1, 1) := bJ0_init_db425_29.2.2.2.2.2.2.2.1
theorem dJ0_init_db425_48 : decode cJ0_init_db425 48 = .ok (.getfield 1048, 3) := bJ0_init_db425_29.2.2.2.2.2.2.2.2.1
theorem dJ0_init_db425_51 : decode cJ0_init_db425 51 = .ok (.ifCond .eq 28, 3) := bJ0_init_db425_29.2.2.2.2.2.2.2.2.2.1
theorem dJ0_init_db425_54 : decode cJ0_init_db425 54 = .ok (.aload_n 0, 1) := bJ0_init_db425_29.2.2.2.2.2.2.2.2.2.2.1
theorem dJ0_init_db425_55 : decode cJ0_init_db425 55 = .ok (.aload_n 3, 1) := bJ0_init_db425_29.2.2.2.2.2.2.2.2.2.2.2.1
theorem dJ0_init_db425_56 : decode cJ0_init_db425 56 = .ok (.iconst 0, 1) := bJ0_init_db425_29.2.2.2.2.2.2.2.2.2.2.2.2.1
theorem dJ0_init_db425_57 : decode cJ0_init_db425 57 = .ok (.iload 4, 2) := bJ0_init_db425_29.2.2.2.2.2.2.2.2.2.2.2.2.2.1
theorem dJ0_init_db425_59 : decode cJ0_init_db425 59 = .ok (.invokestatic 1051, 3) := bJ0_init_db425_29.2.2.2.2.2.2.2.2.2.2.2.2.2.2.1
theorem dJ0_init_db425_62 : decode cJ0_init_db425 62 = .ok (.putfield 9, 3) := bJ0_init_db425_29.2.2.2.2.2.2.2.2.2.2.2.2.2.2.2
set_option maxRecDepth 100000 in
theorem bJ0_init_db425_65 : (decode cJ0_init_db425 65 = .ok (.aload_n 0, 1)) ∧ (decode cJ0_init_db425 66 = .ok (.aload_n 0, 1)) ∧ (decode cJ0_init_db425 67 = .ok (.getfield 9, 3)) ∧ (decode cJ0_init_db425 70 = .ok (.iload 4, 2)) ∧ (decode cJ0_init_db425 72 = .ok (.invokestatic 47, 3)) ∧ (decode cJ0_init_db425 75 = .ok (.putfield 15, 3)) ∧ (decode cJ0_init_db425 78 = .ok (.return_, 1)) ∧ (decode cJ0_init_db425 79 = .ok (.aload_n 0, 1)) ∧ (decode cJ0_init_db425 80 = .ok (.iconst 1, 1)) ∧ (decode cJ0_init_db425 81 = .ok (.putfield 15, 3)) ∧ (decode cJ0_init_db425 84 = .ok (.aload_n 0, 1)) ∧ (decode cJ0_init_db425 85 = .ok (.aload_n 3, 1)) ∧ (decode cJ0_init_db425 86 = .ok (.iconst 0, 1)) ∧ (decode cJ0_init_db425 87 = .ok (.iload 4, 2)) ∧ (decode cJ0_init_db425 89 = .ok (.iconst 1, 1)) ∧ (decode cJ0_init_db425 90 = .ok (.ishl, 1)) := by decide +kernel
theorem dJ0_init_db425_65 : decode cJ0_init_db425 65 = .ok (.aload_n 0, 1) := bJ0_init_db425_65.1
theorem dJ0_init_db425_66 : decode cJ0_init_db425 66 = .ok (.aload_n 0, 1) := bJ0_init_db425_65.2.1
theorem dJ0_init_db425_67 : decode cJ0_init_db425 67 = .ok (.getfield 9, 3) := bJ0_init_db425_65.2.2.1
theorem dJ0_init_db425_70 : decode cJ0_init_db425 70 = .ok (.iload 4, 2) := bJ0_init_db425_65.2.2.2.1
theorem dJ0_init_db425_72 : decode cJ0_init_db425 72 = .ok (.invokestatic 47, 3) := bJ0_init_db425_65.2.2.2.2.1
theorem dJ0_init_db425_75 : decode cJ0_init_db425 75 = .ok (.putfield 15, 3) := bJ0_init_db425_65.2.2.2.2.2.1
theorem dJ0_init_db425_78 : decode cJ0_init_db425 78 = .ok (.return_, 1) := bJ0_init_db425_65.2.2.2.2.2.2.1
theorem dJ0_init_db425_79 : decode cJ0_init_db425 79 = .ok (.aload_n 0, 1) := bJ0_init_db425_65.2.2.2.2.2.2.2.1
theorem dJ0_init_db425_80 : decode cJ0_init_db425 80 = .ok (.iconst 1, 1) := bJ0_init_db425_65.2.2.2.2.2.2.2.2.1
theorem dJ0_init_db425_81 : decode cJ0_init_db425 81 = .ok (.putfield 15, 3) := bJ0_init_db425_65.2.2.2.2.2.2.2.2.2.1
theorem dJ0_init_db425_84 : decode cJ0_init_db425 84 = .ok (.aload_n 0, 1) := bJ0_init_db425_65.2.2.2.2.2.2.2.2.2.2.1
theorem dJ0_init_db425_85 : decode cJ0_init_db425 85 = .ok (.aload_n 3, 1) := bJ0_init_db425_65.2.2.2.2.2.2.2.2.2.2.2.1
theorem dJ0_init_db425_86 : decode cJ0_init_db425 86 = .ok (.iconst 0, 1) := bJ0_init_db425_65.2.2.2.2.2.2.2.2.2.2.2.2.1
theorem dJ0_init_db425_87 : decode cJ0_init_db425 87 = .ok (.iload 4, 2) := bJ0_init_db425_65.2.2.2.2.2.2.2.2.2.2.2.2.2.1
theorem dJ0_init_db425_89 : decode cJ0_init_db425 89 = .ok (.iconst 1, 1) := bJ0_init_db425_65.2.2.2.2.2.2.2.2.2.2.2.2.2.2.1
theorem dJ0_init_db425_90 : decode cJ0_init_db425 90 = .ok (.ishl, 1) := bJ0_init_db425_65.2.2.2.2.2.2.2.2.2.2.2.2.2.2.2
set_option maxRecDepth 100000 in
theorem bJ0_init_db425_91 : (decode cJ0_init_db425 91 = .ok (.invokestatic 54, 3)) ∧ (decode cJ0_init_db425 94 = .ok (.putfield 9, 3)) ∧ (decode cJ0_init_db425 97 = .ok (.return_, 1)) := by decide +kernel
theorem dJ0_init_db425_91 : decode cJ0_init_db425 91 = .ok (.invokestatic 54, 3) := bJ0_init_db425_91.1
theorem dJ0_init_db425_94 : decode cJ0_init_db425 94 = .ok (.putfield 9, 3) := bJ0_init_db425_91.2.1
theorem dJ0_init_db425_97 : decode cJ0_init_db425 97 = .ok (.return_, 1) := bJ0_init_db425_91.2.2
set_option maxRecDepth 100000 in
theorem bJ0_coder_7d493_0 : (decode cJ0_coder_7d493 0 = .ok (.getstatic 38, 3)) ∧ (decode cJ0_coder_7d493 3 = .ok (.ifCond .eq 10, 3)) ∧ (decode cJ0_coder_7d493 6 = .ok (.aload_n 0, 1)) ∧ (decode cJ0_coder_7d493 7 = .ok (.getfield 15, 3)) ∧ (decode cJ0_coder_7d493 10 = .ok (.goto 4, 3)) ∧ (decode cJ0_coder_7d493 13 = .ok (.iconst 1, 1)) ∧ (decode cJ0_coder_7d493 14 = .ok (.ireturn, 1)) := by decide +kernel
theorem dJ0_coder_7d493_0 : decode cJ0_coder_7d493 0 = .ok (.getstatic 38, 3) := bJ0_coder_7d493_0.1
theorem dJ0_coder_7d493_3 : decode cJ0_coder_7d493 3 = .ok (.ifCond .eq 10, 3) := bJ0_coder_7d493_0.2.1
theorem dJ0_coder_7d493_6 : decode cJ0_coder_7d493 6 = .ok (.aload_n 0, 1) := bJ0_coder_7d493_0.2.2.1
theorem dJ0_coder_7d493_7 : decode cJ0_coder_7d493 7 = .ok (.getfield 15, 3) := bJ0_coder_7d493_0.2.2.2.1
theorem dJ0_coder_7d493_10 : decode cJ0_coder_7d493 10 = .ok (.goto 4, 3) := bJ0_coder_7d493_0.2.2.2.2.1
theorem dJ0_coder_7d493_13 : decode cJ0_coder_7d493 13 = .ok (.iconst 1, 1) := bJ0_coder_7d493_0.2.2.2.2.2.1
theorem dJ0_coder_7d493_14 : decode cJ0_coder_7d493 14 = .ok (.ireturn, 1) := bJ0_coder_7d493_0.2.2.2.2.2.2
set_option maxRecDepth 100000 in
theorem bJ4_init_da8c8_0 : (decode cJ4_init_da8c8 0 = .ok (.aload_n 0, 1)) ∧ (decode cJ4_init_da8c8 1 = .ok (.bipush 16, 2)) ∧ (decode cJ4_init_da8c8 3 = .ok (.invokespecial 1, 3)) ∧ (decode cJ4_init_da8c8 6 = .ok (.return_, 1)) := by decide +kernel
theorem dJ4_init_da8c8_0 : decode cJ4_init_da8c8 0 = .ok (.aload_n 0, 1) := bJ4_init_da8c8_0.1
theorem dJ4_init_da8c8_1 : decode cJ4_init_da8c8 1 = .ok (.bipush 16, 2) := bJ4_init_da8c8_0.2.1
theorem dJ4_init_da8c8_3 : decode cJ4_init_da8c8 3 = .ok (.invokespecial 1, 3) := bJ4_init_da8c8_0.2.2.1
theorem dJ4_init_da8c8_6 : decode cJ4_init_da8c8 6 = .ok (.return_, 1) := bJ4_init_da8c8_0.2.2.2
set_option maxRecDepth 100000 in
theorem bJ4_append_15ec4_0 : (decode cJ4_append_15ec4 0 = .ok (.aload_n 0, 1)) ∧ (decode cJ4_append_15ec4 1 = .ok (.aload_n 1, 1)) ∧ (decode cJ4_append_15ec4 2 = .ok (.invokespecial 29, 3)) ∧ (decode cJ4_append_15ec4 5 = .ok (.pop, 1)) ∧ (decode cJ4_append_15ec4 6 = .ok (.aload_n 0, 1)) ∧ (decode cJ4_append_15ec4 7 = .ok (.areturn, 1)) := by decide +kernel
theorem dJ4_append_15ec4_0 : decode cJ4_append_15ec4 0 = .ok (.aload_n 0, 1) := bJ4_append_15ec4_0.1
theorem dJ4_append_15ec4_1 : decode cJ4_append_15ec4 1 = .ok (.aload_n 1, 1) := bJ4_append_15ec4_0.2.1
theorem dJ4_append_15ec4_2 : decode cJ4_append_15ec4 2 = .ok (.invokespecial 29, 3) := bJ4_append_15ec4_0.2.2.1
theorem dJ4_append_15ec4_5 : decode cJ4_append_15ec4 5 = .ok (.pop, 1) := bJ4_append_15ec4_0.2.2.2.1
theorem dJ4_append_15ec4_6 : decode cJ4_append_15ec4 6 = .ok (.aload_n 0, 1) := bJ4_append_15ec4_0.2.2.2.2.1
theorem dJ4_append_15ec4_7 : decode cJ4_append_15ec4 7 = .ok (.areturn, 1) := bJ4_append_15ec4_0.2.2.2.2.2
set_option maxRecDepth 100000 in
theorem bJ4_append_cf468_0 : (decode cJ4_append_cf468 0 = .ok (.aload_n 0, 1)) ∧ (decode cJ4_append_cf468 1 = .ok (.iload_n 1, 1)) ∧ (decode cJ4_append_cf468 2 = .ok (.invokespecial 50, 3)) ∧ (decode cJ4_append_cf468 5 = .ok (.pop, 1)) ∧ (decode cJ4_append_cf468 6 = .ok (.aload_n 0, 1)) ∧ (decode cJ4_append_cf468 7 = .ok (.areturn, 1)) := by decide +kernel
theorem dJ4_append_cf468_0 : decode cJ4_append_cf468 0 = .ok (.aload_n 0, 1) := bJ4_append_cf468_0.1
theorem dJ4_append_cf468_1 : decode cJ4_append_cf468 1 = .ok (.iload_n 1, 1) := bJ4_append_cf468_0.2.1
theorem dJ4_append_cf468_2 : decode cJ4_append_cf468 2 = .ok (.invokespecial 50, 3) := bJ4_append_cf468_0.2.2.1
theorem dJ4_append_cf468_5 : decode cJ4_append_cf468 5 = .ok (.pop, 1) := bJ4_append_cf468_0.2.2.2.1
theorem dJ4_append_cf468_6 : decode cJ4_append_cf468 6 = .ok (.aload_n 0, 1) := bJ4_append_cf468_0.2.2.2.2.1
theorem dJ4_append_cf468_7 : decode cJ4_append_cf468 7 = .ok (.areturn, 1) := bJ4_append_cf468_0.2.2.2.2.2
set_option maxRecDepth 100000 in
theorem bJ4_append_bf812_0 : (decode cJ4_append_bf812 0 = .ok (.aload_n 0, 1)) ∧ (decode cJ4_append_bf812 1 = .ok (.iload_n 1, 1)) ∧ (decode cJ4_append_bf812 2 = .ok (.invokespecial 53, 3)) ∧ (decode cJ4_append_bf812 5 = .ok (.pop, 1)) ∧ (decode cJ4_append_bf812 6 = .ok (.aload_n 0, 1)) ∧ (decode cJ4_append_bf812 7 = .ok (.areturn, 1)) := by decide +kernel
theorem dJ4_append_bf812_0 : decode cJ4_append_bf812 0 = .ok (.aload_n 0, 1) := bJ4_append_bf812_0.1
theorem dJ4_append_bf812_1 : decode cJ4_append_bf812 1 = .ok (.iload_n 1, 1) := bJ4_append_bf812_0.2.1
theorem dJ4_append_bf812_2 : decode cJ4_append_bf812 2 = .ok (.invokespecial 53, 3) := bJ4_append_bf812_0.2.2.1
theorem dJ4_append_bf812_5 : decode cJ4_append_bf812 5 = .ok (.pop, 1) := bJ4_append_bf812_0.2.2.2.1
theorem dJ4_append_bf812_6 : decode cJ4_append_bf812 6 = .ok (.aload_n 0, 1) := bJ4_append_bf812_0.2.2.2.2.1
theorem dJ4_append_bf812_7 : decode cJ4_append_bf812 7 = .ok (.areturn, 1) := bJ4_append_bf812_0.2.2.2.2.2
set_option maxRecDepth 100000 in
theorem bJ4_toString_0e30d_0 : (decode cJ4_toString_0e30d 0 = .ok (.new 18, 3)) ∧ (decode cJ4_toString_0e30d 3 = .ok (.dup, 1)) ∧ (decode cJ4_toString_0e30d 4 = .ok (.aload_n 0, 1)) ∧ (decode cJ4_toString_0e30d 5 = .ok (.invokespecial 137, 3)) ∧ (decode cJ4_toString_0e30d 8 = .ok (.areturn, 1)) := by decide +kernel
theorem dJ4_toString_0e30d_0 : decode cJ4_toString_0e30d 0 = .ok (.new 18, 3) := bJ4_toString_0e30d_0.1
theorem dJ4_toString_0e30d_3 : decode cJ4_toString_0e30d 3 = .ok (.dup, 1) := bJ4_toString_0e30d_0.2.1
theorem dJ4_toString_0e30d_4 : decode cJ4_toString_0e30d 4 = .ok (.aload_n 0, 1) := bJ4_toString_0e30d_0.2.2.1
theorem dJ4_toString_0e30d_5 : decode cJ4_toString_0e30d 5 = .ok (.invokespecial 137, 3) := bJ4_toString_0e30d_0.2.2.2.1
theorem dJ4_toString_0e30d_8 : decode cJ4_toString_0e30d 8 = .ok (.areturn, 1) := bJ4_toString_0e30d_0.2.2.2.2
set_option maxRecDepth 100000 in
theorem bJ4_length_8abf5_0 : (decode cJ4_length_8abf5 0 = .ok (.aload_n 0, 1)) ∧ (decode cJ4_length_8abf5 1 = .ok (.invokespecial 343, 3)) ∧ (decode cJ4_length_8abf5 4 = .ok (.ireturn, 1)) := by decide +kernel
theorem dJ4_length_8abf5_0 : decode cJ4_length_8abf5 0 = .ok (.aload_n 0, 1) := bJ4_length_8abf5_0.1
theorem dJ4_length_8abf5_1 : decode cJ4_length_8abf5 1 = .ok (.invokespecial 343, 3) := bJ4_length_8abf5_0.2.1
theorem dJ4_length_8abf5_4 : decode cJ4_length_8abf5 4 = .ok (.ireturn, 1) := bJ4_length_8abf5_0.2.2
set_option maxRecDepth 100000 in
theorem bJ1_canEncode_fc78d_0 : (decode cJ1_canEncode_fc78d 0 = .ok (.iload_n 0, 1)) ∧ (decode cJ1_canEncode_fc78d 1 = .ok (.sipush 255, 3)) ∧ (decode cJ1_canEncode_fc78d 4 = .ok (.if_icmp .gt 7, 3)) ∧ (decode cJ1_canEncode_fc78d 7 = .ok (.iconst 1, 1)) ∧ (decode cJ1_canEncode_fc78d 8 = .ok (.goto 4, 3)) ∧ (decode cJ1_canEncode_fc78d 11 = .ok (.iconst 0, 1)) ∧ (decode cJ1_canEncode_fc78d 12 = .ok (.ireturn, 1)) := by decide +kernel
theorem dJ1_canEncode_fc78d_0 : decode cJ1_canEncode_fc78d 0 = .ok (.iload_n 0, 1) := bJ1_canEncode_fc78d_0.1
theorem dJ1_canEncode_fc78d_1 : decode cJ1_canEncode_fc78d 1 = .ok (.sipush 255, 3) := bJ1_canEncode_fc78d_0.2.1
theorem dJ1_canEncode_fc78d_4 : decode cJ1_canEncode_fc78d 4 = .ok (.if_icmp .gt 7, 3) := bJ1_canEncode_fc78d_0.2.2.1
theorem dJ1_canEncode_fc78d_7 : decode cJ1_canEncode_fc78d 7 = .ok (.iconst 1, 1) := bJ1_canEncode_fc78d_0.2.2.2.1
theorem dJ1_canEncode_fc78d_8 : decode cJ1_canEncode_fc78d 8 = .ok (.goto 4, 3) := bJ1_canEncode_fc78d_0.2.2.2.2.1
theorem dJ1_canEncode_fc78d_11 : decode cJ1_canEncode_fc78d 11 = .ok (.iconst 0, 1) := bJ1_canEncode_fc78d_0.2.2.2.2.2.1
theorem dJ1_canEncode_fc78d_12 : decode cJ1_canEncode_fc78d 12 = .ok (.ireturn, 1) := bJ1_canEncode_fc78d_0.2.2.2.2.2.2
set_option maxRecDepth 100000 in
theorem bJ7_copyOf_9075b_0 : (decode cJ7_copyOf_9075b 0 = .ok (.iload_n 1, 1)) ∧ (decode cJ7_copyOf_9075b 1 = .ok (.aload_n 0, 1)) ∧ (decode cJ7_copyOf_9075b 2 = .ok (.arraylength, 1)) ∧ (decode cJ7_copyOf_9075b 3 = .ok (.if_icmp .ne 11, 3)) ∧ (decode cJ7_copyOf_9075b 6 = .ok (.aload_n 0, 1)) ∧ (decode cJ7_copyOf_9075b 7 = .ok (.invokevirtual 310, 3)) ∧ (decode cJ7_copyOf_9075b 10 = .ok (.checkcast 311, 3)) ∧ (decode cJ7_copyOf_9075b 13 = .ok (.areturn, 1)) ∧ (decode cJ7_copyOf_9075b 14 = .ok (.iload_n 1, 1)) ∧ (decode cJ7_copyOf_9075b 15 = .ok (.newarray .byte, 2)) ∧ (decode cJ7_copyOf_9075b 17 = .ok (.astore_n 2, 1)) ∧ (decode cJ7_copyOf_9075b 18 = .ok (.aload_n 0, 1)) ∧ (decode cJ7_copyOf_9075b 19 = .ok (.iconst 0, 1)) ∧ (decode cJ7_copyOf_9075b 20 = .ok (.aload_n 2, 1)) ∧ (decode cJ7_copyOf_9075b 21 = .ok (.iconst 0, 1)) ∧ (decode cJ7_copyOf_9075b 22 = .ok (.aload_n 0, 1)) := by decide +kernel
theorem dJ7_copyOf_9075b_0 : decode cJ7_copyOf_9075b 0 = .ok (.iload_n 1, 1) := bJ7_copyOf_9075b_0.1
theorem dJ7_copyOf_9075b_1 : decode cJ7_copyOf_9075b 1 = .ok (.aload_n 0, 1) := bJ7_copyOf_9075b_0.2.1
theorem dJ7_copyOf_9075b_2 : decode cJ7_copyOf_9075b 2 = .ok (.arraylength, 1) := bJ7_copyOf_9075b_0.2.2.1
theorem dJ7_copyOf_9075b_3 : decode cJ7_copyOf_9075b 3 = .ok (.if_icmp .ne 11, 3) := bJ7_copyOf_9075b_0.2.2.2.1
theorem dJ7_copyOf_9075b_6 : decode cJ7_copyOf_9075b 6 = .ok (.aload_n 0, 1) := bJ7_copyOf_9075b_0.2.2.2.2.1
theorem dJ7_copyOf_9075b_7 : decode cJ7_copyOf_9075b 7 = .ok (.invokevirtual 310, 3) := bJ7_copyOf_9075b_0.2.2.2.2.2.1
theorem dJ7_copyOf_9075b_10 : decode cJ7_copyOf_9075b 10 = .ok (.checkcast 311, 3) := bJ7_copyOf_9075b_0.2.2.2.2.2.2.1
theorem dJ7_copyOf_9075b_13 : decode cJ7_copyOf_9075b 13 = .ok (.areturn, 1) := bJ7_copyOf_9075b_0.2.2.2.2.2.2.2.1
theorem dJ7_copyOf_9075b_14 : decode cJ7_copyOf_9075b 14 = .ok (.iload_n 1, 1) := bJ7_copyOf_9075b_0.2.2.2.2.2.2.2.2.1
theorem dJ7_copyOf_9075b_15 : decode cJ7_copyOf_9075b 15 = .ok (.newarray .byte, 2) := bJ7_copyOf_9075b_0.2.2.2.2.2.2.2.2.2.1
theorem dJ7_copyOf_9075b_17 : decode cJ7_copyOf_9075b 17 = .ok (.astore_n 2, 1) := bJ7_copyOf_9075b_0.2.2.2.2.2.2.2.2.2.2.1
theorem dJ7_copyOf_9075b_18 : decode cJ7_copyOf_9075b 18 = .ok (.aload_n 0, 1) := bJ7_copyOf_9075b_0.2.2.2.2.2.2.2.2.2.2.2.1
theorem dJ7_copyOf_9075b_19 : decode cJ7_copyOf_9075b 19 = .ok (.iconst 0, 1) := bJ7_copyOf_9075b_0.2.2.2.2.2.2.2.2.2.2.2.2.1
theorem dJ7_copyOf_9075b_20 : decode cJ7_copyOf_9075b 20 = .ok (.aload_n 2, 1) := bJ7_copyOf_9075b_0.2.2.2.2.2.2.2.2.2.2.2.2.2.1
theorem dJ7_copyOf_9075b_21 : decode cJ7_copyOf_9075b 21 = .ok (.iconst 0, 1) := bJ7_copyOf_9075b_0.2.2.2.2.2.2.2.2.2.2.2.2.2.2.1
theorem dJ7_copyOf_9075b_22 : decode cJ7_copyOf_9075b 22 = .ok (.aload_n 0, 1) := bJ7_copyOf_9075b_0.2.2.2.2.2.2.2.2.2.2.2.2.2.2.2
set_option maxRecDepth 100000 in
theorem bJ7_copyOf_9075b_23 : (decode cJ7_copyOf_9075b 23 = .ok (.arraylength, 1)) ∧ (decode cJ7_copyOf_9075b 24 = .ok (.iload_n 1, 1)) ∧ (decode cJ7_copyOf_9075b 25 = .ok (.invokestatic 304, 3)) ∧ (decode cJ7_copyOf_9075b 28 = .ok (.invokestatic 150, 3)) ∧ (decode cJ7_copyOf_9075b 31 = .ok (.aload_n 2, 1)) ∧ (decode cJ7_copyOf_9075b 32 = .ok (.areturn, 1)) := by decide +kernel
theorem dJ7_copyOf_9075b_23 : decode cJ7_copyOf_9075b 23 = .ok (.arraylength, 1) := bJ7_copyOf_9075b_23.1
theorem dJ7_copyOf_9075b_24 : decode cJ7_copyOf_9075b 24 = .ok (.iload_n 1, 1) := bJ7_copyOf_9075b_23.2.1
theorem dJ7_copyOf_9075b_25 : decode cJ7_copyOf_9075b 25 = .ok (.invokestatic 304, 3) := bJ7_copyOf_9075b_23.2.2.1
theorem dJ7_copyOf_9075b_28 : decode cJ7_copyOf_9075b 28 = .ok (.invokestatic 150, 3) := bJ7_copyOf_9075b_23.2.2.2.1
theorem dJ7_copyOf_9075b_31 : decode cJ7_copyOf_9075b 31 = .ok (.aload_n 2, 1) := bJ7_copyOf_9075b_23.2.2.2.2.1
theorem dJ7_copyOf_9075b_32 : decode cJ7_copyOf_9075b 32 = .ok (.areturn, 1) := bJ7_copyOf_9075b_23.2.2.2.2.2
set_option maxRecDepth 100000 in
theorem bJ7_checkLength_df160_0 : (decode cJ7_checkLength_df160 0 = .ok (.iload_n 1, 1)) ∧ (decode cJ7_checkLength_df160 1 = .ok (.iload_n 0, 1)) ∧ (decode cJ7_checkLength_df160 2 = .ok (.if_icmp .ge 35, 3)) ∧ (decode cJ7_checkLength_df160 5 = .ok (.new 43, 3)) ∧ (decode cJ7_checkLength_df160 8 = .ok (.dup, 1)) ∧ (decode cJ7_checkLength_df160 9 = .ok (.new 45, 3)) ∧ (decode cJ7_checkLength_df160 12 = .ok (.dup, 1)) ∧ (decode cJ7_checkLength_df160 13 = .ok (.invokespecial 47, 3)) ∧ (decode cJ7_checkLength_df160 16 = .ok (.iload_n 0, 1)) ∧ (decode cJ7_checkLength_df160 17 = .ok (.invokevirtual 54, 3)) ∧ (decode cJ7_checkLength_df160 20 = .ok (.ldc_w 337, 3)) ∧ (decode cJ7_checkLength_df160 23 = .ok (.invokevirtual 50, 3)) ∧ (decode cJ7_checkLength_df160 26 = .ok (.iload_n 1, 1)) ∧ (decode cJ7_checkLength_df160 27 = .ok (.invokevirtual 54, 3)) ∧ (decode cJ7_checkLength_df160 30 = .ok (.invokevirtual 61, 3)) ∧ (decode cJ7_checkLength_df160 33 = .ok (.invokespecial 65, 3)) := by decide +kernel
theorem dJ7_checkLength_df160_0 : decode cJ7_checkLength_df160 0 = .ok (.iload_n 1, 1) := bJ7_checkLength_df160_0.1
theorem dJ7_checkLength_df160_1 : decode cJ7_checkLength_df160 1 = .ok (.iload_n 0, 1) := bJ7_checkLength_df160_0.2.1
theorem dJ7_checkLength_df160_2 : decode cJ7_checkLength_df160 2 = .ok (.if_icmp .ge 35, 3) := bJ7_checkLength_df160_0.2.2.1
theorem dJ7_checkLength_df160_5 : decode cJ7_checkLength_df160 5 = .ok (.new 43, 3) := bJ7_checkLength_df160_0.2.2.2.1
theorem dJ7_checkLength_df160_8 : decode cJ7_checkLength_df160 8 = .ok (.dup, 1) := bJ7_checkLength_df160_0.2.2.2.2.1
theorem dJ7_checkLength_df160_9 : decode cJ7_checkLength_df160 9 = .ok (.new 45, 3) := bJ7_checkLength_df160_0.2.2.2.2.2.1
theorem dJ7_checkLength_df160_12 : decode cJ7_checkLength_df160 12 = .ok (.dup, 1) := bJ7_checkLength_df160_0.2.2.2.2.2.2.1
theorem dJ7_checkLength_df160_13 : decode cJ7_checkLength_df160 13 = .ok (.invokespecial 47, 3) := bJ7_checkLength_df160_0.2.2.2.2.2.2.2.1
theorem dJ7_checkLength_df160_16 : decode cJ7_checkLength_df160 16 = .ok (.iload_n 0, 1) := bJ7_checkLength_df160_0.2.2.2.2.2.2.2.2.1
theorem dJ7_checkLength_df160_17 : decode cJ7_checkLength_df160 17 = .ok (.invokevirtual 54, 3) := bJ7_checkLength_df160_0.2.2.2.2.2.2.2.2.2.1
theorem dJ7_checkLength_df160_20 : decode cJ7_checkLength_df160 20 = .ok (.ldc_w 337, 3) := bJ7_checkLength_df160_0.2.2.2.2.2.2.2.2.2.2.1
theorem dJ7_checkLength_df160_23 : decode cJ7_checkLength_df160 23 = .ok (.invokevirtual 50, 3) := bJ7_checkLength_df160_0.2.2.2.2.2.2.2.2.2.2.2.1
theorem dJ7_checkLength_df160_26 : decode cJ7_checkLength_df160 26 = .ok (.iload_n 1, 1) := bJ7_checkLength_df160_0.2.2.2.2.2.2.2.2.2.2.2.2.1
theorem dJ7_checkLength_df160_27 : decode cJ7_checkLength_df160 27 = .ok (.invokevirtual 54, 3) := bJ7_checkLength_df160_0.2.2.2.2.2.2.2.2.2.2.2.2.2.1
theorem dJ7_checkLength_df160_30 : decode cJ7_checkLength_df160 30 = .ok (.invokevirtual 61, 3) := bJ7_checkLength_df160_0.2.2.2.2.2.2.2.2.2.2.2.2.2.2.1
theorem dJ7_checkLength_df160_33 : decode cJ7_checkLength_df160 33 = .ok (.invokespecial 65, 3) := bJ7_checkLength_df160_0.2.2.2.2.2.2.2.2.2.2.2.2.2.2.2
set_option maxRecDepth 100000 in
theorem bJ7_checkLength_df160_36 : (decode cJ7_checkLength_df160 36 = .ok (.athrow, 1)) ∧ (decode cJ7_checkLength_df160 37 = .ok (.return_, 1)) := by decide +kernel
theorem dJ7_checkLength_df160_36 : decode cJ7_checkLength_df160 36 = .ok (.athrow, 1) := bJ7_checkLength_df160_36.1
theorem dJ7_checkLength_df160_37 : decode cJ7_checkLength_df160 37 = .ok (.return_, 1) := bJ7_checkLength_df160_36.2
set_option maxRecDepth 100000 in
theorem bJ7_copyOfRange_39247_0 : (decode cJ7_copyOfRange_39247 0 = .ok (.iload_n 1, 1)) ∧ (decode cJ7_copyOfRange_39247 1 = .ok (.ifCond .ne 9, 3)) ∧ (decode cJ7_copyOfRange_39247 4 = .ok (.iload_n 2, 1)) ∧ (decode cJ7_copyOfRange_39247 5 = .ok (.aload_n 0, 1)) ∧ (decode cJ7_copyOfRange_39247 6 = .ok (.arraylength, 1)) ∧ (decode cJ7_copyOfRange_39247 7 = .ok (.if_icmp .eq 10, 3)) ∧ (decode cJ7_copyOfRange_39247 10 = .ok (.aload_n 0, 1)) ∧ (decode cJ7_copyOfRange_39247 11 = .ok (.iload_n 1, 1)) ∧ (decode cJ7_copyOfRange_39247 12 = .ok (.iload_n 2, 1)) ∧ (decode cJ7_copyOfRange_39247 13 = .ok (.invokestatic 339, 3)) ∧ (decode cJ7_copyOfRange_39247 16 = .ok (.areturn, 1)) ∧ (decode cJ7_copyOfRange_39247 17 = .ok (.aload_n 0, 1)) ∧ (decode cJ7_copyOfRange_39247 18 = .ok (.invokevirtual 310, 3)) ∧ (decode cJ7_copyOfRange_39247 21 = .ok (.checkcast 311, 3)) ∧ (decode cJ7_copyOfRange_39247 24 = .ok (.areturn, 1)) := by decide +kernel
theorem dJ7_copyOfRange_39247_0 : decode cJ7_copyOfRange_39247 0 = .ok (.iload_n 1, 1) := bJ7_copyOfRange_39247_0.1
theorem dJ7_copyOfRange_39247_1 : decode cJ7_copyOfRange_39247 1 = .ok (.ifCond .ne 9, 3) := bJ7_copyOfRange_39247_0.2.1
theorem dJ7_copyOfRange_39247_4 : decode cJ7_copyOfRange_39247 4 = .ok (.iload_n 2, 1) := bJ7_copyOfRange_39247_0.2.2.1
theorem dJ7_copyOfRange_39247_5 : decode cJ7_copyOfRange_39247 5 = .ok (.aload_n 0, 1) := bJ7_copyOfRange_39247_0.2.2.2.1
theorem dJ7_copyOfRange_39247_6 : decode cJ7_copyOfRange_39247 6 = .ok (.arraylength, 1) := bJ7_copyOfRange_39247_0.2.2.2.2.1
theorem dJ7_copyOfRange_39247_7 : decode cJ7_copyOfRange_39247 7 = .ok (.if_icmp .eq 10, 3) := bJ7_copyOfRange_39247_0.2.2.2.2.2.1
theorem dJ7_copyOfRange_39247_10 : decode cJ7_copyOfRange_39247 10 = .ok (.aload_n 0, 1) := bJ7_copyOfRange_39247_0.2.2.2.2.2.2.1
theorem dJ7_copyOfRange_39247_11 : decode cJ7_copyOfRange_39247 11 = .ok (.iload_n 1, 1) := bJ7_copyOfRange_39247_0.2.2.2.2.2.2.2.1
theorem dJ7_copyOfRange_39247_12 : decode cJ7_copyOfRange_39247 12 = .ok (.iload_n 2, 1) := bJ7_copyOfRange_39247_0.2.2.2.2.2.2.2.2.1
theorem dJ7_copyOfRange_39247_13 : decode cJ7_copyOfRange_39247 13 = .ok (.invokestatic 339, 3) := bJ7_copyOfRange_39247_0.2.2.2.2.2.2.2.2.2.1
theorem dJ7_copyOfRange_39247_16 : decode cJ7_copyOfRange_39247 16 = .ok (.areturn, 1) := bJ7_copyOfRange_39247_0.2.2.2.2.2.2.2.2.2.2.1
theorem dJ7_copyOfRange_39247_17 : decode cJ7_copyOfRange_39247 17 = .ok (.aload_n 0, 1) := bJ7_copyOfRange_39247_0.2.2.2.2.2.2.2.2.2.2.2.1
theorem dJ7_copyOfRange_39247_18 : decode cJ7_copyOfRange_39247 18 = .ok (.invokevirtual 310, 3) := bJ7_copyOfRange_39247_0.2.2.2.2.2.2.2.2.2.2.2.2.1
theorem dJ7_copyOfRange_39247_21 : decode cJ7_copyOfRange_39247 21 = .ok (.checkcast 311, 3) := bJ7_copyOfRange_39247_0.2.2.2.2.2.2.2.2.2.2.2.2.2.1
theorem dJ7_copyOfRange_39247_24 : decode cJ7_copyOfRange_39247 24 = .ok (.areturn, 1) := bJ7_copyOfRange_39247_0.2.2.2.2.2.2.2.2.2.2.2.2.2.2
set_option maxRecDepth 100000 in
theorem bJ7_copyOfRangeByte_39247_0 : (decode cJ7_copyOfRangeByte_39247 0 = .ok (.iload_n 1, 1)) ∧ (decode cJ7_copyOfRangeByte_39247 1 = .ok (.iload_n 2, 1)) ∧ (decode cJ7_copyOfRangeByte_39247 2 = .ok (.invokestatic 343, 3)) ∧ (decode cJ7_copyOfRangeByte_39247 5 = .ok (.iload_n 2, 1)) ∧ (decode cJ7_copyOfRangeByte_39247 6 = .ok (.iload_n 1, 1)) ∧ (decode cJ7_copyOfRangeByte_39247 7 = .ok (.isub, 1)) ∧ (decode cJ7_copyOfRangeByte_39247 8 = .ok (.istore_n 3, 1)) ∧ (decode cJ7_copyOfRangeByte_39247 9 = .ok (.iload_n 3, 1)) ∧ (decode cJ7_copyOfRangeByte_39247 10 = .ok (.newarray .byte, 2)) ∧ (decode cJ7_copyOfRangeByte_39247 12 = .ok (.astore 4, 2)) ∧ (decode cJ7_copyOfRangeByte_39247 14 = .ok (.aload_n 0, 1)) ∧ (decode cJ7_copyOfRangeByte_39247 15 = .ok (.iload_n 1, 1)) ∧ (decode cJ7_copyOfRangeByte_39247 16 = .ok (.aload 4, 2)) ∧ (decode cJ7_copyOfRangeByte_39247 18 = .ok (.iconst 0, 1)) ∧ (decode cJ7_copyOfRangeByte_39247 19 = .ok (.aload_n 0, 1)) ∧ (decode cJ7_copyOfRangeByte_39247 20 = .ok (.arraylength, 1)) := by decide +kernel
theorem dJ7_copyOfRangeByte_39247_0 : decode cJ7_copyOfRangeByte_39247 0 = .ok (.iload_n 1, 1) := bJ7_copyOfRangeByte_39247_0.1
theorem dJ7_copyOfRangeByte_39247_1 : decode cJ7_copyOfRangeByte_39247 1 = .ok (.iload_n 2, 1) := bJ7_copyOfRangeByte_39247_0.2.1
theorem dJ7_copyOfRangeByte_39247_2 : decode cJ7_copyOfRangeByte_39247 2 = .ok (.invokestatic 343, 3) := bJ7_copyOfRangeByte_39247_0.2.2.1
theorem dJ7_copyOfRangeByte_39247_5 : decode cJ7_copyOfRangeByte_39247 5 = .ok (.iload_n 2, 1) := bJ7_copyOfRangeByte_39247_0.2.2.2.1
theorem dJ7_copyOfRangeByte_39247_6 : decode cJ7_copyOfRangeByte_39247 6 = .ok (.iload_n 1, 1) := bJ7_copyOfRangeByte_39247_0.2.2.2.2.1
theorem dJ7_copyOfRangeByte_39247_7 : decode cJ7_copyOfRangeByte_39247 7 = .ok (.isub, 1) := bJ7_copyOfRangeByte_39247_0.2.2.2.2.2.1
theorem dJ7_copyOfRangeByte_39247_8 : decode cJ7_copyOfRangeByte_39247 8 = .ok (.istore_n 3, 1) := bJ7_copyOfRangeByte_39247_0.2.2.2.2.2.2.1
theorem dJ7_copyOfRangeByte_39247_9 : decode cJ7_copyOfRangeByte_39247 9 = .ok (.iload_n 3, 1) := bJ7_copyOfRangeByte_39247_0.2.2.2.2.2.2.2.1
theorem dJ7_copyOfRangeByte_39247_10 : decode cJ7_copyOfRangeByte_39247 10 = .ok (.newarray .byte, 2) := bJ7_copyOfRangeByte_39247_0.2.2.2.2.2.2.2.2.1
theorem dJ7_copyOfRangeByte_39247_12 : decode cJ7_copyOfRangeByte_39247 12 = .ok (.astore 4, 2) := bJ7_copyOfRangeByte_39247_0.2.2.2.2.2.2.2.2.2.1
theorem dJ7_copyOfRangeByte_39247_14 : decode cJ7_copyOfRangeByte_39247 14 = .ok (.aload_n 0, 1) := bJ7_copyOfRangeByte_39247_0.2.2.2.2.2.2.2.2.2.2.1
theorem dJ7_copyOfRangeByte_39247_15 : decode cJ7_copyOfRangeByte_39247 15 = .ok (.iload_n 1, 1) := bJ7_copyOfRangeByte_39247_0.2.2.2.2.2.2.2.2.2.2.2.1
theorem dJ7_copyOfRangeByte_39247_16 : decode cJ7_copyOfRangeByte_39247 16 = .ok (.aload 4, 2) := bJ7_copyOfRangeByte_39247_0.2.2.2.2.2.2.2.2.2.2.2.2.1
theorem dJ7_copyOfRangeByte_39247_18 : decode cJ7_copyOfRangeByte_39247 18 = .ok (.iconst 0, 1) := bJ7_copyOfRangeByte_39247_0.2.2.2.2.2.2.2.2.2.2.2.2.2.1
theorem dJ7_copyOfRangeByte_39247_19 : decode cJ7_copyOfRangeByte_39247 19 = .ok (.aload_n 0, 1) := bJ7_copyOfRangeByte_39247_0.2.2.2.2.2.2.2.2.2.2.2.2.2.2.1
theorem dJ7_copyOfRangeByte_39247_20 : decode cJ7_copyOfRangeByte_39247 20 = .ok (.arraylength, 1) := bJ7_copyOfRangeByte_39247_0.2.2.2.2.2.2.2.2.2.2.2.2.2.2.2
set_option maxRecDepth 100000 in
theorem bJ7_copyOfRangeByte_39247_21 : (decode cJ7_copyOfRangeByte_39247 21 = .ok (.iload_n 1, 1)) ∧ (decode cJ7_copyOfRangeByte_39247 22 = .ok (.isub, 1)) ∧ (decode cJ7_copyOfRangeByte_39247 23 = .ok (.iload_n 3, 1)) ∧ (decode cJ7_copyOfRangeByte_39247 24 = .ok (.invokestatic 304, 3)) ∧ (decode cJ7_copyOfRangeByte_39247 27 = .ok (.invokestatic 150, 3)) ∧ (decode cJ7_copyOfRangeByte_39247 30 = .ok (.aload 4, 2)) ∧ (decode cJ7_copyOfRangeByte_39247 32 = .ok (.areturn, 1)) := by decide +kernel
theorem dJ7_copyOfRangeByte_39247_21 : decode cJ7_copyOfRangeByte_39247 21 = .ok (.iload_n 1, 1) := bJ7_copyOfRangeByte_39247_21.1
theorem dJ7_copyOfRangeByte_39247_22 : decode cJ7_copyOfRangeByte_39247 22 = .ok (.isub, 1) := bJ7_copyOfRangeByte_39247_21.2.1
theorem dJ7_copyOfRangeByte_39247_23 : decode cJ7_copyOfRangeByte_39247 23 = .ok (.iload_n 3, 1) := bJ7_copyOfRangeByte_39247_21.2.2.1
theorem dJ7_copyOfRangeByte_39247_24 : decode cJ7_copyOfRangeByte_39247 24 = .ok (.invokestatic 304, 3) := bJ7_copyOfRangeByte_39247_21.2.2.2.1
theorem dJ7_copyOfRangeByte_39247_27 : decode cJ7_copyOfRangeByte_39247 27 = .ok (.invokestatic 150, 3) := bJ7_copyOfRangeByte_39247_21.2.2.2.2.1
theorem dJ7_copyOfRangeByte_39247_30 : decode cJ7_copyOfRangeByte_39247 30 = .ok (.aload 4, 2) := bJ7_copyOfRangeByte_39247_21.2.2.2.2.2.1
theorem dJ7_copyOfRangeByte_39247_32 : decode cJ7_copyOfRangeByte_39247 32 = .ok (.areturn, 1) := bJ7_copyOfRangeByte_39247_21.2.2.2.2.2.2
set_option maxRecDepth 100000 in
theorem bJ8_newLength_cabcc_0 : (decode cJ8_newLength_cabcc 0 = .ok (.iload_n 0, 1)) ∧ (decode cJ8_newLength_cabcc 1 = .ok (.iload_n 1, 1)) ∧ (decode cJ8_newLength_cabcc 2 = .ok (.iload_n 2, 1)) ∧ (decode cJ8_newLength_cabcc 3 = .ok (.invokestatic 194, 3)) ∧ (decode cJ8_newLength_cabcc 6 = .ok (.iadd, 1)) ∧ (decode cJ8_newLength_cabcc 7 = .ok (.istore_n 3, 1)) ∧ (decode cJ8_newLength_cabcc 8 = .ok (.iconst 0, 1)) ∧ (decode cJ8_newLength_cabcc 9 = .ok (.iload_n 3, 1)) ∧ (decode cJ8_newLength_cabcc 10 = .ok (.if_icmp .ge 11, 3)) ∧ (decode cJ8_newLength_cabcc 13 = .ok (.iload_n 3, 1)) ∧ (decode cJ8_newLength_cabcc 14 = .ok (.ldc 200, 2)) ∧ (decode cJ8_newLength_cabcc 16 = .ok (.if_icmp .gt 5, 3)) ∧ (decode cJ8_newLength_cabcc 19 = .ok (.iload_n 3, 1)) ∧ (decode cJ8_newLength_cabcc 20 = .ok (.ireturn, 1)) ∧ (decode cJ8_newLength_cabcc 21 = .ok (.iload_n 0, 1)) ∧ (decode cJ8_newLength_cabcc 22 = .ok (.iload_n 1, 1)) := by decide +kernel
theorem dJ8_newLength_cabcc_0 : decode cJ8_newLength_cabcc 0 = .ok (.iload_n 0, 1) := bJ8_newLength_cabcc_0.1
theorem dJ8_newLength_cabcc_1 : decode cJ8_newLength_cabcc 1 = .ok (.iload_n 1, 1) := bJ8_newLength_cabcc_0.2.1
theorem dJ8_newLength_cabcc_2 : decode cJ8_newLength_cabcc 2 = .ok (.iload_n 2, 1) := bJ8_newLength_cabcc_0.2.2.1
theorem dJ8_newLength_cabcc_3 : decode cJ8_newLength_cabcc 3 = .ok (.invokestatic 194, 3) := bJ8_newLength_cabcc_0.2.2.2.1
theorem dJ8_newLength_cabcc_6 : decode cJ8_newLength_cabcc 6 = .ok (.iadd, 1) := bJ8_newLength_cabcc_0.2.2.2.2.1
theorem dJ8_newLength_cabcc_7 : decode cJ8_newLength_cabcc 7 = .ok (.istore_n 3, 1) := bJ8_newLength_cabcc_0.2.2.2.2.2.1
theorem dJ8_newLength_cabcc_8 : decode cJ8_newLength_cabcc 8 = .ok (.iconst 0, 1) := bJ8_newLength_cabcc_0.2.2.2.2.2.2.1
theorem dJ8_newLength_cabcc_9 : decode cJ8_newLength_cabcc 9 = .ok (.iload_n 3, 1) := bJ8_newLength_cabcc_0.2.2.2.2.2.2.2.1
theorem dJ8_newLength_cabcc_10 : decode cJ8_newLength_cabcc 10 = .ok (.if_icmp .ge 11, 3) := bJ8_newLength_cabcc_0.2.2.2.2.2.2.2.2.1
theorem dJ8_newLength_cabcc_13 : decode cJ8_newLength_cabcc 13 = .ok (.iload_n 3, 1) := bJ8_newLength_cabcc_0.2.2.2.2.2.2.2.2.2.1
theorem dJ8_newLength_cabcc_14 : decode cJ8_newLength_cabcc 14 = .ok (.ldc 200, 2) := bJ8_newLength_cabcc_0.2.2.2.2.2.2.2.2.2.2.1
theorem dJ8_newLength_cabcc_16 : decode cJ8_newLength_cabcc 16 = .ok (.if_icmp .gt 5, 3) := bJ8_newLength_cabcc_0.2.2.2.2.2.2.2.2.2.2.2.1
theorem dJ8_newLength_cabcc_19 : decode cJ8_newLength_cabcc 19 = .ok (.iload_n 3, 1) := bJ8_newLength_cabcc_0.2.2.2.2.2.2.2.2.2.2.2.2.1
theorem dJ8_newLength_cabcc_20 : decode cJ8_newLength_cabcc 20 = .ok (.ireturn, 1) := bJ8_newLength_cabcc_0.2.2.2.2.2.2.2.2.2.2.2.2.2.1
theorem dJ8_newLength_cabcc_21 : decode cJ8_newLength_cabcc 21 = .ok (.iload_n 0, 1) := bJ8_newLength_cabcc_0.2.2.2.2.2.2.2.2.2.2.2.2.2.2.1
theorem dJ8_newLength_cabcc_22 : decode cJ8_newLength_cabcc 22 = .ok (.iload_n 1, 1) := bJ8_newLength_cabcc_0.2.2.2.2.2.2.2.2.2.2.2.2.2.2.2
set_option maxRecDepth 100000 in
theorem bJ8_newLength_cabcc_23 : (decode cJ8_newLength_cabcc 23 = .ok (.invokestatic 201, 3)) ∧ (decode cJ8_newLength_cabcc 26 = .ok (.ireturn, 1)) := by decide +kernel
theorem dJ8_newLength_cabcc_23 : decode cJ8_newLength_cabcc 23 = .ok (.invokestatic 201, 3) := bJ8_newLength_cabcc_23.1
theorem dJ8_newLength_cabcc_26 : decode cJ8_newLength_cabcc 26 = .ok (.ireturn, 1) := bJ8_newLength_cabcc_23.2

/-! ===== text: the JDK methods, safety alone ===== -/
theorem uJ4_length_8abf5 : mU mJ4_length_8abf5 0 := ⟨mw_817, mw_816, mw_44, ⟨by decide +kernel, by decide +kernel, by decide +kernel⟩, rfl⟩
theorem uJ5_append_3fe6f : mU mJ5_append_3fe6f 1 := ⟨mw_677, mw_676, mw_43, ⟨by decide +kernel, by decide +kernel, by decide +kernel⟩, rfl⟩
theorem uJ5_append_c97b9 : mU mJ5_append_c97b9 1 := ⟨mw_766, mw_765, mw_43, ⟨by decide +kernel, by decide +kernel, by decide +kernel⟩, rfl⟩
theorem uJ5_append_cf1ce : mU mJ5_append_cf1ce 1 := ⟨mw_841, mw_840, mw_43, ⟨by decide +kernel, by decide +kernel, by decide +kernel⟩, rfl⟩
theorem uJ5_ensureCapacityInternal_d00df : mU mJ5_ensureCapacityInternal_d00df 1 := ⟨mw_681, mw_680, mw_43, ⟨by decide +kernel, by decide +kernel, by decide +kernel⟩, rfl⟩
theorem uJ5_getValue_6d5f1 : mU mJ5_getValue_6d5f1 0 := ⟨mw_811, mw_808, mw_43, ⟨by decide +kernel, by decide +kernel, by decide +kernel⟩, rfl⟩
theorem uJ5_inflateIfNeededFor_a7421 : mU mJ5_inflateIfNeededFor_a7421 1 := ⟨mw_865, mw_864, mw_43, ⟨by decide +kernel, by decide +kernel, by decide +kernel⟩, rfl⟩
theorem uJ5_isLatin1_aae02 : mU mJ5_isLatin1_aae02 0 := ⟨mw_711, mw_708, mw_43, ⟨by decide +kernel, by decide +kernel, by decide +kernel⟩, rfl⟩
theorem uJ5_length_8abf5 : mU mJ5_length_8abf5 0 := ⟨mw_819, mw_813, mw_43, ⟨by decide +kernel, by decide +kernel, by decide +kernel⟩, rfl⟩
theorem uJ5_newCapacity_0f7a4 : mU mJ5_newCapacity_0f7a4 1 := ⟨mw_685, mw_684, mw_43, ⟨by decide +kernel, by decide +kernel, by decide +kernel⟩, rfl⟩
theorem uJ5_putStringAt_47b60 : mU mJ5_putStringAt_47b60 2 := ⟨mw_861, mw_860, mw_43, ⟨by decide +kernel, by decide +kernel, by decide +kernel⟩, rfl⟩
/-- a StringBuilder at cell a, of c bytes in an array of at least k; its cells are lo or later ones -/
def sbA (h : mH) (lo n a c k : Nat) : Prop := ∃ (v cap : Nat) (f : Nat → Int32) (ml : Int32), h a = .inr (.inr (1, [.ref v, .int (nI 0), .int ml, .int (nI c)])) ∧ h v = .inl (1, cap, f) ∧ bFit f ∧ k ≤ cap ∧ cap ≤ 700 ∧ lo ≤ a ∧ lo ≤ v ∧ a ≠ v ∧ a < n ∧ v < n
theorem sub_gt0 {a b : Nat} (ha : a < 2 ^ 30) (hb : b < 2 ^ 30) : 0 < nI a - nI b ↔ b < a := by
  rw [Int32.lt_iff_toInt_lt, pk_sub_toInt ha hb]
  have h0 : (0 : Int32).toInt = 0 := by decide
  omega
/-- the digits of a number fit d places -/
def cFit (x : Int32) (d : Nat) : Prop := (∃ u m, x = nI u ∧ u < 2 ^ 31 ∧ u < 10 ^ m ∧ 1 ≤ m ∧ m ≤ d) ∨ (∃ u m, x = -nI u ∧ 0 < u ∧ u ≤ 2 ^ 31 ∧ u < 10 ^ m ∧ 1 ≤ m ∧ m + 1 ≤ d)
theorem ng_neg0 {u : Nat} (h0 : 0 < u) (hu : u ≤ 2 ^ 31) : -nI u < 0 := by
  rw [Int32.lt_iff_toInt_lt, ngT hu]
  have h0 : (0 : Int32).toInt = 0 := by decide
  omega
theorem p10 {i : Nat} (h : i < 10) : 10 ^ i ≤ 2 ^ 31 := Nat.le_trans (Nat.pow_le_pow_right (by decide) (show i ≤ 9 by omega)) (by decide)
theorem p10s {i : Nat} {p : Int32} (h : p = -nI (10 ^ i)) : nI 10 * p = -nI (10 ^ (i + 1)) := by
  rw [h, Int32.mul_neg, mI_mul, Nat.pow_succ, Nat.mul_comm]
theorem dg_step {u m : Nat} (h1 : 100 ≤ u) (hu : u < 10 ^ m) : ∃ m', m = m' + 2 ∧ 1 ≤ m' ∧ u / 100 < 10 ^ m' := by
  match m, hu with
  | 0, hu => exact absurd hu (by omega)
  | 1, hu => exact absurd hu (by omega)
  | 2, hu => exact absurd hu (by omega)
  | m + 3, hu =>
    refine ⟨m + 1, rfl, by omega, ?_⟩
    rw [show m + 3 = m + 1 + 1 + 1 from rfl, Nat.pow_succ, Nat.pow_succ] at hu
    omega
theorem dg_two {u m : Nat} (h1 : 9 < u) (hu : u < 10 ^ m) : 2 ≤ m := by
  match m, hu with
  | 0, hu => exact absurd hu (by omega)
  | 1, hu => exact absurd hu (by omega)
  | m + 2, _ => omega
abbrev rJ5_isLatin1_aae02 : Room := { frames := 0, cells := 0, slots := 0, locals := 0 }
set_option maxRecDepth 100000 in
set_option maxHeartbeats 2000000 in
theorem kJ5_isLatin1_aae02 {l : Launch} (hl : l.stackTraces = false) {h : mH} {n : Nat} {a v c : Nat} {ml : Int32} (E : h a = .inr (.inr (1, [.ref v, .int (nI 0), .int ml, .int (nI c)]))) : mC l mJ5_isLatin1_aae02 rJ5_isLatin1_aae02 [.ref a] h n (mRi (nI 1) h n) (mNX) := by
  refine mm_enter hl (by decide +kernel) rfl rfl rfl (Nat.le_of_ble_eq_true rfl) ?_
  show mT _ _ _ _ 0 [.ref a] [] _ _ 0 0
  refine mt_getsC dJ5_isLatin1_aae02_0 mw_649 ?_
  refine mt_if_eq dJ5_isLatin1_aae02_3 (tgt := 17) rfl (fun q1 => ?_) (fun q1 => ?_)
  · have q1 := (mI_eq0 (by omega)).mp q1
    exact absurd q1 (by decide)
  · have q1 := (not_congr (mI_eq0 (by omega))).mp q1
    refine mt_aload_n dJ5_isLatin1_aae02_6 rfl rfl ?_
    refine mt_getfield mKJ4 (i := 1) (by decide) mw_659 dJ5_isLatin1_aae02_7 E rfl ?_
    refine mt_if_ne dJ5_isLatin1_aae02_10 (tgt := 17) rfl (fun q2 => ?_) (fun q2 => ?_)
    · have q2 := (not_congr (mI_eq0 (by omega))).mp q2
      exact absurd q2 (by decide)
    · have q2 := (mI_eq0 (by omega)).mp q2
      refine mt_iconst dJ5_isLatin1_aae02_13 (v := nI 1) rfl ?_
      refine mt_goto dJ5_isLatin1_aae02_14 (tgt := 18) rfl ?_
      refine mt_ireturn dJ5_isLatin1_aae02_18 rfl rfl (Nat.le_of_ble_eq_true rfl) (Nat.le_of_ble_eq_true rfl) ?_
      exact ⟨rfl, rfl, rfl⟩
abbrev rJ5_getValue_6d5f1 : Room := { frames := 0, cells := 0, slots := 0, locals := 0 }
set_option maxRecDepth 100000 in
set_option maxHeartbeats 2000000 in
theorem kJ5_getValue_6d5f1 {l : Launch} (hl : l.stackTraces = false) {h : mH} {n : Nat} {a v c : Nat} {ml : Int32} (E : h a = .inr (.inr (1, [.ref v, .int (nI 0), .int ml, .int (nI c)]))) : mC l mJ5_getValue_6d5f1 rJ5_getValue_6d5f1 [.ref a] h n (fun r h' n' => r = some (.ref v) ∧ h' = h ∧ n' = n) (mNX) := by
  refine mm_enter hl (by decide +kernel) rfl rfl rfl (Nat.le_of_ble_eq_true rfl) ?_
  show mT _ _ _ _ 0 [.ref a] [] _ _ 0 0
  refine mt_aload_n dJ5_getValue_6d5f1_0 rfl rfl ?_
  refine mt_getfield mKJ4 (i := 0) (by decide) mw_658 dJ5_getValue_6d5f1_1 E rfl ?_
  refine mt_areturn dJ5_getValue_6d5f1_4 rfl (by first | exact Or.inl ⟨_, rfl⟩ | exact Or.inr ⟨_, rfl⟩) rfl (Nat.le_of_ble_eq_true rfl) (Nat.le_of_ble_eq_true rfl) ?_
  exact ⟨rfl, rfl, rfl⟩
abbrev rJ5_length_8abf5 : Room := { frames := 0, cells := 0, slots := 0, locals := 0 }
set_option maxRecDepth 100000 in
set_option maxHeartbeats 2000000 in
theorem kJ5_length_8abf5 {l : Launch} (hl : l.stackTraces = false) {h : mH} {n : Nat} {a v c : Nat} {ml : Int32} (E : h a = .inr (.inr (1, [.ref v, .int (nI 0), .int ml, .int (nI c)]))) : mC l mJ5_length_8abf5 rJ5_length_8abf5 [.ref a] h n (mRi (nI c) h n) (mNX) := by
  refine mm_enter hl (by decide +kernel) rfl rfl rfl (Nat.le_of_ble_eq_true rfl) ?_
  show mT _ _ _ _ 0 [.ref a] [] _ _ 0 0
  refine mt_aload_n dJ5_length_8abf5_0 rfl rfl ?_
  refine mt_getfield mKJ4 (i := 3) (by decide) mw_661 dJ5_length_8abf5_1 E rfl ?_
  refine mt_ireturn dJ5_length_8abf5_4 rfl rfl (Nat.le_of_ble_eq_true rfl) (Nat.le_of_ble_eq_true rfl) ?_
  exact ⟨rfl, rfl, rfl⟩
abbrev rJ4_length_8abf5 : Room := { frames := 1, cells := 0, slots := 0, locals := 20 }
set_option maxRecDepth 100000 in
set_option maxHeartbeats 2000000 in
theorem kJ4_length_8abf5 {l : Launch} (hl : l.stackTraces = false) {h : mH} {n : Nat} {a v c : Nat} {ml : Int32} (E : h a = .inr (.inr (1, [.ref v, .int (nI 0), .int ml, .int (nI c)]))) : mC l mJ4_length_8abf5 rJ4_length_8abf5 [.ref a] h n (mRi (nI c) h n) (mNX) := by
  refine mm_enter hl (by decide +kernel) rfl rfl rfl (Nat.le_of_ble_eq_true rfl) ?_
  show mT _ _ _ _ 0 [.ref a] [] _ _ 0 0
  refine mt_aload_n dJ4_length_8abf5_0 rfl rfl ?_
  refine mt_callSU (N := mJ5_length_8abf5) (Rc := rJ5_length_8abf5) (As := []) (st := []) dJ4_length_8abf5_1 (kJ5_length_8abf5 hl E) uJ5_length_8abf5 (by decide) mw_818 mw_814 mw_670 mKJ4 E rfl (Nat.le_of_ble_eq_true rfl) ⟨⟨Nat.le_of_ble_eq_true rfl, Nat.le_of_ble_eq_true rfl⟩, Nat.le_of_ble_eq_true rfl, Nat.le_of_ble_eq_true rfl⟩ (fun v1 h2 n3 c4 => ?_) (fun _ _ _ hx => hx.elim)
  obtain ⟨c4a, c4b, c4c⟩ := c4
  rw [c4a, c4b, c4c]
  show mT _ _ _ _ 4 [.ref a] [.int (nI c)] _ _ _ _
  refine mt_ireturn dJ4_length_8abf5_4 rfl rfl (Nat.le_of_ble_eq_true rfl) (Nat.le_of_ble_eq_true rfl) ?_
  exact ⟨rfl, rfl, rfl⟩
abbrev rJ1_canEncode_fc78d : Room := { frames := 0, cells := 0, slots := 0, locals := 0 }
set_option maxRecDepth 100000 in
set_option maxHeartbeats 2000000 in
theorem kJ1_canEncode_fc78d {l : Launch} (hl : l.stackTraces = false) {h : mH} {n : Nat}   : mC l mJ1_canEncode_fc78d rJ1_canEncode_fc78d [.int (nI 32)] h n (mRi (nI 1) h n) (mNX) := by
  refine mm_enter hl (by decide +kernel) rfl rfl rfl (Nat.le_of_ble_eq_true rfl) ?_
  show mT _ _ _ _ 0 [.int (nI 32)] [] _ _ 0 0
  refine mt_iload_n dJ1_canEncode_fc78d_0 rfl ?_
  refine mt_sipush dJ1_canEncode_fc78d_1 (v := nI 255) (by decide) ?_
  refine mt_icmp_gt dJ1_canEncode_fc78d_4 (tgt := 11) rfl (fun q1 => ?_) (fun q1 => ?_)
  · have q1 := (nI_ltI (by omega) (by omega)).mp q1
    exact absurd q1 (by decide)
  · have q1 := (not_congr (nI_ltI (by omega) (by omega))).mp q1
    refine mt_iconst dJ1_canEncode_fc78d_7 (v := nI 1) rfl ?_
    refine mt_goto dJ1_canEncode_fc78d_8 (tgt := 12) rfl ?_
    refine mt_ireturn dJ1_canEncode_fc78d_12 rfl rfl (Nat.le_of_ble_eq_true rfl) (Nat.le_of_ble_eq_true rfl) ?_
    exact ⟨rfl, rfl, rfl⟩
abbrev rJ0_coder_7d493 : Room := { frames := 0, cells := 0, slots := 0, locals := 0 }
set_option maxRecDepth 100000 in
set_option maxHeartbeats 2000000 in
theorem kJ0_coder_7d493 {l : Launch} (hl : l.stackTraces = false) {h : mH} {n : Nat}   : mC l mJ0_coder_7d493 rJ0_coder_7d493 [.retAddr 1] h n (mRi (nI 0) h n) (mNX) := by
  refine mm_enter hl (by decide +kernel) rfl rfl rfl (Nat.le_of_ble_eq_true rfl) ?_
  show mT _ _ _ _ 0 [.retAddr 1] [] _ _ 0 0
  refine mt_getsC dJ0_coder_7d493_0 mw_857 ?_
  refine mt_if_eq dJ0_coder_7d493_3 (tgt := 13) rfl (fun q1 => ?_) (fun q1 => ?_)
  · have q1 := (mI_eq0 (by omega)).mp q1
    exact absurd q1 (by decide)
  · have q1 := (not_congr (mI_eq0 (by omega))).mp q1
    refine mt_aload_n dJ0_coder_7d493_6 rfl rfl ?_
    refine mt_xcoder dJ0_coder_7d493_7 mw_889 ?_
    refine mt_goto dJ0_coder_7d493_10 (tgt := 14) rfl ?_
    refine mt_ireturn dJ0_coder_7d493_14 rfl rfl (Nat.le_of_ble_eq_true rfl) (Nat.le_of_ble_eq_true rfl) ?_
    exact ⟨rfl, rfl, rfl⟩
abbrev rJ0_length_8abf5 : Room := { frames := 1, cells := 0, slots := 0, locals := 20 }
set_option maxRecDepth 100000 in
set_option maxHeartbeats 2000000 in
theorem kJ0_length_8abf5 {l : Launch} (hl : l.stackTraces = false) {h : mH} {n : Nat}   : mC l mJ0_length_8abf5 rJ0_length_8abf5 [.retAddr 1] h n (mRi (nI 1) h n) (mNX) := by
  refine mm_enter hl (by decide +kernel) rfl rfl rfl (Nat.le_of_ble_eq_true rfl) ?_
  show mT _ _ _ _ 0 [.retAddr 1] [] _ _ 0 0
  refine mt_aload_n dJ0_length_8abf5_0 rfl rfl ?_
  refine mt_xvalue dJ0_length_8abf5_1 mw_888 ?_
  refine mt_xlenB dJ0_length_8abf5_4 ?_
  refine mt_aload_n dJ0_length_8abf5_5 rfl rfl ?_
  refine mt_callX (N := mJ0_coder_7d493) (Rc := rJ0_coder_7d493) (As := []) (st := [.int (nI 1)]) dJ0_length_8abf5_6 (kJ0_coder_7d493 hl) sJ0_coder_7d493 mw_853 rfl rfl (Nat.le_of_ble_eq_true rfl) ⟨⟨Nat.le_of_ble_eq_true rfl, Nat.le_of_ble_eq_true rfl⟩, Nat.le_of_ble_eq_true rfl, Nat.le_of_ble_eq_true rfl⟩ (fun v1 h2 n3 c4 => ?_) (fun _ _ _ hx => hx.elim)
  obtain ⟨c4a, c4b, c4c⟩ := c4
  rw [c4a, c4b, c4c]
  show mT _ _ _ _ 9 [.retAddr 1] [.int (nI 0), .int (nI 1)] _ _ _ _
  refine mt_ishr0 dJ0_length_8abf5_9 ?_
  refine mt_ireturn dJ0_length_8abf5_10 rfl rfl (Nat.le_of_ble_eq_true rfl) (Nat.le_of_ble_eq_true rfl) ?_
  exact ⟨rfl, rfl, rfl⟩
abbrev rJ8_newLength_cabcc : Room := { frames := 1, cells := 0, slots := 0, locals := 30 }
set_option maxRecDepth 100000 in
set_option maxHeartbeats 2000000 in
theorem kJ8_newLength_cabcc {l : Launch} (hl : l.stackTraces = false) {h : mH} {n : Nat} {old g p : Nat} (hs : old + max g p < 1000000) (h0 : 0 < old + max g p) : mC l mJ8_newLength_cabcc rJ8_newLength_cabcc [.int (nI old), .int (nI g), .int (nI p)] h n (mRi (nI (old + max g p)) h n) (mNX) := by
  refine mm_enter hl (by decide +kernel) rfl rfl rfl (Nat.le_of_ble_eq_true rfl) ?_
  show mT _ _ _ _ 0 [.int (nI old), .int (nI g), .int (nI p), .double 0] [] _ _ 0 0
  refine mt_iload_n dJ8_newLength_cabcc_0 rfl ?_
  refine mt_iload_n dJ8_newLength_cabcc_1 rfl ?_
  refine mt_iload_n dJ8_newLength_cabcc_2 rfl ?_
  refine mt_mmax dJ8_newLength_cabcc_3 mw_689 mw_349 mw_41 (mw_max) (Nat.le_of_ble_eq_true rfl) ⟨Nat.le_of_ble_eq_true rfl, Nat.le_of_ble_eq_true rfl⟩ (Nat.le_of_ble_eq_true rfl) (Nat.le_of_ble_eq_true rfl) (v := nI (max g p)) (mI_max (by omega) (by omega)) ?_
  refine mp_iadd dJ8_newLength_cabcc_6 (v := nI (old + (max g p))) (nI_add _ _) ?_
  refine mp_istore_n dJ8_newLength_cabcc_7 (ls' := [.int (nI old), .int (nI g), .int (nI p), .int (nI (old + (max g p)))]) rfl (by decide) rfl ?_
  refine mt_iconst dJ8_newLength_cabcc_8 (v := nI 0) rfl ?_
  refine mt_iload_n dJ8_newLength_cabcc_9 rfl ?_
  refine mt_icmp_ge dJ8_newLength_cabcc_10 (tgt := 21) rfl (fun q1 => ?_) (fun q1 => ?_)
  · have q1 := Int32.not_lt.mpr q1
    have q1 := (not_congr (nI_ltI (by omega) (by omega))).mp q1
    exfalso
    omega
  · have q1 := Int32.not_le.mp q1
    have q1 := (nI_ltI (by omega) (by omega)).mp q1
    refine mt_iload_n dJ8_newLength_cabcc_13 rfl ?_
    refine mt_ldc (v := nI 2147483639) dJ8_newLength_cabcc_14 mw_690 ?_
    refine mt_icmp_gt dJ8_newLength_cabcc_16 (tgt := 21) rfl (fun q2 => ?_) (fun q2 => ?_)
    · have q2 := (nI_ltI (by omega) (by omega)).mp q2
      exfalso
      omega
    · have q2 := (not_congr (nI_ltI (by omega) (by omega))).mp q2
      refine mt_iload_n dJ8_newLength_cabcc_19 rfl ?_
      refine mt_ireturn dJ8_newLength_cabcc_20 rfl rfl (Nat.le_of_ble_eq_true rfl) (Nat.le_of_ble_eq_true rfl) ?_
      exact ⟨rfl, rfl, rfl⟩
abbrev rJ5_newCapacity_0f7a4 : Room := { frames := 2, cells := 0, slots := 0, locals := 53 }
set_option maxRecDepth 100000 in
set_option maxHeartbeats 2000000 in
theorem kJ5_newCapacity_0f7a4 {l : Launch} (hl : l.stackTraces = false) {h : mH} {n : Nat} {a v c cap min : Nat} {ml : Int32} {f : Nat → Int32} (E : h a = .inr (.inr (1, [.ref v, .int (nI 0), .int ml, .int (nI c)]))) (B : h v = .inl (1, cap, f)) (q1 : cap < min) (q2 : min ≤ 300) : mC l mJ5_newCapacity_0f7a4 rJ5_newCapacity_0f7a4 [.ref a, .int (nI min)] h n (mRi (nI (cap + max (min - cap) (cap + 2))) h n) (mNX) := by
  refine mm_enter hl (by decide +kernel) rfl rfl rfl (Nat.le_of_ble_eq_true rfl) ?_
  show mT _ _ _ _ 0 [.ref a, .int (nI min), .double 0, .double 0, .double 0, .double 0] [] _ _ 0 0
  refine mt_aload_n dJ5_newCapacity_0f7a4_0 rfl rfl ?_
  refine mt_getfield mKJ4 (i := 0) (by decide) mw_658 dJ5_newCapacity_0f7a4_1 E rfl ?_
  refine mt_alen dJ5_newCapacity_0f7a4_4 B (by decide) ?_
  refine mp_istore_n dJ5_newCapacity_0f7a4_5 (ls' := [.ref a, .int (nI min), .int (nI cap), .double 0, .double 0, .double 0]) rfl (by decide) rfl ?_
  refine mt_iload_n dJ5_newCapacity_0f7a4_6 rfl ?_
  refine mt_aload_n dJ5_newCapacity_0f7a4_7 rfl rfl ?_
  refine mt_getfield mKJ4 (i := 1) (by decide) mw_659 dJ5_newCapacity_0f7a4_8 E rfl ?_
  refine mt_ishl0 dJ5_newCapacity_0f7a4_11 ?_
  refine mp_istore_n dJ5_newCapacity_0f7a4_12 (ls' := [.ref a, .int (nI min), .int (nI cap), .int (nI min), .double 0, .double 0]) rfl (by decide) rfl ?_
  refine mt_iload_n dJ5_newCapacity_0f7a4_13 rfl ?_
  refine mt_iload_n dJ5_newCapacity_0f7a4_14 rfl ?_
  refine mp_isub dJ5_newCapacity_0f7a4_15 (v := nI (min - cap)) (pk_sub (by omega)) ?_
  refine mp_istore dJ5_newCapacity_0f7a4_16 (ls' := [.ref a, .int (nI min), .int (nI cap), .int (nI min), .int (nI (min - cap)), .double 0]) rfl (by decide) rfl ?_
  refine mt_iload_n dJ5_newCapacity_0f7a4_18 rfl ?_
  refine mt_iload dJ5_newCapacity_0f7a4_19 rfl ?_
  refine mt_iload_n dJ5_newCapacity_0f7a4_21 rfl ?_
  refine mt_iconst dJ5_newCapacity_0f7a4_22 (v := nI 2) rfl ?_
  refine mt_aload_n dJ5_newCapacity_0f7a4_23 rfl rfl ?_
  refine mt_getfield mKJ4 (i := 1) (by decide) mw_659 dJ5_newCapacity_0f7a4_24 E rfl ?_
  refine mt_ishl0 dJ5_newCapacity_0f7a4_27 ?_
  refine mp_iadd dJ5_newCapacity_0f7a4_28 (v := nI (cap + 2)) (nI_add _ _) ?_
  refine mt_callS (N := mJ8_newLength_cabcc) (Rc := rJ8_newLength_cabcc) (As := [.int (nI cap), .int (nI (min - cap)), .int (nI (cap + 2))]) (st := []) dJ5_newCapacity_0f7a4_29 (kJ8_newLength_cabcc hl (by omega) (by omega)) sJ8_newLength_cabcc mw_686 rfl (Nat.le_of_ble_eq_true rfl) ⟨⟨Nat.le_of_ble_eq_true rfl, Nat.le_of_ble_eq_true rfl⟩, Nat.le_of_ble_eq_true rfl, Nat.le_of_ble_eq_true rfl⟩ (fun v1 h2 n3 c4 => ?_) (fun _ _ _ hx => hx.elim)
  obtain ⟨c4a, c4b, c4c⟩ := c4
  rw [c4a, c4b, c4c]
  show mT _ _ _ _ 32 [.ref a, .int (nI min), .int (nI cap), .int (nI min), .int (nI (min - cap)), .double 0] [.int (nI (cap + max (min - cap) (cap + 2)))] _ _ _ _
  refine mp_istore dJ5_newCapacity_0f7a4_32 (ls' := [.ref a, .int (nI min), .int (nI cap), .int (nI min), .int (nI (min - cap)), .int (nI (cap + max (min - cap) (cap + 2)))]) rfl (by decide) rfl ?_
  refine mt_iload dJ5_newCapacity_0f7a4_34 rfl ?_
  refine mt_ldc (v := nI 2147483647) dJ5_newCapacity_0f7a4_36 mw_694 ?_
  refine mt_icmp_ne dJ5_newCapacity_0f7a4_38 (tgt := 51) rfl (fun q5 => ?_) (fun q5 => ?_)
  · have q5 := (not_congr (nI_eq (by omega) (by omega))).mp q5
    refine mt_iload dJ5_newCapacity_0f7a4_51 rfl ?_
    refine mt_aload_n dJ5_newCapacity_0f7a4_53 rfl rfl ?_
    refine mt_getfield mKJ4 (i := 1) (by decide) mw_659 dJ5_newCapacity_0f7a4_54 E rfl ?_
    refine mt_ishr0 dJ5_newCapacity_0f7a4_57 ?_
    refine mt_ireturn dJ5_newCapacity_0f7a4_58 rfl rfl (Nat.le_of_ble_eq_true rfl) (Nat.le_of_ble_eq_true rfl) ?_
    exact ⟨rfl, rfl, rfl⟩
  · have q5 := (nI_eq (by omega) (by omega)).mp q5
    exfalso
    omega
abbrev rJ7_copyOf_9075b : Room := { frames := 1, cells := 1, slots := 700, locals := 30 }
set_option maxRecDepth 100000 in
set_option maxHeartbeats 2000000 in
theorem kJ7_copyOf_9075b {l : Launch} (hl : l.stackTraces = false) {h : mH} {n : Nat} {v len k : Nat} {f : Nat → Int32} (B : h v = .inl (1, len, f)) (hf : bFit f) (hv : v < n) (q1 : len < k) (q2 : k ≤ 700) : mC l mJ7_copyOf_9075b rJ7_copyOf_9075b [.ref v, .int (nI k)] h n (fun r h' n' => r = some (.ref n) ∧ n' = n + 1 ∧ (∃ g, h' n = .inl (1, k, g) ∧ bFit g) ∧ ∀ j, j ≠ n → h' j = h j) (mNX) := by
  refine mm_enter hl (by decide +kernel) rfl rfl rfl (Nat.le_of_ble_eq_true rfl) ?_
  show mT _ _ _ _ 0 [.ref v, .int (nI k), .double 0] [] _ _ 0 0
  refine mt_iload_n dJ7_copyOf_9075b_0 rfl ?_
  refine mt_aload_n dJ7_copyOf_9075b_1 rfl rfl ?_
  refine mt_alen dJ7_copyOf_9075b_2 B (by decide) ?_
  refine mt_icmp_ne dJ7_copyOf_9075b_3 (tgt := 14) rfl (fun q1 => ?_) (fun q1 => ?_)
  · have q1 := (not_congr (nI_eq (by omega) (by omega))).mp q1
    refine mt_iload_n dJ7_copyOf_9075b_14 rfl ?_
    refine mp_newarrayB dJ7_copyOf_9075b_15 mw_300 (by omega) (by simp only [rJ7_copyOf_9075b]; omega) (by simp only [rJ7_copyOf_9075b]; omega) (fun h2 e3 f4 => ?_)
    refine mp_astore_n dJ7_copyOf_9075b_17 (ls' := [.ref v, .int (nI k), .ref n]) rfl rfl (by decide) rfl ?_
    refine mt_aload_n dJ7_copyOf_9075b_18 rfl rfl ?_
    refine mt_iconst dJ7_copyOf_9075b_19 (v := nI 0) rfl ?_
    refine mt_aload_n dJ7_copyOf_9075b_20 rfl rfl ?_
    refine mt_iconst dJ7_copyOf_9075b_21 (v := nI 0) rfl ?_
    refine mt_aload_n dJ7_copyOf_9075b_22 rfl rfl ?_
    refine mt_alen dJ7_copyOf_9075b_23 ((f4 (v) (by omega)).trans B) (by decide) ?_
    refine mt_iload_n dJ7_copyOf_9075b_24 rfl ?_
    refine mt_mmin dJ7_copyOf_9075b_25 mw_705 mw_152 mw_41 (mw_min) (Nat.le_of_ble_eq_true rfl) ⟨Nat.le_of_ble_eq_true rfl, Nat.le_of_ble_eq_true rfl⟩ (by simp only [rJ7_copyOf_9075b]; omega) (by simp only [rJ7_copyOf_9075b]; omega) (v := nI (min len k)) (mI_min (by omega) (by omega)) ?_
    refine mp_acopyB dJ7_copyOf_9075b_28 mw_706 mw_156 mw_155 mw_42 ((f4 (v) (by omega)).trans B) e3 hf (by omega) (by omega) (by omega) (by omega) (Nat.le_of_ble_eq_true rfl) ⟨Nat.le_of_ble_eq_true rfl, Nat.le_of_ble_eq_true rfl⟩ (fun h5 e6 f7 => ?_)
    refine mt_aload_n dJ7_copyOf_9075b_31 rfl rfl ?_
    refine mt_areturn dJ7_copyOf_9075b_32 rfl (by first | exact Or.inl ⟨_, rfl⟩ | exact Or.inr ⟨_, rfl⟩) rfl (by simp only [rJ7_copyOf_9075b]; omega) (by simp only [rJ7_copyOf_9075b]; omega) ?_
    exact ⟨rfl, rfl, ⟨_, e6, (hf).c bFit0⟩, fun j hj => (f7 j (by omega)).trans (f4 j (by omega))⟩
  · have q1 := (nI_eq (by omega) (by omega)).mp q1
    exfalso
    omega
abbrev rJ5_ensureCapacityInternal_d00df : Room := { frames := 3, cells := 1, slots := 700, locals := 78 }
set_option maxRecDepth 100000 in
set_option maxHeartbeats 2000000 in
theorem kJ5_ensureCapacityInternal_d00df {l : Launch} (hl : l.stackTraces = false) {h : mH} {n : Nat} {lo a c k min : Nat} (A : sbA h lo n a c k) (q2 : min ≤ 300) : mC l mJ5_ensureCapacityInternal_d00df rJ5_ensureCapacityInternal_d00df [.ref a, .int (nI min)] h n (fun r h' n' => r = none ∧ n ≤ n' ∧ sbA h' lo n' a c min ∧ ∀ j, j < lo → h' j = h j) (mNX) := by
  obtain ⟨v, cap, f, ml, E, B, hf, ck, c7, la, lv, ne, an, vn⟩ := A
  refine mm_enter hl (by decide +kernel) rfl rfl rfl (Nat.le_of_ble_eq_true rfl) ?_
  show mT _ _ _ _ 0 [.ref a, .int (nI min), .double 0] [] _ _ 0 0
  refine mt_aload_n dJ5_ensureCapacityInternal_d00df_0 rfl rfl ?_
  refine mt_getfield mKJ4 (i := 0) (by decide) mw_658 dJ5_ensureCapacityInternal_d00df_1 E rfl ?_
  refine mt_alen dJ5_ensureCapacityInternal_d00df_4 B (by decide) ?_
  refine mt_aload_n dJ5_ensureCapacityInternal_d00df_5 rfl rfl ?_
  refine mt_getfield mKJ4 (i := 1) (by decide) mw_659 dJ5_ensureCapacityInternal_d00df_6 E rfl ?_
  refine mt_ishr0 dJ5_ensureCapacityInternal_d00df_9 ?_
  refine mp_istore_n dJ5_ensureCapacityInternal_d00df_10 (ls' := [.ref a, .int (nI min), .int (nI cap)]) rfl (by decide) rfl ?_
  refine mt_iload_n dJ5_ensureCapacityInternal_d00df_11 rfl ?_
  refine mt_iload_n dJ5_ensureCapacityInternal_d00df_12 rfl ?_
  refine mp_isub dJ5_ensureCapacityInternal_d00df_13 (v := (nI min) - (nI cap)) rfl ?_
  refine mt_if_le dJ5_ensureCapacityInternal_d00df_14 (tgt := 38) rfl (fun q1 => ?_) (fun q1 => ?_)
  · have q1 := Int32.not_lt.mpr q1
    have q9 : ¬ cap < min := fun z => q1 ((sub_gt0 (by omega) (by omega)).mpr z)
    refine mt_return dJ5_ensureCapacityInternal_d00df_38 rfl (Nat.le_of_ble_eq_true rfl) (Nat.le_of_ble_eq_true rfl) ?_
    exact ⟨rfl, Nat.le_refl _, ⟨v, cap, f, ml, E, B, hf, by omega, c7, la, lv, ne, an, vn⟩, fun _ _ => rfl⟩
  · have q1 := Int32.not_le.mp q1
    have q9 : cap < min := (sub_gt0 (by omega) (by omega)).mp q1
    refine mt_aload_n dJ5_ensureCapacityInternal_d00df_17 rfl rfl ?_
    refine mt_aload_n dJ5_ensureCapacityInternal_d00df_18 rfl rfl ?_
    refine mt_getfield mKJ4 (i := 0) (by decide) mw_658 dJ5_ensureCapacityInternal_d00df_19 E rfl ?_
    refine mt_aload_n dJ5_ensureCapacityInternal_d00df_22 rfl rfl ?_
    refine mt_iload_n dJ5_ensureCapacityInternal_d00df_23 rfl ?_
    refine mt_callU (N := mJ5_newCapacity_0f7a4) (Rc := rJ5_newCapacity_0f7a4) (As := [.int (nI min)]) (st := [.ref v, .ref a]) dJ5_ensureCapacityInternal_d00df_24 (kJ5_newCapacity_0f7a4 hl E B (by omega) (by omega)) uJ5_newCapacity_0f7a4 mw_1382 mw_682 mKJ4 E rfl (Nat.le_of_ble_eq_true rfl) ⟨⟨Nat.le_of_ble_eq_true rfl, Nat.le_of_ble_eq_true rfl⟩, Nat.le_of_ble_eq_true rfl, Nat.le_of_ble_eq_true rfl⟩ (fun v2 h3 n4 c5 => ?_) (fun _ _ _ hx => hx.elim)
    obtain ⟨c5a, c5b, c5c⟩ := c5
    rw [c5a, c5b, c5c]
    show mT _ _ _ _ 27 [.ref a, .int (nI min), .int (nI cap)] [.int (nI (cap + max (min - cap) (cap + 2))), .ref v, .ref a] _ _ _ _
    refine mt_aload_n dJ5_ensureCapacityInternal_d00df_27 rfl rfl ?_
    refine mt_getfield mKJ4 (i := 1) (by decide) mw_659 dJ5_ensureCapacityInternal_d00df_28 E rfl ?_
    refine mt_ishl0 dJ5_ensureCapacityInternal_d00df_31 ?_
    refine mt_callS (N := mJ7_copyOf_9075b) (Rc := rJ7_copyOf_9075b) (As := [.ref v, .int (nI (cap + max (min - cap) (cap + 2)))]) (st := [.ref a]) dJ5_ensureCapacityInternal_d00df_32 (kJ7_copyOf_9075b hl B hf (by omega) (by omega) (by omega)) sJ7_copyOf_9075b mw_695 rfl (Nat.le_of_ble_eq_true rfl) ⟨⟨Nat.le_of_ble_eq_true rfl, Nat.le_of_ble_eq_true rfl⟩, Nat.le_of_ble_eq_true rfl, Nat.le_of_ble_eq_true rfl⟩ (fun v6 h7 n8 c9 => ?_) (fun _ _ _ hx => hx.elim)
    obtain ⟨c9a, c9b, ⟨gc9, c9c, c9d⟩, c9e⟩ := c9
    rw [c9a, c9b]
    show mT _ _ _ _ 35 [.ref a, .int (nI min), .int (nI cap)] [.ref n, .ref a] _ _ _ _
    refine mp_putfield mKJ4 (i := 0) (fs' := [.ref n, .int (nI 0), .int ml, .int (nI c)]) (by decide) mw_658 rfl dJ5_ensureCapacityInternal_d00df_35 ((c9e (a) (by omega)).trans E) (Nat.le_of_ble_eq_true rfl) rfl rfl (fun h10 e11 f12 => ?_)
    refine mt_return dJ5_ensureCapacityInternal_d00df_38 rfl (Nat.le_of_ble_eq_true rfl) (Nat.le_of_ble_eq_true rfl) ?_
    exact ⟨rfl, by omega, ⟨n, _, _, ml, e11, (f12 (n) (by omega)).trans c9c, c9d, by omega, by omega, la, by omega, by omega, by omega, by omega⟩, fun j hj => (f12 j (by omega)).trans (c9e j (by omega))⟩
abbrev rJ6_stringSize_0f7a4 : Room := { frames := 0, cells := 0, slots := 0, locals := 0 }
set_option maxRecDepth 100000 in
set_option maxHeartbeats 2000000 in
theorem tJ6_stringSize_0f7a4_16 {l : Launch} {R : Room} {K : mK} {cc sc : Nat} {h : mH} {n : Nat} {u sg : Nat} (hu : u ≤ 2 ^ 31) (kk0 : ∀ (p : Int32) (i : Nat), (u < 10 ^ i) → (1 ≤ i ∧ i ≤ 10) → mT l mJ6_stringSize_0f7a4 R K 27 [.int (-nI u), .int (nI sg), .int p, .int (nI i)] [] h n cc sc) (kk1 : ∀ (p : Int32) (i : Nat), (1 ≤ i ∧ i ≤ 10) → mT l mJ6_stringSize_0f7a4 R K 42 [.int (-nI u), .int (nI sg), .int p, .int (nI i)] [] h n cc sc) : ∀ (N0 : Nat) (p : Int32) (i : Nat), (10 - i) < N0 → (1 ≤ i ∧ i ≤ 10) → (i < 10 → p = -nI (10 ^ i)) → mT l mJ6_stringSize_0f7a4 R K 16 [.int (-nI u), .int (nI sg), .int p, .int (nI i)] [] h n cc sc := by
  intro N0
  induction N0 with
  | zero => intro p i hm; exact absurd hm (Nat.not_lt_zero _)
  | succ N0 ih =>
    intro p i hm hi hp
    refine mt_iload_n dJ6_stringSize_0f7a4_16 rfl ?_
    refine mt_bipush dJ6_stringSize_0f7a4_17 (v := nI 10) (by decide) ?_
    refine mt_icmp_ge dJ6_stringSize_0f7a4_19 (tgt := 42) rfl (fun q1 => ?_) (fun q1 => ?_)
    · have q1 := Int32.not_lt.mpr q1
      have q1 := (not_congr (nI_ltI (by omega) (by omega))).mp q1
      exact kk1 p i hi
    · have q1 := Int32.not_le.mp q1
      have q1 := (nI_ltI (by omega) (by omega)).mp q1
      refine mt_iload_n dJ6_stringSize_0f7a4_22 rfl ?_
      refine mt_iload_n dJ6_stringSize_0f7a4_23 rfl ?_
      refine mt_icmp_le dJ6_stringSize_0f7a4_24 (tgt := 31) rfl (fun q2 => ?_) (fun q2 => ?_)
      · have q2 := Int32.not_lt.mpr q2
        refine mt_bipush dJ6_stringSize_0f7a4_31 (v := nI 10) (by decide) ?_
        refine mt_iload_n dJ6_stringSize_0f7a4_33 rfl ?_
        refine mp_imul dJ6_stringSize_0f7a4_34 (v := (nI 10) * p) rfl ?_
        refine mp_istore_n dJ6_stringSize_0f7a4_35 (ls' := [.int (-nI u), .int (nI sg), .int ((nI 10) * p), .int (nI i)]) rfl (by decide) rfl ?_
        refine mp_iinc dJ6_stringSize_0f7a4_36 rfl (v := nI (i + 1)) mI_inc (ls' := [.int (-nI u), .int (nI sg), .int ((nI 10) * p), .int (nI (i + 1))]) rfl (by decide) rfl ?_
        refine mt_goto dJ6_stringSize_0f7a4_39 (tgt := 16) rfl ?_
        exact ih ((nI 10) * p) (i + 1) (by omega) (⟨by omega, by omega⟩) (fun z => p10s (hp (by omega)))
      · have q2 := Int32.not_le.mp q2
        exact kk0 p i ((ng_lt (p10 (by omega)) hu).mp (by rw [← hp (by omega)]; exact q2)) hi
set_option maxRecDepth 100000 in
set_option maxHeartbeats 2000000 in
theorem kJ6_stringSize_0f7a4 {l : Launch} (hl : l.stackTraces = false) {h : mH} {n : Nat} {x : Int32}  : mC l mJ6_stringSize_0f7a4 rJ6_stringSize_0f7a4 [.int x] h n (fun r h' n' => ∃ d, r = some (.int (nI d)) ∧ 1 ≤ d ∧ d ≤ 11 ∧ cFit x d ∧ h' = h ∧ n' = n) (mNX) := by
  refine mm_enter hl (by decide +kernel) rfl rfl rfl (Nat.le_of_ble_eq_true rfl) ?_
  show mT _ _ _ _ 0 [.int x, .double 0, .double 0, .double 0] [] _ _ 0 0
  refine mt_iconst dJ6_stringSize_0f7a4_0 (v := nI 1) rfl ?_
  refine mp_istore_n dJ6_stringSize_0f7a4_1 (ls' := [.int x, .int (nI 1), .double 0, .double 0]) rfl (by decide) rfl ?_
  refine mt_iload_n dJ6_stringSize_0f7a4_2 rfl ?_
  refine mt_if_lt dJ6_stringSize_0f7a4_3 (tgt := 11) rfl (fun q1 => ?_) (fun q1 => ?_)
  · obtain ⟨u, u0, hu, rfl⟩ := ng_of q1
    refine mt_bipush dJ6_stringSize_0f7a4_11 (v := -10) (by decide) ?_
    refine mp_istore_n dJ6_stringSize_0f7a4_13 (ls' := [.int (-nI u), .int (nI 1), .int (-10), .double 0]) rfl (by decide) rfl ?_
    refine mt_iconst dJ6_stringSize_0f7a4_14 (v := nI 1) rfl ?_
    refine mp_istore_n dJ6_stringSize_0f7a4_15 (ls' := [.int (-nI u), .int (nI 1), .int (-10), .int (nI 1)]) rfl (by decide) rfl ?_
    refine tJ6_stringSize_0f7a4_16 hu (fun p_2 i_3 z4 z5 => ?_) (fun p_6 i_7 z8 => ?_) _ (-10) 1 (Nat.lt_succ_self _) (⟨by omega, by omega⟩) (fun _ => by decide)
    · refine mt_iload_n dJ6_stringSize_0f7a4_27 rfl ?_
      refine mt_iload_n dJ6_stringSize_0f7a4_28 rfl ?_
      refine mp_iadd dJ6_stringSize_0f7a4_29 (v := nI (i_3 + 1)) (nI_add _ _) ?_
      refine mt_ireturn dJ6_stringSize_0f7a4_30 rfl rfl (Nat.le_of_ble_eq_true rfl) (Nat.le_of_ble_eq_true rfl) ?_
      exact ⟨_, rfl, by omega, by omega, Or.inr ⟨u, i_3, rfl, u0, hu, z4, by omega, by omega⟩, rfl, rfl⟩
    · refine mt_bipush dJ6_stringSize_0f7a4_42 (v := nI 10) (by decide) ?_
      refine mt_iload_n dJ6_stringSize_0f7a4_44 rfl ?_
      refine mp_iadd dJ6_stringSize_0f7a4_45 (v := nI (10 + 1)) (nI_add _ _) ?_
      refine mt_ireturn dJ6_stringSize_0f7a4_46 rfl rfl (Nat.le_of_ble_eq_true rfl) (Nat.le_of_ble_eq_true rfl) ?_
      exact ⟨_, rfl, by omega, by omega, Or.inr ⟨u, 10, rfl, u0, hu, (by omega), by omega, by omega⟩, rfl, rfl⟩
  · obtain ⟨u, u1, rfl⟩ := nI_of q1
    have hu : u ≤ 2 ^ 31 := by omega
    refine mt_iconst dJ6_stringSize_0f7a4_6 (v := nI 0) rfl ?_
    refine mp_istore_n dJ6_stringSize_0f7a4_7 (ls' := [.int (nI u), .int (nI 0), .double 0, .double 0]) rfl (by decide) rfl ?_
    refine mt_iload_n dJ6_stringSize_0f7a4_8 rfl ?_
    refine mt_ineg dJ6_stringSize_0f7a4_9 ?_
    refine mp_istore_n dJ6_stringSize_0f7a4_10 (ls' := [.int (-nI u), .int (nI 0), .double 0, .double 0]) rfl (by decide) rfl ?_
    refine mt_bipush dJ6_stringSize_0f7a4_11 (v := -10) (by decide) ?_
    refine mp_istore_n dJ6_stringSize_0f7a4_13 (ls' := [.int (-nI u), .int (nI 0), .int (-10), .double 0]) rfl (by decide) rfl ?_
    refine mt_iconst dJ6_stringSize_0f7a4_14 (v := nI 1) rfl ?_
    refine mp_istore_n dJ6_stringSize_0f7a4_15 (ls' := [.int (-nI u), .int (nI 0), .int (-10), .int (nI 1)]) rfl (by decide) rfl ?_
    refine tJ6_stringSize_0f7a4_16 hu (fun p_9 i_10 z11 z12 => ?_) (fun p_13 i_14 z15 => ?_) _ (-10) 1 (Nat.lt_succ_self _) (⟨by omega, by omega⟩) (fun _ => by decide)
    · refine mt_iload_n dJ6_stringSize_0f7a4_27 rfl ?_
      refine mt_iload_n dJ6_stringSize_0f7a4_28 rfl ?_
      refine mp_iadd dJ6_stringSize_0f7a4_29 (v := nI (i_10 + 0)) (nI_add _ _) ?_
      refine mt_ireturn dJ6_stringSize_0f7a4_30 rfl rfl (Nat.le_of_ble_eq_true rfl) (Nat.le_of_ble_eq_true rfl) ?_
      exact ⟨_, rfl, by omega, by omega, Or.inl ⟨u, i_10, rfl, u1, z11, by omega, by omega⟩, rfl, rfl⟩
    · refine mt_bipush dJ6_stringSize_0f7a4_42 (v := nI 10) (by decide) ?_
      refine mt_iload_n dJ6_stringSize_0f7a4_44 rfl ?_
      refine mp_iadd dJ6_stringSize_0f7a4_45 (v := nI (10 + 0)) (nI_add _ _) ?_
      refine mt_ireturn dJ6_stringSize_0f7a4_46 rfl rfl (Nat.le_of_ble_eq_true rfl) (Nat.le_of_ble_eq_true rfl) ?_
      exact ⟨_, rfl, by omega, by omega, Or.inl ⟨u, 10, rfl, u1, (by omega), by omega, by omega⟩, rfl, rfl⟩
abbrev rJ6_getChars_ba4f3 : Room := { frames := 0, cells := 0, slots := 0, locals := 0 }
set_option maxRecDepth 100000 in
set_option maxHeartbeats 2000000 in
theorem tJ6_getChars_ba4f3_22 {l : Launch} {R : Room} {K : mK} {cc sc : Nat} {n v index cap sg : Nat} {h0 : mH} (c7 : cap ≤ 700) (kk0 : ∀ (h : mH) (f : Nat → Int32) (u : Nat) (p : Nat) (m : Nat), (u < 100) → (u ≤ 2 ^ 31) → (u < 10 ^ m) → (1 ≤ m) → (sg + m ≤ p) → (p ≤ cap) → (h v = .inl (1, cap, f)) → (bFit f) → (∀ j, j ≠ v → h j = h0 j) → mT l mJ6_getChars_ba4f3 R K 72 [.int (-nI u), .int (nI index), .ref v, .double 0, .double 0, .int (nI p), .int (nI sg)] [] h n cc sc) : ∀ (N0 : Nat) (h : mH) (f : Nat → Int32) (u : Nat) (p : Nat) (m : Nat), u < N0 → (u ≤ 2 ^ 31) → (u < 10 ^ m) → (1 ≤ m) → (sg + m ≤ p) → (p ≤ cap) → (h v = .inl (1, cap, f)) → (bFit f) → (∀ j, j ≠ v → h j = h0 j) → mT l mJ6_getChars_ba4f3 R K 22 [.int (-nI u), .int (nI index), .ref v, .double 0, .double 0, .int (nI p), .int (nI sg)] [] h n cc sc := by
  intro N0
  induction N0 with
  | zero => intro h f u p m hm; exact absurd hm (Nat.not_lt_zero _)
  | succ N0 ih =>
    intro h f u p m hm hu hm m1 hp hc B hf fr
    refine mt_iload_n dJ6_getChars_ba4f3_22 rfl ?_
    refine mt_bipush dJ6_getChars_ba4f3_23 (v := -100) (by decide) ?_
    refine mt_icmp_gt dJ6_getChars_ba4f3_25 (tgt := 72) rfl (fun q1 => ?_) (fun q1 => ?_)
    · exact kk0 h f u p m ((ng_lt (by decide) hu).mp (show -nI 100 < -nI u from q1)) hu hm m1 hp hc B hf fr
    · have h100 : 100 ≤ u := Nat.le_of_not_lt (fun z => q1 ((ng_lt (by decide) hu).mpr z))
      obtain ⟨m9, e9, k9, l9⟩ := dg_step h100 hm
      refine mt_iload_n dJ6_getChars_ba4f3_28 rfl ?_
      refine mt_bipush dJ6_getChars_ba4f3_29 (v := nI 100) (by decide) ?_
      refine mp_idiv dJ6_getChars_ba4f3_31 (mI_ne0 (by decide) (by decide)) (v := -nI (u / 100)) (show -nI u / nI 100 = -nI (u / 100) from ng_div hu) ?_
      refine mp_istore_n dJ6_getChars_ba4f3_32 (ls' := [.int (-nI u), .int (nI index), .ref v, .int (-nI (u / 100)), .double 0, .int (nI p), .int (nI sg)]) rfl (by decide) rfl ?_
      refine mt_iload_n dJ6_getChars_ba4f3_33 rfl ?_
      refine mt_bipush dJ6_getChars_ba4f3_34 (v := nI 100) (by decide) ?_
      refine mp_imul dJ6_getChars_ba4f3_36 (v := (-nI (u / 100)) * (nI 100)) rfl ?_
      refine mt_iload_n dJ6_getChars_ba4f3_37 rfl ?_
      refine mp_isub dJ6_getChars_ba4f3_38 (v := nI (u % 100)) (show -nI (u / 100) * nI 100 - -nI u = nI (u % 100) from ng_rem hu) ?_
      refine mp_istore dJ6_getChars_ba4f3_39 (ls' := [.int (-nI u), .int (nI index), .ref v, .int (-nI (u / 100)), .int (nI (u % 100)), .int (nI p), .int (nI sg)]) rfl (by decide) rfl ?_
      refine mt_iload_n dJ6_getChars_ba4f3_41 rfl ?_
      refine mp_istore_n dJ6_getChars_ba4f3_42 (ls' := [.int (-nI (u / 100)), .int (nI index), .ref v, .int (-nI (u / 100)), .int (nI (u % 100)), .int (nI p), .int (nI sg)]) rfl (by decide) rfl ?_
      refine mt_aload_n dJ6_getChars_ba4f3_43 rfl rfl ?_
      refine mp_iinc dJ6_getChars_ba4f3_44 rfl (v := nI (p - 1)) (mI_dec (by omega)) (ls' := [.int (-nI (u / 100)), .int (nI index), .ref v, .int (-nI (u / 100)), .int (nI (u % 100)), .int (nI (p - 1)), .int (nI sg)]) rfl (by decide) rfl ?_
      refine mt_iload dJ6_getChars_ba4f3_47 rfl ?_
      refine mt_getsO dJ6_getChars_ba4f3_49 mw_773 ?_
      refine mt_iload dJ6_getChars_ba4f3_52 rfl ?_
      refine mt_tb3 dJ6_getChars_ba4f3_54 (j := u % 100) (by omega) (fun x2 => ?_)
      refine mp_bastore dJ6_getChars_ba4f3_55 B (by omega) (by omega) (fun h3 e4 f5 => ?_)
      refine mt_aload_n dJ6_getChars_ba4f3_56 rfl rfl ?_
      refine mp_iinc dJ6_getChars_ba4f3_57 rfl (v := nI ((p - 1) - 1)) (mI_dec (by omega)) (ls' := [.int (-nI (u / 100)), .int (nI index), .ref v, .int (-nI (u / 100)), .int (nI (u % 100)), .int (nI ((p - 1) - 1)), .int (nI sg)]) rfl (by decide) rfl ?_
      refine mt_iload dJ6_getChars_ba4f3_60 rfl ?_
      refine mt_getsT dJ6_getChars_ba4f3_62 mw_775 ?_
      refine mt_iload dJ6_getChars_ba4f3_65 rfl ?_
      refine mt_tb4 dJ6_getChars_ba4f3_67 (j := u % 100) (by omega) (fun x6 => ?_)
      refine mp_bastore dJ6_getChars_ba4f3_68 e4 (by omega) (by omega) (fun h7 e8 f9 => ?_)
      refine mt_goto dJ6_getChars_ba4f3_69 (tgt := 22) rfl ?_
      refine mt_drop 3 (ls' := [.int (-nI (u / 100)), .int (nI index), .ref v, .double 0, .int (nI (u % 100)), .int (nI ((p - 1) - 1)), .int (nI sg)]) rfl ?_
      refine mt_drop 4 (ls' := [.int (-nI (u / 100)), .int (nI index), .ref v, .double 0, .double 0, .int (nI ((p - 1) - 1)), .int (nI sg)]) rfl ?_
      exact ih h7 (upd (upd f (p - 1) (vp_nar .byte x2)) ((p - 1) - 1) (vp_nar .byte x6)) (u / 100) ((p - 1) - 1) m9 (by omega) (by omega) l9 k9 (by omega) (by omega) e8 (((hf).u).u) (fun j hj => ((f9 j (by omega)).trans (f5 j (by omega))).trans (fr j hj))
set_option maxRecDepth 100000 in
set_option maxHeartbeats 2000000 in
theorem kgc_p {l : Launch} (hl : l.stackTraces = false) {h : mH} {n : Nat} {v cap index u m : Nat} {f : Nat → Int32} (c7 : cap ≤ 700) (B : h v = .inl (1, cap, f)) (hf : bFit f) (hi : index ≤ cap) (um : u < 10 ^ m) (m1 : 1 ≤ m) (hu : u ≤ 2 ^ 31) (u1 : u < 2 ^ 31) (md : m ≤ index) : mC l mJ6_getChars_ba4f3 rJ6_getChars_ba4f3 [.int (nI u), .int (nI index), .ref v] h n (fun r h' n' => ∃ y, r = some (.int y) ∧ n' = n ∧ (∃ g, h' v = .inl (1, cap, g) ∧ bFit g) ∧ ∀ j, j ≠ v → h' j = h j) (mNX) := by
  refine mm_enter hl (by decide +kernel) rfl rfl rfl (Nat.le_of_ble_eq_true rfl) ?_
  show mT _ _ _ _ 0 [.int (nI u), .int (nI index), .ref v, .double 0, .double 0, .double 0, .double 0] [] _ _ 0 0
  refine mt_iload_n dJ6_getChars_ba4f3_0 rfl ?_
  refine mp_istore dJ6_getChars_ba4f3_1 (ls' := [.int (nI u), .int (nI index), .ref v, .double 0, .double 0, .int (nI index), .double 0]) rfl (by decide) rfl ?_
  refine mt_iload_n dJ6_getChars_ba4f3_3 rfl ?_
  refine mt_if_ge dJ6_getChars_ba4f3_4 (tgt := 11) rfl (fun q1 => ?_) (fun q1 => ?_)
  · have q1 := Int32.not_lt.mpr q1
    have q1 := (not_congr (mI_lt0 (by omega))).mp q1
    refine mt_iconst dJ6_getChars_ba4f3_11 (v := nI 0) rfl ?_
    refine mp_istore dJ6_getChars_ba4f3_12 (ls' := [.int (nI u), .int (nI index), .ref v, .double 0, .double 0, .int (nI index), .int (nI 0)]) rfl (by decide) rfl ?_
    refine mt_iload dJ6_getChars_ba4f3_14 rfl ?_
    refine mt_if_ne dJ6_getChars_ba4f3_16 (tgt := 22) rfl (fun q2 => ?_) (fun q2 => ?_)
    · have q2 := (not_congr (mI_eq0 (by omega))).mp q2
      exact absurd q2 (by decide)
    · have q2 := (mI_eq0 (by omega)).mp q2
      refine mt_iload_n dJ6_getChars_ba4f3_19 rfl ?_
      refine mt_ineg dJ6_getChars_ba4f3_20 ?_
      refine mp_istore_n dJ6_getChars_ba4f3_21 (ls' := [.int (-nI u), .int (nI index), .ref v, .double 0, .double 0, .int (nI index), .int (nI 0)]) rfl (by decide) rfl ?_
      refine tJ6_getChars_ba4f3_22 c7 (fun h_3 f_4 u_5 p_6 m_7 z8 z9 z10 z11 z12 z13 z14 z15 z16 => ?_) _ h f u index m (Nat.lt_succ_self _) hu um m1 (by omega) (by omega) B hf (fun _ _ => rfl)
      refine mt_aload_n dJ6_getChars_ba4f3_72 rfl rfl ?_
      refine mp_iinc dJ6_getChars_ba4f3_73 rfl (v := nI (p_6 - 1)) (mI_dec (by omega)) (ls' := [.int (-nI u_5), .int (nI index), .ref v, .double 0, .double 0, .int (nI (p_6 - 1)), .int (nI 0)]) rfl (by decide) rfl ?_
      refine mt_iload dJ6_getChars_ba4f3_76 rfl ?_
      refine mt_getsO dJ6_getChars_ba4f3_78 mw_773 ?_
      refine mt_iload_n dJ6_getChars_ba4f3_81 rfl ?_
      refine mt_ineg dJ6_getChars_ba4f3_82 ?_
      rw [show -(-nI u_5) = nI u_5 from ng_neg _]
      refine mt_tb3 dJ6_getChars_ba4f3_83 (j := u_5) (by omega) (fun x17 => ?_)
      refine mp_bastore dJ6_getChars_ba4f3_84 z14 (by omega) (by omega) (fun h18 e19 f20 => ?_)
      refine mt_iload_n dJ6_getChars_ba4f3_85 rfl ?_
      refine mt_bipush dJ6_getChars_ba4f3_86 (v := -9) (by decide) ?_
      refine mt_icmp_ge dJ6_getChars_ba4f3_88 (tgt := 104) rfl (fun q21 => ?_) (fun q21 => ?_)
      · have q21 := Int32.not_lt.mpr q21
        refine mt_iload dJ6_getChars_ba4f3_104 rfl ?_
        refine mt_if_eq dJ6_getChars_ba4f3_106 (tgt := 118) rfl (fun q22 => ?_) (fun q22 => ?_)
        · have q22 := (mI_eq0 (by omega)).mp q22
          refine mt_iload dJ6_getChars_ba4f3_118 rfl ?_
          refine mt_ireturn dJ6_getChars_ba4f3_120 rfl rfl (Nat.le_of_ble_eq_true rfl) (Nat.le_of_ble_eq_true rfl) ?_
          exact ⟨_, rfl, rfl, ⟨_, e19, (z15).u⟩, fun j hj => (f20 j (by omega)).trans (z16 j (by omega))⟩
        · have q22 := (not_congr (mI_eq0 (by omega))).mp q22
          exact absurd q22 (by decide)
      · have q21 := Int32.not_le.mp q21
        have q9 : 9 < u_5 := (ng_lt z9 (by decide)).mp (show -nI u_5 < -nI 9 from q21)
        have m2 := dg_two q9 z10
        refine mt_aload_n dJ6_getChars_ba4f3_91 rfl rfl ?_
        refine mp_iinc dJ6_getChars_ba4f3_92 rfl (v := nI ((p_6 - 1) - 1)) (mI_dec (by omega)) (ls' := [.int (-nI u_5), .int (nI index), .ref v, .double 0, .double 0, .int (nI ((p_6 - 1) - 1)), .int (nI 0)]) rfl (by decide) rfl ?_
        refine mt_iload dJ6_getChars_ba4f3_95 rfl ?_
        refine mt_getsT dJ6_getChars_ba4f3_97 mw_775 ?_
        refine mt_iload_n dJ6_getChars_ba4f3_100 rfl ?_
        refine mt_ineg dJ6_getChars_ba4f3_101 ?_
        rw [show -(-nI u_5) = nI u_5 from ng_neg _]
        refine mt_tb4 dJ6_getChars_ba4f3_102 (j := u_5) (by omega) (fun x23 => ?_)
        refine mp_bastore dJ6_getChars_ba4f3_103 e19 (by omega) (by omega) (fun h24 e25 f26 => ?_)
        refine mt_iload dJ6_getChars_ba4f3_104 rfl ?_
        refine mt_if_eq dJ6_getChars_ba4f3_106 (tgt := 118) rfl (fun q27 => ?_) (fun q27 => ?_)
        · have q27 := (mI_eq0 (by omega)).mp q27
          refine mt_iload dJ6_getChars_ba4f3_118 rfl ?_
          refine mt_ireturn dJ6_getChars_ba4f3_120 rfl rfl (Nat.le_of_ble_eq_true rfl) (Nat.le_of_ble_eq_true rfl) ?_
          exact ⟨_, rfl, rfl, ⟨_, e25, ((z15).u).u⟩, fun j hj => (f26 j (by omega)).trans ((f20 j (by omega)).trans (z16 j (by omega)))⟩
        · have q27 := (not_congr (mI_eq0 (by omega))).mp q27
          exact absurd q27 (by decide)
  · have q1 := Int32.not_le.mp q1
    have q1 := (mI_lt0 (by omega)).mp q1
    exact q1.elim
set_option maxRecDepth 100000 in
set_option maxHeartbeats 2000000 in
theorem kgc_n {l : Launch} (hl : l.stackTraces = false) {h : mH} {n : Nat} {v cap index u m : Nat} {f : Nat → Int32} (c7 : cap ≤ 700) (B : h v = .inl (1, cap, f)) (hf : bFit f) (hi : index ≤ cap) (um : u < 10 ^ m) (m1 : 1 ≤ m) (hu : u ≤ 2 ^ 31) (u0 : 0 < u) (md : m + 1 ≤ index) : mC l mJ6_getChars_ba4f3 rJ6_getChars_ba4f3 [.int (-nI u), .int (nI index), .ref v] h n (fun r h' n' => ∃ y, r = some (.int y) ∧ n' = n ∧ (∃ g, h' v = .inl (1, cap, g) ∧ bFit g) ∧ ∀ j, j ≠ v → h' j = h j) (mNX) := by
  refine mm_enter hl (by decide +kernel) rfl rfl rfl (Nat.le_of_ble_eq_true rfl) ?_
  show mT _ _ _ _ 0 [.int (-nI u), .int (nI index), .ref v, .double 0, .double 0, .double 0, .double 0] [] _ _ 0 0
  refine mt_iload_n dJ6_getChars_ba4f3_0 rfl ?_
  refine mp_istore dJ6_getChars_ba4f3_1 (ls' := [.int (-nI u), .int (nI index), .ref v, .double 0, .double 0, .int (nI index), .double 0]) rfl (by decide) rfl ?_
  refine mt_iload_n dJ6_getChars_ba4f3_3 rfl ?_
  refine mt_if_ge dJ6_getChars_ba4f3_4 (tgt := 11) rfl (fun q1 => ?_) (fun q1 => ?_)
  · have q1 := Int32.not_lt.mpr q1
    exact absurd (ng_neg0 u0 hu) q1
  · have q1 := Int32.not_le.mp q1
    refine mt_iconst dJ6_getChars_ba4f3_7 (v := nI 1) rfl ?_
    refine mt_goto dJ6_getChars_ba4f3_8 (tgt := 12) rfl ?_
    refine mp_istore dJ6_getChars_ba4f3_12 (ls' := [.int (-nI u), .int (nI index), .ref v, .double 0, .double 0, .int (nI index), .int (nI 1)]) rfl (by decide) rfl ?_
    refine mt_iload dJ6_getChars_ba4f3_14 rfl ?_
    refine mt_if_ne dJ6_getChars_ba4f3_16 (tgt := 22) rfl (fun q2 => ?_) (fun q2 => ?_)
    · have q2 := (not_congr (mI_eq0 (by omega))).mp q2
      refine tJ6_getChars_ba4f3_22 c7 (fun h_3 f_4 u_5 p_6 m_7 z8 z9 z10 z11 z12 z13 z14 z15 z16 => ?_) _ h f u index m (Nat.lt_succ_self _) hu um m1 (by omega) (by omega) B hf (fun _ _ => rfl)
      refine mt_aload_n dJ6_getChars_ba4f3_72 rfl rfl ?_
      refine mp_iinc dJ6_getChars_ba4f3_73 rfl (v := nI (p_6 - 1)) (mI_dec (by omega)) (ls' := [.int (-nI u_5), .int (nI index), .ref v, .double 0, .double 0, .int (nI (p_6 - 1)), .int (nI 1)]) rfl (by decide) rfl ?_
      refine mt_iload dJ6_getChars_ba4f3_76 rfl ?_
      refine mt_getsO dJ6_getChars_ba4f3_78 mw_773 ?_
      refine mt_iload_n dJ6_getChars_ba4f3_81 rfl ?_
      refine mt_ineg dJ6_getChars_ba4f3_82 ?_
      rw [show -(-nI u_5) = nI u_5 from ng_neg _]
      refine mt_tb3 dJ6_getChars_ba4f3_83 (j := u_5) (by omega) (fun x17 => ?_)
      refine mp_bastore dJ6_getChars_ba4f3_84 z14 (by omega) (by omega) (fun h18 e19 f20 => ?_)
      refine mt_iload_n dJ6_getChars_ba4f3_85 rfl ?_
      refine mt_bipush dJ6_getChars_ba4f3_86 (v := -9) (by decide) ?_
      refine mt_icmp_ge dJ6_getChars_ba4f3_88 (tgt := 104) rfl (fun q21 => ?_) (fun q21 => ?_)
      · have q21 := Int32.not_lt.mpr q21
        refine mt_iload dJ6_getChars_ba4f3_104 rfl ?_
        refine mt_if_eq dJ6_getChars_ba4f3_106 (tgt := 118) rfl (fun q22 => ?_) (fun q22 => ?_)
        · have q22 := (mI_eq0 (by omega)).mp q22
          exact absurd q22 (by decide)
        · have q22 := (not_congr (mI_eq0 (by omega))).mp q22
          refine mt_aload_n dJ6_getChars_ba4f3_109 rfl rfl ?_
          refine mp_iinc dJ6_getChars_ba4f3_110 rfl (v := nI ((p_6 - 1) - 1)) (mI_dec (by omega)) (ls' := [.int (-nI u_5), .int (nI index), .ref v, .double 0, .double 0, .int (nI ((p_6 - 1) - 1)), .int (nI 1)]) rfl (by decide) rfl ?_
          refine mt_iload dJ6_getChars_ba4f3_113 rfl ?_
          refine mt_bipush dJ6_getChars_ba4f3_115 (v := nI 45) (by decide) ?_
          refine mp_bastore dJ6_getChars_ba4f3_117 e19 (by omega) (by omega) (fun h23 e24 f25 => ?_)
          refine mt_iload dJ6_getChars_ba4f3_118 rfl ?_
          refine mt_ireturn dJ6_getChars_ba4f3_120 rfl rfl (Nat.le_of_ble_eq_true rfl) (Nat.le_of_ble_eq_true rfl) ?_
          exact ⟨_, rfl, rfl, ⟨_, e24, ((z15).u).u⟩, fun j hj => (f25 j (by omega)).trans ((f20 j (by omega)).trans (z16 j (by omega)))⟩
      · have q21 := Int32.not_le.mp q21
        have q9 : 9 < u_5 := (ng_lt z9 (by decide)).mp (show -nI u_5 < -nI 9 from q21)
        have m2 := dg_two q9 z10
        refine mt_aload_n dJ6_getChars_ba4f3_91 rfl rfl ?_
        refine mp_iinc dJ6_getChars_ba4f3_92 rfl (v := nI ((p_6 - 1) - 1)) (mI_dec (by omega)) (ls' := [.int (-nI u_5), .int (nI index), .ref v, .double 0, .double 0, .int (nI ((p_6 - 1) - 1)), .int (nI 1)]) rfl (by decide) rfl ?_
        refine mt_iload dJ6_getChars_ba4f3_95 rfl ?_
        refine mt_getsT dJ6_getChars_ba4f3_97 mw_775 ?_
        refine mt_iload_n dJ6_getChars_ba4f3_100 rfl ?_
        refine mt_ineg dJ6_getChars_ba4f3_101 ?_
        rw [show -(-nI u_5) = nI u_5 from ng_neg _]
        refine mt_tb4 dJ6_getChars_ba4f3_102 (j := u_5) (by omega) (fun x26 => ?_)
        refine mp_bastore dJ6_getChars_ba4f3_103 e19 (by omega) (by omega) (fun h27 e28 f29 => ?_)
        refine mt_iload dJ6_getChars_ba4f3_104 rfl ?_
        refine mt_if_eq dJ6_getChars_ba4f3_106 (tgt := 118) rfl (fun q30 => ?_) (fun q30 => ?_)
        · have q30 := (mI_eq0 (by omega)).mp q30
          exact absurd q30 (by decide)
        · have q30 := (not_congr (mI_eq0 (by omega))).mp q30
          refine mt_aload_n dJ6_getChars_ba4f3_109 rfl rfl ?_
          refine mp_iinc dJ6_getChars_ba4f3_110 rfl (v := nI (((p_6 - 1) - 1) - 1)) (mI_dec (by omega)) (ls' := [.int (-nI u_5), .int (nI index), .ref v, .double 0, .double 0, .int (nI (((p_6 - 1) - 1) - 1)), .int (nI 1)]) rfl (by decide) rfl ?_
          refine mt_iload dJ6_getChars_ba4f3_113 rfl ?_
          refine mt_bipush dJ6_getChars_ba4f3_115 (v := nI 45) (by decide) ?_
          refine mp_bastore dJ6_getChars_ba4f3_117 e28 (by omega) (by omega) (fun h31 e32 f33 => ?_)
          refine mt_iload dJ6_getChars_ba4f3_118 rfl ?_
          refine mt_ireturn dJ6_getChars_ba4f3_120 rfl rfl (Nat.le_of_ble_eq_true rfl) (Nat.le_of_ble_eq_true rfl) ?_
          exact ⟨_, rfl, rfl, ⟨_, e32, (((z15).u).u).u⟩, fun j hj => (f33 j (by omega)).trans ((f29 j (by omega)).trans ((f20 j (by omega)).trans (z16 j (by omega))))⟩
    · have q2 := (mI_eq0 (by omega)).mp q2
      exact absurd q2 (by decide)
theorem kJ6_getChars_ba4f3 {l : Launch} (hl : l.stackTraces = false) {h : mH} {n v cap index d : Nat} {f : Nat → Int32} {x : Int32} (hc : cFit x d) (c7 : cap ≤ 700) (B : h v = .inl (1, cap, f)) (hf : bFit f) (hd : d ≤ index) (hi : index ≤ cap) : mC l mJ6_getChars_ba4f3 rJ6_getChars_ba4f3 [.int x, .int (nI index), .ref v] h n (fun r h' n' => ∃ y, r = some (.int y) ∧ n' = n ∧ (∃ g, h' v = .inl (1, cap, g) ∧ bFit g) ∧ ∀ j, j ≠ v → h' j = h j) mNX := by
  rcases hc with ⟨u, m, rfl, u1, um, m1, md⟩ | ⟨u, m, rfl, u0, u1, um, m1, md⟩
  · exact kgc_p hl c7 B hf hi um m1 (by omega) u1 (by omega)
  · exact kgc_n hl c7 B hf hi um m1 u1 u0 (by omega)

/-! ===== text: StringBuilder, safety alone ===== -/
abbrev rJ5_append_c97b9 : Room := { frames := 4, cells := 1, slots := 700, locals := 100 }
set_option maxRecDepth 100000 in
set_option maxHeartbeats 2000000 in
theorem kJ5_append_c97b9 {l : Launch} (hl : l.stackTraces = false) {h : mH} {n : Nat} {lo a c : Nat} {x : Int32} (A : sbA h lo n a c c) (q2 : c ≤ 280) : mC l mJ5_append_c97b9 rJ5_append_c97b9 [.ref a, .int x] h n (fun r h' n' => r = some (.ref a) ∧ n ≤ n' ∧ (∃ c', c ≤ c' ∧ c' ≤ c + 11 ∧ sbA h' lo n' a c' c') ∧ ∀ j, j < lo → h' j = h j) (mNX) := by
  obtain ⟨v, cap, f, ml, E, B, hf, ck, c7, la, lv, ne, an, vn⟩ := id A
  refine mm_enter hl (by decide +kernel) rfl rfl rfl (Nat.le_of_ble_eq_true rfl) ?_
  show mT _ _ _ _ 0 [.ref a, .int x, .double 0, .double 0] [] _ _ 0 0
  refine mt_aload_n dJ5_append_c97b9_0 rfl rfl ?_
  refine mt_getfield mKJ4 (i := 3) (by decide) mw_661 dJ5_append_c97b9_1 E rfl ?_
  refine mp_istore_n dJ5_append_c97b9_4 (ls' := [.ref a, .int x, .int (nI c), .double 0]) rfl (by decide) rfl ?_
  refine mt_iload_n dJ5_append_c97b9_5 rfl ?_
  refine mt_iload_n dJ5_append_c97b9_6 rfl ?_
  refine mt_callS (N := mJ6_stringSize_0f7a4) (Rc := rJ6_stringSize_0f7a4) (As := [.int x]) (st := [.int (nI c)]) dJ5_append_c97b9_7 (kJ6_stringSize_0f7a4 hl) sJ6_stringSize_0f7a4 mw_767 rfl (Nat.le_of_ble_eq_true rfl) ⟨⟨Nat.le_of_ble_eq_true rfl, Nat.le_of_ble_eq_true rfl⟩, Nat.le_of_ble_eq_true rfl, Nat.le_of_ble_eq_true rfl⟩ (fun v1 h2 n3 c4 => ?_) (fun _ _ _ hx => hx.elim)
  obtain ⟨d, c4a, d1, d2, hfit, c4b, c4c⟩ := c4
  rw [c4a, c4b, c4c]
  show mT _ _ _ _ 10 [.ref a, .int x, .int (nI c), .double 0] [.int (nI d), .int (nI c)] _ _ _ _
  refine mp_iadd dJ5_append_c97b9_10 (v := nI (c + d)) (nI_add _ _) ?_
  refine mp_istore_n dJ5_append_c97b9_11 (ls' := [.ref a, .int x, .int (nI c), .int (nI (c + d))]) rfl (by decide) rfl ?_
  refine mt_aload_n dJ5_append_c97b9_12 rfl rfl ?_
  refine mt_iload_n dJ5_append_c97b9_13 rfl ?_
  refine mt_callU (N := mJ5_ensureCapacityInternal_d00df) (Rc := rJ5_ensureCapacityInternal_d00df) (As := [.int (nI (c + d))]) (st := []) dJ5_append_c97b9_14 (kJ5_ensureCapacityInternal_d00df hl A (by omega)) uJ5_ensureCapacityInternal_d00df mw_1381 mw_678 mKJ4 E rfl (Nat.le_of_ble_eq_true rfl) ⟨⟨Nat.le_of_ble_eq_true rfl, Nat.le_of_ble_eq_true rfl⟩, Nat.le_of_ble_eq_true rfl, Nat.le_of_ble_eq_true rfl⟩ (fun v5 h6 n7 c8 => ?_) (fun _ _ _ hx => hx.elim)
  obtain ⟨c8a, c8b, ⟨v2, cap2, f2, ml2, E2, B2, hf2, ck2, c72, la2, lv2, ne2, an2, vn2⟩, c8d⟩ := c8
  rw [c8a]
  show mT _ _ _ _ 17 [.ref a, .int x, .int (nI c), .int (nI (c + d))] [] _ _ _ _
  refine mt_aload_n dJ5_append_c97b9_17 rfl rfl ?_
  refine mt_callU (N := mJ5_isLatin1_aae02) (Rc := rJ5_isLatin1_aae02) (As := []) (st := []) dJ5_append_c97b9_18 (kJ5_isLatin1_aae02 hl E2) uJ5_isLatin1_aae02 mw_710 mw_707 mKJ4 E2 rfl (Nat.le_of_ble_eq_true rfl) ⟨⟨Nat.le_of_ble_eq_true rfl, Nat.le_of_ble_eq_true rfl⟩, Nat.le_of_ble_eq_true rfl, Nat.le_of_ble_eq_true rfl⟩ (fun v9 h10 n11 c12 => ?_) (fun _ _ _ hx => hx.elim)
  obtain ⟨c12a, c12b, c12c⟩ := c12
  rw [c12a, c12b, c12c]
  show mT _ _ _ _ 21 [.ref a, .int x, .int (nI c), .int (nI (c + d))] [.int (nI 1)] _ _ _ _
  refine mt_if_eq dJ5_append_c97b9_21 (tgt := 37) rfl (fun q13 => ?_) (fun q13 => ?_)
  · have q13 := (mI_eq0 (by omega)).mp q13
    exact absurd q13 (by decide)
  · have q13 := (not_congr (mI_eq0 (by omega))).mp q13
    refine mt_iload_n dJ5_append_c97b9_24 rfl ?_
    refine mt_iload_n dJ5_append_c97b9_25 rfl ?_
    refine mt_aload_n dJ5_append_c97b9_26 rfl rfl ?_
    refine mt_getfield mKJ4 (i := 0) (by decide) mw_658 dJ5_append_c97b9_27 E2 rfl ?_
    refine mt_callS (N := mJ6_getChars_ba4f3) (Rc := rJ6_getChars_ba4f3) (As := [.int x, .int (nI (c + d)), .ref v2]) (st := []) dJ5_append_c97b9_30 (kJ6_getChars_ba4f3 hl hfit c72 B2 hf2 (by omega) (by omega)) sJ6_getChars_ba4f3 mw_770 rfl (Nat.le_of_ble_eq_true rfl) ⟨⟨Nat.le_of_ble_eq_true rfl, Nat.le_of_ble_eq_true rfl⟩, Nat.le_of_ble_eq_true rfl, Nat.le_of_ble_eq_true rfl⟩ (fun v14 h15 n16 c17 => ?_) (fun _ _ _ hx => hx.elim)
    obtain ⟨yc17, c17a, c17b, ⟨gc17, c17c, c17d⟩, c17e⟩ := c17
    rw [c17a, c17b]
    show mT _ _ _ _ 33 [.ref a, .int x, .int (nI c), .int (nI (c + d))] [.int yc17] _ _ _ _
    refine mt_pop dJ5_append_c97b9_33 rfl ?_
    refine mt_goto dJ5_append_c97b9_34 (tgt := 48) rfl ?_
    refine mt_aload_n dJ5_append_c97b9_48 rfl rfl ?_
    refine mt_iload_n dJ5_append_c97b9_49 rfl ?_
    refine mp_putfield mKJ4 (i := 3) (fs' := [.ref v2, .int (nI 0), .int ml2, .int (nI (c + d))]) (by decide) mw_661 rfl dJ5_append_c97b9_50 ((c17e (a) (by omega)).trans E2) (Nat.le_of_ble_eq_true rfl) rfl rfl (fun h18 e19 f20 => ?_)
    refine mt_aload_n dJ5_append_c97b9_53 rfl rfl ?_
    refine mt_areturn dJ5_append_c97b9_54 rfl (by first | exact Or.inl ⟨_, rfl⟩ | exact Or.inr ⟨_, rfl⟩) rfl (Nat.le_of_ble_eq_true rfl) (Nat.le_of_ble_eq_true rfl) ?_
    exact ⟨rfl, by omega, ⟨c + d, by omega, by omega, v2, cap2, _, ml2, e19, (f20 (v2) (by omega)).trans c17c, c17d, by omega, c72, la2, lv2, ne2, an2, vn2⟩, fun j hj => (f20 j (by omega)).trans ((c17e j (by omega)).trans (c8d j (by omega)))⟩
abbrev rJ5_append_3fe6f : Room := { frames := 4, cells := 1, slots := 700, locals := 100 }
set_option maxRecDepth 100000 in
set_option maxHeartbeats 2000000 in
theorem kJ5_append_3fe6f {l : Launch} (hl : l.stackTraces = false) {h : mH} {n : Nat} {lo a c : Nat} (A : sbA h lo n a c c) (q2 : c ≤ 280) : mC l mJ5_append_3fe6f rJ5_append_3fe6f [.ref a, .int (nI 32)] h n (fun r h' n' => r = some (.ref a) ∧ n ≤ n' ∧ (∃ c', c ≤ c' ∧ c' ≤ c + 1 ∧ sbA h' lo n' a c' c') ∧ ∀ j, j < lo → h' j = h j) (mNX) := by
  obtain ⟨v, cap, f, ml, E, B, hf, ck, c7, la, lv, ne, an, vn⟩ := id A
  refine mm_enter hl (by decide +kernel) rfl rfl rfl (Nat.le_of_ble_eq_true rfl) ?_
  show mT _ _ _ _ 0 [.ref a, .int (nI 32)] [] _ _ 0 0
  refine mt_aload_n dJ5_append_3fe6f_0 rfl rfl ?_
  refine mt_aload_n dJ5_append_3fe6f_1 rfl rfl ?_
  refine mt_getfield mKJ4 (i := 3) (by decide) mw_661 dJ5_append_3fe6f_2 E rfl ?_
  refine mt_iconst dJ5_append_3fe6f_5 (v := nI 1) rfl ?_
  refine mp_iadd dJ5_append_3fe6f_6 (v := nI (c + 1)) (nI_add _ _) ?_
  refine mt_callU (N := mJ5_ensureCapacityInternal_d00df) (Rc := rJ5_ensureCapacityInternal_d00df) (As := [.int (nI (c + 1))]) (st := []) dJ5_append_3fe6f_7 (kJ5_ensureCapacityInternal_d00df hl A (by omega)) uJ5_ensureCapacityInternal_d00df mw_1381 mw_678 mKJ4 E rfl (Nat.le_of_ble_eq_true rfl) ⟨⟨Nat.le_of_ble_eq_true rfl, Nat.le_of_ble_eq_true rfl⟩, Nat.le_of_ble_eq_true rfl, Nat.le_of_ble_eq_true rfl⟩ (fun v1 h2 n3 c4 => ?_) (fun _ _ _ hx => hx.elim)
  obtain ⟨c4a, c4b, ⟨v2, cap2, f2, ml2, E2, B2, hf2, ck2, c72, la2, lv2, ne2, an2, vn2⟩, c4d⟩ := c4
  rw [c4a]
  show mT _ _ _ _ 10 [.ref a, .int (nI 32)] [] _ _ _ _
  refine mt_aload_n dJ5_append_3fe6f_10 rfl rfl ?_
  refine mt_callU (N := mJ5_isLatin1_aae02) (Rc := rJ5_isLatin1_aae02) (As := []) (st := []) dJ5_append_3fe6f_11 (kJ5_isLatin1_aae02 hl E2) uJ5_isLatin1_aae02 mw_710 mw_707 mKJ4 E2 rfl (Nat.le_of_ble_eq_true rfl) ⟨⟨Nat.le_of_ble_eq_true rfl, Nat.le_of_ble_eq_true rfl⟩, Nat.le_of_ble_eq_true rfl, Nat.le_of_ble_eq_true rfl⟩ (fun v5 h6 n7 c8 => ?_) (fun _ _ _ hx => hx.elim)
  obtain ⟨c8a, c8b, c8c⟩ := c8
  rw [c8a, c8b, c8c]
  show mT _ _ _ _ 14 [.ref a, .int (nI 32)] [.int (nI 1)] _ _ _ _
  refine mt_if_eq dJ5_append_3fe6f_14 (tgt := 45) rfl (fun q9 => ?_) (fun q9 => ?_)
  · have q9 := (mI_eq0 (by omega)).mp q9
    exact absurd q9 (by decide)
  · have q9 := (not_congr (mI_eq0 (by omega))).mp q9
    refine mt_iload_n dJ5_append_3fe6f_17 rfl ?_
    refine mt_callS (N := mJ1_canEncode_fc78d) (Rc := rJ1_canEncode_fc78d) (As := [.int (nI 32)]) (st := []) dJ5_append_3fe6f_18 (kJ1_canEncode_fc78d hl) sJ1_canEncode_fc78d mw_712 rfl (Nat.le_of_ble_eq_true rfl) ⟨⟨Nat.le_of_ble_eq_true rfl, Nat.le_of_ble_eq_true rfl⟩, Nat.le_of_ble_eq_true rfl, Nat.le_of_ble_eq_true rfl⟩ (fun v10 h11 n12 c13 => ?_) (fun _ _ _ hx => hx.elim)
    obtain ⟨c13a, c13b, c13c⟩ := c13
    rw [c13a, c13b, c13c]
    show mT _ _ _ _ 21 [.ref a, .int (nI 32)] [.int (nI 1)] _ _ _ _
    refine mt_if_eq dJ5_append_3fe6f_21 (tgt := 45) rfl (fun q14 => ?_) (fun q14 => ?_)
    · have q14 := (mI_eq0 (by omega)).mp q14
      exact absurd q14 (by decide)
    · have q14 := (not_congr (mI_eq0 (by omega))).mp q14
      refine mt_aload_n dJ5_append_3fe6f_24 rfl rfl ?_
      refine mt_getfield mKJ4 (i := 0) (by decide) mw_658 dJ5_append_3fe6f_25 E2 rfl ?_
      refine mt_aload_n dJ5_append_3fe6f_28 rfl rfl ?_
      refine mt_dup dJ5_append_3fe6f_29 rfl ?_
      refine mt_getfield mKJ4 (i := 3) (by decide) mw_661 dJ5_append_3fe6f_30 E2 rfl ?_
      refine mt_dup_x1 dJ5_append_3fe6f_33 rfl rfl ?_
      refine mt_iconst dJ5_append_3fe6f_34 (v := nI 1) rfl ?_
      refine mp_iadd dJ5_append_3fe6f_35 (v := nI (c + 1)) (nI_add _ _) ?_
      refine mp_putfield mKJ4 (i := 3) (fs' := [.ref v2, .int (nI 0), .int ml2, .int (nI (c + 1))]) (by decide) mw_661 rfl dJ5_append_3fe6f_36 E2 (Nat.le_of_ble_eq_true rfl) rfl rfl (fun h15 e16 f17 => ?_)
      refine mt_iload_n dJ5_append_3fe6f_39 rfl ?_
      refine mt_i2b dJ5_append_3fe6f_40 ?_
      refine mp_bastore dJ5_append_3fe6f_41 ((f17 (v2) (by omega)).trans B2) (by omega) (by omega) (fun h18 e19 f20 => ?_)
      refine mt_goto dJ5_append_3fe6f_42 (tgt := 75) rfl ?_
      refine mt_aload_n dJ5_append_3fe6f_75 rfl rfl ?_
      refine mt_areturn dJ5_append_3fe6f_76 rfl (by first | exact Or.inl ⟨_, rfl⟩ | exact Or.inr ⟨_, rfl⟩) rfl (Nat.le_of_ble_eq_true rfl) (Nat.le_of_ble_eq_true rfl) ?_
      exact ⟨rfl, by omega, ⟨c + 1, by omega, by omega, v2, cap2, _, ml2, (f20 (a) (by omega)).trans e16, e19, (hf2).u, by omega, c72, la2, lv2, ne2, an2, vn2⟩, fun j hj => (f20 j (by omega)).trans ((f17 j (by omega)).trans (c4d j (by omega)))⟩
abbrev rJ5_inflateIfNeededFor_a7421 : Room := { frames := 1, cells := 0, slots := 0, locals := 20 }
set_option maxRecDepth 100000 in
set_option maxHeartbeats 2000000 in
theorem kJ5_inflateIfNeededFor_a7421 {l : Launch} (hl : l.stackTraces = false) {h : mH} {n : Nat} {a v c : Nat} {ml : Int32} (E : h a = .inr (.inr (1, [.ref v, .int (nI 0), .int ml, .int (nI c)]))) : mC l mJ5_inflateIfNeededFor_a7421 rJ5_inflateIfNeededFor_a7421 [.ref a, .retAddr 1] h n (fun r h' n' => r = none ∧ h' = h ∧ n' = n) (mNX) := by
  refine mm_enter hl (by decide +kernel) rfl rfl rfl (Nat.le_of_ble_eq_true rfl) ?_
  show mT _ _ _ _ 0 [.ref a, .retAddr 1] [] _ _ 0 0
  refine mt_getsC dJ5_inflateIfNeededFor_a7421_0 mw_649 ?_
  refine mt_if_eq dJ5_inflateIfNeededFor_a7421_3 (tgt := 21) rfl (fun q1 => ?_) (fun q1 => ?_)
  · have q1 := (mI_eq0 (by omega)).mp q1
    exact absurd q1 (by decide)
  · have q1 := (not_congr (mI_eq0 (by omega))).mp q1
    refine mt_aload_n dJ5_inflateIfNeededFor_a7421_6 rfl rfl ?_
    refine mt_getfield mKJ4 (i := 1) (by decide) mw_659 dJ5_inflateIfNeededFor_a7421_7 E rfl ?_
    refine mt_aload_n dJ5_inflateIfNeededFor_a7421_10 rfl rfl ?_
    refine mt_callX (N := mJ0_coder_7d493) (Rc := rJ0_coder_7d493) (As := []) (st := [.int (nI 0)]) dJ5_inflateIfNeededFor_a7421_11 (kJ0_coder_7d493 hl) sJ0_coder_7d493 mw_866 rfl rfl (Nat.le_of_ble_eq_true rfl) ⟨⟨Nat.le_of_ble_eq_true rfl, Nat.le_of_ble_eq_true rfl⟩, Nat.le_of_ble_eq_true rfl, Nat.le_of_ble_eq_true rfl⟩ (fun v2 h3 n4 c5 => ?_) (fun _ _ _ hx => hx.elim)
    obtain ⟨c5a, c5b, c5c⟩ := c5
    rw [c5a, c5b, c5c]
    show mT _ _ _ _ 14 [.ref a, .retAddr 1] [.int (nI 0), .int (nI 0)] _ _ _ _
    refine mt_icmp_eq dJ5_inflateIfNeededFor_a7421_14 (tgt := 21) rfl (fun q6 => ?_) (fun q6 => ?_)
    · have q6 := (nI_eq (by omega) (by omega)).mp q6
      refine mt_return dJ5_inflateIfNeededFor_a7421_21 rfl (Nat.le_of_ble_eq_true rfl) (Nat.le_of_ble_eq_true rfl) ?_
      exact ⟨rfl, rfl, rfl⟩
    · have q6 := (not_congr (nI_eq (by omega) (by omega))).mp q6
      exact absurd q6 (by decide)
abbrev rJ0_getBytes_840e7 : Room := { frames := 1, cells := 0, slots := 0, locals := 30 }
set_option maxRecDepth 100000 in
set_option maxHeartbeats 2000000 in
theorem kJ0_getBytes_840e7 {l : Launch} (hl : l.stackTraces = false) {h : mH} {n : Nat} {v c cap : Nat} {f : Nat → Int32} (B : h v = .inl (1, cap, f)) (hf : bFit f) (q1 : c < cap) (c7 : cap ≤ 700) : mC l mJ0_getBytes_840e7 rJ0_getBytes_840e7 [.retAddr 1, .ref v, .int (nI c), .int (nI 0)] h n (fun r h' n' => r = none ∧ n' = n ∧ (∃ g, h' v = .inl (1, cap, g) ∧ bFit g) ∧ ∀ j, j ≠ v → h' j = h j) (mNX) := by
  refine mm_enter hl (by decide +kernel) rfl rfl rfl (Nat.le_of_ble_eq_true rfl) ?_
  show mT _ _ _ _ 0 [.retAddr 1, .ref v, .int (nI c), .int (nI 0)] [] _ _ 0 0
  refine mt_aload_n dJ0_getBytes_840e7_0 rfl rfl ?_
  refine mt_callX (N := mJ0_coder_7d493) (Rc := rJ0_coder_7d493) (As := []) (st := []) dJ0_getBytes_840e7_1 (kJ0_coder_7d493 hl) sJ0_coder_7d493 mw_853 rfl rfl (Nat.le_of_ble_eq_true rfl) ⟨⟨Nat.le_of_ble_eq_true rfl, Nat.le_of_ble_eq_true rfl⟩, Nat.le_of_ble_eq_true rfl, Nat.le_of_ble_eq_true rfl⟩ (fun v1 h2 n3 c4 => ?_) (fun _ _ _ hx => hx.elim)
  obtain ⟨c4a, c4b, c4c⟩ := c4
  rw [c4a, c4b, c4c]
  show mT _ _ _ _ 4 [.retAddr 1, .ref v, .int (nI c), .int (nI 0)] [.int (nI 0)] _ _ _ _
  refine mt_iload_n dJ0_getBytes_840e7_4 rfl ?_
  refine mt_icmp_ne dJ0_getBytes_840e7_5 (tgt := 28) rfl (fun q5 => ?_) (fun q5 => ?_)
  · have q5 := (not_congr (nI_eq (by omega) (by omega))).mp q5
    exact absurd q5 (by decide)
  · have q5 := (nI_eq (by omega) (by omega)).mp q5
    refine mt_aload_n dJ0_getBytes_840e7_8 rfl rfl ?_
    refine mt_xvalue dJ0_getBytes_840e7_9 mw_888 ?_
    refine mt_iconst dJ0_getBytes_840e7_12 (v := nI 0) rfl ?_
    refine mt_aload_n dJ0_getBytes_840e7_13 rfl rfl ?_
    refine mt_iload_n dJ0_getBytes_840e7_14 rfl ?_
    refine mt_iload_n dJ0_getBytes_840e7_15 rfl ?_
    refine mt_ishl0 dJ0_getBytes_840e7_16 ?_
    refine mt_aload_n dJ0_getBytes_840e7_17 rfl rfl ?_
    refine mt_xvalue dJ0_getBytes_840e7_18 mw_888 ?_
    refine mt_xlenB dJ0_getBytes_840e7_21 ?_
    refine mp_xcopy dJ0_getBytes_840e7_22 mw_871 mw_156 mw_155 mw_42 B hf (by omega) (by omega) (Nat.le_of_ble_eq_true rfl) ⟨Nat.le_of_ble_eq_true rfl, Nat.le_of_ble_eq_true rfl⟩ (fun g6 h8 b7 e9 f10 => ?_)
    refine mt_goto dJ0_getBytes_840e7_25 (tgt := 43) rfl ?_
    refine mt_return dJ0_getBytes_840e7_43 rfl (Nat.le_of_ble_eq_true rfl) (Nat.le_of_ble_eq_true rfl) ?_
    exact ⟨rfl, rfl, ⟨_, e9, b7⟩, fun j hj => f10 j (by omega)⟩
abbrev rJ5_putStringAt_47b60 : Room := { frames := 2, cells := 0, slots := 0, locals := 53 }
set_option maxRecDepth 100000 in
set_option maxHeartbeats 2000000 in
theorem kJ5_putStringAt_47b60 {l : Launch} (hl : l.stackTraces = false) {h : mH} {n : Nat} {a v c i cap : Nat} {ml : Int32} {f : Nat → Int32} (E : h a = .inr (.inr (1, [.ref v, .int (nI 0), .int ml, .int (nI c)]))) (B : h v = .inl (1, cap, f)) (hf : bFit f) (ne : a ≠ v) (q1 : i < cap) (c7 : cap ≤ 700) : mC l mJ5_putStringAt_47b60 rJ5_putStringAt_47b60 [.ref a, .int (nI i), .retAddr 1] h n (fun r h' n' => r = none ∧ n' = n ∧ (∃ g, h' v = .inl (1, cap, g) ∧ bFit g) ∧ ∀ j, j ≠ v → h' j = h j) (mNX) := by
  refine mm_enter hl (by decide +kernel) rfl rfl rfl (Nat.le_of_ble_eq_true rfl) ?_
  show mT _ _ _ _ 0 [.ref a, .int (nI i), .retAddr 1] [] _ _ 0 0
  refine mt_aload_n dJ5_putStringAt_47b60_0 rfl rfl ?_
  refine mt_aload_n dJ5_putStringAt_47b60_1 rfl rfl ?_
  refine mt_callU (N := mJ5_inflateIfNeededFor_a7421) (Rc := rJ5_inflateIfNeededFor_a7421) (As := [.retAddr 1]) (st := []) dJ5_putStringAt_47b60_2 (kJ5_inflateIfNeededFor_a7421 hl E) uJ5_inflateIfNeededFor_a7421 mw_1384 mw_862 mKJ4 E rfl (Nat.le_of_ble_eq_true rfl) ⟨⟨Nat.le_of_ble_eq_true rfl, Nat.le_of_ble_eq_true rfl⟩, Nat.le_of_ble_eq_true rfl, Nat.le_of_ble_eq_true rfl⟩ (fun v1 h2 n3 c4 => ?_) (fun _ _ _ hx => hx.elim)
  obtain ⟨c4a, c4b, c4c⟩ := c4
  rw [c4a, c4b, c4c]
  show mT _ _ _ _ 5 [.ref a, .int (nI i), .retAddr 1] [] _ _ _ _
  refine mt_aload_n dJ5_putStringAt_47b60_5 rfl rfl ?_
  refine mt_aload_n dJ5_putStringAt_47b60_6 rfl rfl ?_
  refine mt_getfield mKJ4 (i := 0) (by decide) mw_658 dJ5_putStringAt_47b60_7 E rfl ?_
  refine mt_iload_n dJ5_putStringAt_47b60_10 rfl ?_
  refine mt_aload_n dJ5_putStringAt_47b60_11 rfl rfl ?_
  refine mt_getfield mKJ4 (i := 1) (by decide) mw_659 dJ5_putStringAt_47b60_12 E rfl ?_
  refine mt_callX (N := mJ0_getBytes_840e7) (Rc := rJ0_getBytes_840e7) (As := [.ref v, .int (nI i), .int (nI 0)]) (st := []) dJ5_putStringAt_47b60_15 (kJ0_getBytes_840e7 hl B hf (by omega) (by omega)) sJ0_getBytes_840e7 mw_867 rfl rfl (Nat.le_of_ble_eq_true rfl) ⟨⟨Nat.le_of_ble_eq_true rfl, Nat.le_of_ble_eq_true rfl⟩, Nat.le_of_ble_eq_true rfl, Nat.le_of_ble_eq_true rfl⟩ (fun v5 h6 n7 c8 => ?_) (fun _ _ _ hx => hx.elim)
  obtain ⟨c8a, c8b, ⟨gc8, c8c, c8d⟩, c8e⟩ := c8
  rw [c8a, c8b]
  show mT _ _ _ _ 18 [.ref a, .int (nI i), .retAddr 1] [] _ _ _ _
  refine mt_return dJ5_putStringAt_47b60_18 rfl (Nat.le_of_ble_eq_true rfl) (Nat.le_of_ble_eq_true rfl) ?_
  exact ⟨rfl, rfl, ⟨_, c8c, c8d⟩, fun j hj => c8e j (by omega)⟩
abbrev rJ5_append_cf1ce : Room := { frames := 4, cells := 1, slots := 700, locals := 100 }
set_option maxRecDepth 100000 in
set_option maxHeartbeats 2000000 in
theorem kJ5_append_cf1ce {l : Launch} (hl : l.stackTraces = false) {h : mH} {n : Nat} {lo a c : Nat} (A : sbA h lo n a c c) (q2 : c ≤ 280) : mC l mJ5_append_cf1ce rJ5_append_cf1ce [.ref a, .retAddr 1] h n (fun r h' n' => r = some (.ref a) ∧ n ≤ n' ∧ (∃ c', c ≤ c' ∧ c' ≤ c + 1 ∧ sbA h' lo n' a c' c') ∧ ∀ j, j < lo → h' j = h j) (mNX) := by
  obtain ⟨v, cap, f, ml, E, B, hf, ck, c7, la, lv, ne, an, vn⟩ := id A
  refine mm_enter hl (by decide +kernel) rfl rfl rfl (Nat.le_of_ble_eq_true rfl) ?_
  show mT _ _ _ _ 0 [.ref a, .retAddr 1, .double 0] [] _ _ 0 0
  refine mt_aload_n dJ5_append_cf1ce_0 rfl rfl ?_
  refine mt_ifnonnullX dJ5_append_cf1ce_1 (tgt := 9) rfl ?_
  refine mt_aload_n dJ5_append_cf1ce_9 rfl rfl ?_
  refine mt_callX (N := mJ0_length_8abf5) (Rc := rJ0_length_8abf5) (As := []) (st := []) dJ5_append_cf1ce_10 (kJ0_length_8abf5 hl) sJ0_length_8abf5 mw_849 rfl rfl (Nat.le_of_ble_eq_true rfl) ⟨⟨Nat.le_of_ble_eq_true rfl, Nat.le_of_ble_eq_true rfl⟩, Nat.le_of_ble_eq_true rfl, Nat.le_of_ble_eq_true rfl⟩ (fun v1 h2 n3 c4 => ?_) (fun _ _ _ hx => hx.elim)
  obtain ⟨c4a, c4b, c4c⟩ := c4
  rw [c4a, c4b, c4c]
  show mT _ _ _ _ 13 [.ref a, .retAddr 1, .double 0] [.int (nI 1)] _ _ _ _
  refine mp_istore_n dJ5_append_cf1ce_13 (ls' := [.ref a, .retAddr 1, .int (nI 1)]) rfl (by decide) rfl ?_
  refine mt_aload_n dJ5_append_cf1ce_14 rfl rfl ?_
  refine mt_aload_n dJ5_append_cf1ce_15 rfl rfl ?_
  refine mt_getfield mKJ4 (i := 3) (by decide) mw_661 dJ5_append_cf1ce_16 E rfl ?_
  refine mt_iload_n dJ5_append_cf1ce_19 rfl ?_
  refine mp_iadd dJ5_append_cf1ce_20 (v := nI (c + 1)) (nI_add _ _) ?_
  refine mt_callU (N := mJ5_ensureCapacityInternal_d00df) (Rc := rJ5_ensureCapacityInternal_d00df) (As := [.int (nI (c + 1))]) (st := []) dJ5_append_cf1ce_21 (kJ5_ensureCapacityInternal_d00df hl A (by omega)) uJ5_ensureCapacityInternal_d00df mw_1381 mw_678 mKJ4 E rfl (Nat.le_of_ble_eq_true rfl) ⟨⟨Nat.le_of_ble_eq_true rfl, Nat.le_of_ble_eq_true rfl⟩, Nat.le_of_ble_eq_true rfl, Nat.le_of_ble_eq_true rfl⟩ (fun v5 h6 n7 c8 => ?_) (fun _ _ _ hx => hx.elim)
  obtain ⟨c8a, c8b, ⟨v2, cap2, f2, ml2, E2, B2, hf2, ck2, c72, la2, lv2, ne2, an2, vn2⟩, c8d⟩ := c8
  rw [c8a]
  show mT _ _ _ _ 24 [.ref a, .retAddr 1, .int (nI 1)] [] _ _ _ _
  refine mt_aload_n dJ5_append_cf1ce_24 rfl rfl ?_
  refine mt_aload_n dJ5_append_cf1ce_25 rfl rfl ?_
  refine mt_getfield mKJ4 (i := 3) (by decide) mw_661 dJ5_append_cf1ce_26 E2 rfl ?_
  refine mt_aload_n dJ5_append_cf1ce_29 rfl rfl ?_
  refine mt_callU (N := mJ5_putStringAt_47b60) (Rc := rJ5_putStringAt_47b60) (As := [.int (nI c), .retAddr 1]) (st := []) dJ5_append_cf1ce_30 (kJ5_putStringAt_47b60 hl E2 B2 hf2 (by omega) (by omega) (by omega)) uJ5_putStringAt_47b60 mw_1383 mw_858 mKJ4 E2 rfl (Nat.le_of_ble_eq_true rfl) ⟨⟨Nat.le_of_ble_eq_true rfl, Nat.le_of_ble_eq_true rfl⟩, Nat.le_of_ble_eq_true rfl, Nat.le_of_ble_eq_true rfl⟩ (fun v9 h10 n11 c12 => ?_) (fun _ _ _ hx => hx.elim)
  obtain ⟨c12a, c12b, ⟨gc12, c12c, c12d⟩, c12e⟩ := c12
  rw [c12a, c12b]
  show mT _ _ _ _ 33 [.ref a, .retAddr 1, .int (nI 1)] [] _ _ _ _
  refine mt_aload_n dJ5_append_cf1ce_33 rfl rfl ?_
  refine mt_dup dJ5_append_cf1ce_34 rfl ?_
  refine mt_getfield mKJ4 (i := 3) (by decide) mw_661 dJ5_append_cf1ce_35 ((c12e (a) (by omega)).trans E2) rfl ?_
  refine mt_iload_n dJ5_append_cf1ce_38 rfl ?_
  refine mp_iadd dJ5_append_cf1ce_39 (v := nI (c + 1)) (nI_add _ _) ?_
  refine mp_putfield mKJ4 (i := 3) (fs' := [.ref v2, .int (nI 0), .int ml2, .int (nI (c + 1))]) (by decide) mw_661 rfl dJ5_append_cf1ce_40 ((c12e (a) (by omega)).trans E2) (Nat.le_of_ble_eq_true rfl) rfl rfl (fun h13 e14 f15 => ?_)
  refine mt_aload_n dJ5_append_cf1ce_43 rfl rfl ?_
  refine mt_areturn dJ5_append_cf1ce_44 rfl (by first | exact Or.inl ⟨_, rfl⟩ | exact Or.inr ⟨_, rfl⟩) rfl (Nat.le_of_ble_eq_true rfl) (Nat.le_of_ble_eq_true rfl) ?_
  exact ⟨rfl, by omega, ⟨c + 1, by omega, by omega, v2, cap2, _, ml2, e14, (f15 (v2) (by omega)).trans c12c, c12d, by omega, c72, la2, lv2, ne2, an2, vn2⟩, fun j hj => (f15 j (by omega)).trans ((c12e j (by omega)).trans (c8d j (by omega)))⟩
abbrev rJ4_append_bf812 : Room := { frames := 5, cells := 1, slots := 700, locals := 123 }
set_option maxRecDepth 100000 in
set_option maxHeartbeats 2000000 in
theorem kJ4_append_bf812 {l : Launch} (hl : l.stackTraces = false) {h : mH} {n : Nat} {lo a c : Nat} {x : Int32} (A : sbA h lo n a c c) (q2 : c ≤ 280) : mC l mJ4_append_bf812 rJ4_append_bf812 [.ref a, .int x] h n (fun r h' n' => r = some (.ref a) ∧ n ≤ n' ∧ (∃ c', c ≤ c' ∧ c' ≤ c + 11 ∧ sbA h' lo n' a c' c') ∧ ∀ j, j < lo → h' j = h j) (mNX) := by
  obtain ⟨v, cap, f, ml, E, B, hf, ck, c7, la, lv, ne, an, vn⟩ := id A
  refine mm_enter hl (by decide +kernel) rfl rfl rfl (Nat.le_of_ble_eq_true rfl) ?_
  show mT _ _ _ _ 0 [.ref a, .int x] [] _ _ 0 0
  refine mt_aload_n dJ4_append_bf812_0 rfl rfl ?_
  refine mt_iload_n dJ4_append_bf812_1 rfl ?_
  refine mt_callSU (N := mJ5_append_c97b9) (Rc := rJ5_append_c97b9) (As := [.int x]) (st := []) dJ4_append_bf812_2 (kJ5_append_c97b9 hl A (by omega)) uJ5_append_c97b9 (by decide) mw_764 mw_1376 mw_670 mKJ4 E rfl (Nat.le_of_ble_eq_true rfl) ⟨⟨Nat.le_of_ble_eq_true rfl, Nat.le_of_ble_eq_true rfl⟩, Nat.le_of_ble_eq_true rfl, Nat.le_of_ble_eq_true rfl⟩ (fun v1 h2 n3 c4 => ?_) (fun _ _ _ hx => hx.elim)
  obtain ⟨c4a, c4b, ⟨cc4, c4c, c4d, Ac4⟩, c4e⟩ := c4
  rw [c4a]
  obtain ⟨vz5, cz5, fz5, mz5, ez5, -⟩ := id Ac4
  show mT _ _ _ _ 5 [.ref a, .int x] [.ref a] _ _ _ _
  refine mt_pop dJ4_append_bf812_5 rfl ?_
  refine mt_aload_n dJ4_append_bf812_6 rfl rfl ?_
  refine mt_areturn dJ4_append_bf812_7 rfl (by first | exact Or.inl ⟨_, rfl⟩ | exact Or.inr ⟨_, rfl⟩) rfl (Nat.le_of_ble_eq_true rfl) (Nat.le_of_ble_eq_true rfl) ?_
  exact ⟨rfl, c4b, ⟨cc4, c4c, c4d, Ac4⟩, c4e⟩
abbrev rJ4_append_cf468 : Room := { frames := 5, cells := 1, slots := 700, locals := 121 }
set_option maxRecDepth 100000 in
set_option maxHeartbeats 2000000 in
theorem kJ4_append_cf468 {l : Launch} (hl : l.stackTraces = false) {h : mH} {n : Nat} {lo a c : Nat} (A : sbA h lo n a c c) (q2 : c ≤ 280) : mC l mJ4_append_cf468 rJ4_append_cf468 [.ref a, .int (nI 32)] h n (fun r h' n' => r = some (.ref a) ∧ n ≤ n' ∧ (∃ c', c ≤ c' ∧ c' ≤ c + 1 ∧ sbA h' lo n' a c' c') ∧ ∀ j, j < lo → h' j = h j) (mNX) := by
  obtain ⟨v, cap, f, ml, E, B, hf, ck, c7, la, lv, ne, an, vn⟩ := id A
  refine mm_enter hl (by decide +kernel) rfl rfl rfl (Nat.le_of_ble_eq_true rfl) ?_
  show mT _ _ _ _ 0 [.ref a, .int (nI 32)] [] _ _ 0 0
  refine mt_aload_n dJ4_append_cf468_0 rfl rfl ?_
  refine mt_iload_n dJ4_append_cf468_1 rfl ?_
  refine mt_callSU (N := mJ5_append_3fe6f) (Rc := rJ5_append_3fe6f) (As := [.int (nI 32)]) (st := []) dJ4_append_cf468_2 (kJ5_append_3fe6f hl A (by omega)) uJ5_append_3fe6f (by decide) mw_675 mw_1372 mw_670 mKJ4 E rfl (Nat.le_of_ble_eq_true rfl) ⟨⟨Nat.le_of_ble_eq_true rfl, Nat.le_of_ble_eq_true rfl⟩, Nat.le_of_ble_eq_true rfl, Nat.le_of_ble_eq_true rfl⟩ (fun v1 h2 n3 c4 => ?_) (fun _ _ _ hx => hx.elim)
  obtain ⟨c4a, c4b, ⟨cc4, c4c, c4d, Ac4⟩, c4e⟩ := c4
  rw [c4a]
  obtain ⟨vz5, cz5, fz5, mz5, ez5, -⟩ := id Ac4
  show mT _ _ _ _ 5 [.ref a, .int (nI 32)] [.ref a] _ _ _ _
  refine mt_pop dJ4_append_cf468_5 rfl ?_
  refine mt_aload_n dJ4_append_cf468_6 rfl rfl ?_
  refine mt_areturn dJ4_append_cf468_7 rfl (by first | exact Or.inl ⟨_, rfl⟩ | exact Or.inr ⟨_, rfl⟩) rfl (Nat.le_of_ble_eq_true rfl) (Nat.le_of_ble_eq_true rfl) ?_
  exact ⟨rfl, c4b, ⟨cc4, c4c, c4d, Ac4⟩, c4e⟩
abbrev rJ4_append_15ec4 : Room := { frames := 5, cells := 1, slots := 700, locals := 122 }
set_option maxRecDepth 100000 in
set_option maxHeartbeats 2000000 in
theorem kJ4_append_15ec4 {l : Launch} (hl : l.stackTraces = false) {h : mH} {n : Nat} {lo a c : Nat} (A : sbA h lo n a c c) (q2 : c ≤ 280) : mC l mJ4_append_15ec4 rJ4_append_15ec4 [.ref a, .retAddr 1] h n (fun r h' n' => r = some (.ref a) ∧ n ≤ n' ∧ (∃ c', c ≤ c' ∧ c' ≤ c + 1 ∧ sbA h' lo n' a c' c') ∧ ∀ j, j < lo → h' j = h j) (mNX) := by
  obtain ⟨v, cap, f, ml, E, B, hf, ck, c7, la, lv, ne, an, vn⟩ := id A
  refine mm_enter hl (by decide +kernel) rfl rfl rfl (Nat.le_of_ble_eq_true rfl) ?_
  show mT _ _ _ _ 0 [.ref a, .retAddr 1] [] _ _ 0 0
  refine mt_aload_n dJ4_append_15ec4_0 rfl rfl ?_
  refine mt_aload_n dJ4_append_15ec4_1 rfl rfl ?_
  refine mt_callSU (N := mJ5_append_cf1ce) (Rc := rJ5_append_cf1ce) (As := [.retAddr 1]) (st := []) dJ4_append_15ec4_2 (kJ5_append_cf1ce hl A (by omega)) uJ5_append_cf1ce (by decide) mw_839 mw_1377 mw_670 mKJ4 E rfl (Nat.le_of_ble_eq_true rfl) ⟨⟨Nat.le_of_ble_eq_true rfl, Nat.le_of_ble_eq_true rfl⟩, Nat.le_of_ble_eq_true rfl, Nat.le_of_ble_eq_true rfl⟩ (fun v1 h2 n3 c4 => ?_) (fun _ _ _ hx => hx.elim)
  obtain ⟨c4a, c4b, ⟨cc4, c4c, c4d, Ac4⟩, c4e⟩ := c4
  rw [c4a]
  obtain ⟨vz5, cz5, fz5, mz5, ez5, -⟩ := id Ac4
  show mT _ _ _ _ 5 [.ref a, .retAddr 1] [.ref a] _ _ _ _
  refine mt_pop dJ4_append_15ec4_5 rfl ?_
  refine mt_aload_n dJ4_append_15ec4_6 rfl rfl ?_
  refine mt_areturn dJ4_append_15ec4_7 rfl (by first | exact Or.inl ⟨_, rfl⟩ | exact Or.inr ⟨_, rfl⟩) rfl (Nat.le_of_ble_eq_true rfl) (Nat.le_of_ble_eq_true rfl) ?_
  exact ⟨rfl, c4b, ⟨cc4, c4c, c4d, Ac4⟩, c4e⟩
abbrev rJ5_init_d00df : Room := { frames := 1, cells := 1, slots := 16, locals := 30 }
set_option maxRecDepth 100000 in
set_option maxHeartbeats 2000000 in
theorem kJ5_init_d00df {l : Launch} (hl : l.stackTraces = false) {h : mH} {n : Nat} {a : Nat} (E : h a = .inr (.inr (1, [.null, .int (nI 0), .int (nI 0), .int (nI 0)]))) (an : a < n) : mC l mJ5_init_d00df rJ5_init_d00df [.ref a, .int (nI 16)] h n (fun r h' n' => r = none ∧ n ≤ n' ∧ sbA h' a n' a 0 0 ∧ ∀ j, j < a → h' j = h j) (mNX) := by
  refine mm_enter hl (by decide +kernel) rfl rfl rfl (Nat.le_of_ble_eq_true rfl) ?_
  show mT _ _ _ _ 0 [.ref a, .int (nI 16)] [] _ _ 0 0
  refine mt_aload_n dJ5_init_d00df_0 rfl rfl ?_
  refine mt_objInit dJ5_init_d00df_1 mw_648 mw_58 mw_59 (Nat.le_of_ble_eq_true rfl) ⟨Nat.le_of_ble_eq_true rfl, Nat.le_of_ble_eq_true rfl⟩ ?_
  refine mt_getsC dJ5_init_d00df_4 mw_649 ?_
  refine mt_if_eq dJ5_init_d00df_7 (tgt := 25) rfl (fun q1 => ?_) (fun q1 => ?_)
  · have q1 := (mI_eq0 (by omega)).mp q1
    exact absurd q1 (by decide)
  · have q1 := (not_congr (mI_eq0 (by omega))).mp q1
    refine mt_aload_n dJ5_init_d00df_10 rfl rfl ?_
    refine mt_iload_n dJ5_init_d00df_11 rfl ?_
    refine mp_newarrayB dJ5_init_d00df_12 mw_300 (by omega) (Nat.le_of_ble_eq_true rfl) (Nat.le_of_ble_eq_true rfl) (fun h2 e3 f4 => ?_)
    refine mp_putfield mKJ4 (i := 0) (fs' := [.ref n, .int (nI 0), .int (nI 0), .int (nI 0)]) (by decide) mw_658 rfl dJ5_init_d00df_14 ((f4 (a) (by omega)).trans E) (Nat.le_of_ble_eq_true rfl) rfl rfl (fun h5 e6 f7 => ?_)
    refine mt_aload_n dJ5_init_d00df_17 rfl rfl ?_
    refine mt_iconst dJ5_init_d00df_18 (v := nI 0) rfl ?_
    refine mp_putI mKJ4 (i := 1) (fs' := [.ref n, .int (nI 0), .int (nI 0), .int (nI 0)]) (by decide) mw_659 rfl dJ5_init_d00df_19 e6 (Nat.le_of_ble_eq_true rfl) rfl rfl rfl (fun h8 e9 f10 => ?_)
    refine mt_goto dJ5_init_d00df_22 (tgt := 38) rfl ?_
    refine mt_return dJ5_init_d00df_38 rfl (Nat.le_of_ble_eq_true rfl) (Nat.le_of_ble_eq_true rfl) ?_
    exact ⟨rfl, by omega, ⟨n, 16, _, nI 0, e9, (f10 (n) (by omega)).trans ((f7 (n) (by omega)).trans e3), bFit0, by omega, by omega, Nat.le_refl _, by omega, by omega, by omega, by omega⟩, fun j hj => (f10 j (by omega)).trans ((f7 j (by omega)).trans (f4 j (by omega)))⟩
abbrev rJ4_init_da8c8 : Room := { frames := 2, cells := 1, slots := 16, locals := 51 }
set_option maxRecDepth 100000 in
set_option maxHeartbeats 2000000 in
theorem kJ4_init_da8c8 {l : Launch} (hl : l.stackTraces = false) {h : mH} {n : Nat} {a : Nat} (E : h a = .inr (.inr (1, [.null, .int (nI 0), .int (nI 0), .int (nI 0)]))) (an : a < n) : mC l mJ4_init_da8c8 rJ4_init_da8c8 [.ref a] h n (fun r h' n' => r = none ∧ n ≤ n' ∧ sbA h' a n' a 0 0 ∧ ∀ j, j < a → h' j = h j) (mNX) := by
  refine mm_enter hl (by decide +kernel) rfl rfl rfl (Nat.le_of_ble_eq_true rfl) ?_
  show mT _ _ _ _ 0 [.ref a] [] _ _ 0 0
  refine mt_aload_n dJ4_init_da8c8_0 rfl rfl ?_
  refine mt_bipush dJ4_init_da8c8_1 (v := nI 16) (by decide) ?_
  refine mt_callI (N := mJ5_init_d00df) (Rc := rJ5_init_d00df) (As := [.int (nI 16)]) (st := []) dJ4_init_da8c8_3 (kJ5_init_d00df hl E (by omega)) sJ5_init_d00df mw_645 rfl (Nat.le_of_ble_eq_true rfl) ⟨⟨Nat.le_of_ble_eq_true rfl, Nat.le_of_ble_eq_true rfl⟩, Nat.le_of_ble_eq_true rfl, Nat.le_of_ble_eq_true rfl⟩ (fun v1 h2 n3 c4 => ?_)
  obtain ⟨c4a, c4b, c4c, c4d⟩ := c4
  rw [c4a]
  obtain ⟨vz5, cz5, fz5, mz5, ez5, -⟩ := id c4c
  show mT _ _ _ _ 6 [.ref a] [] _ _ _ _
  refine mt_return dJ4_init_da8c8_6 rfl (Nat.le_of_ble_eq_true rfl) (Nat.le_of_ble_eq_true rfl) ?_
  exact ⟨rfl, c4b, c4c, c4d⟩
abbrev rJ7_checkLength_df160 : Room := { frames := 0, cells := 0, slots := 0, locals := 0 }
set_option maxRecDepth 100000 in
set_option maxHeartbeats 2000000 in
theorem kJ7_checkLength_df160 {l : Launch} (hl : l.stackTraces = false) {h : mH} {n : Nat} {c : Nat} (c7 : c ≤ 700) : mC l mJ7_checkLength_df160 rJ7_checkLength_df160 [.int (nI 0), .int (nI c)] h n (fun r h' n' => r = none ∧ h' = h ∧ n' = n) (mNX) := by
  refine mm_enter hl (by decide +kernel) rfl rfl rfl (Nat.le_of_ble_eq_true rfl) ?_
  show mT _ _ _ _ 0 [.int (nI 0), .int (nI c)] [] _ _ 0 0
  refine mt_iload_n dJ7_checkLength_df160_0 rfl ?_
  refine mt_iload_n dJ7_checkLength_df160_1 rfl ?_
  refine mt_icmp_ge dJ7_checkLength_df160_2 (tgt := 37) rfl (fun q1 => ?_) (fun q1 => ?_)
  · have q1 := Int32.not_lt.mpr q1
    have q1 := (not_congr (nI_ltI (by omega) (by omega))).mp q1
    refine mt_return dJ7_checkLength_df160_37 rfl (Nat.le_of_ble_eq_true rfl) (Nat.le_of_ble_eq_true rfl) ?_
    exact ⟨rfl, rfl, rfl⟩
  · have q1 := Int32.not_le.mp q1
    have q1 := (nI_ltI (by omega) (by omega)).mp q1
    exfalso
    omega
abbrev rJ7_copyOfRangeByte_39247 : Room := { frames := 1, cells := 1, slots := 700, locals := 30 }
set_option maxRecDepth 100000 in
set_option maxHeartbeats 2000000 in
theorem kJ7_copyOfRangeByte_39247 {l : Launch} (hl : l.stackTraces = false) {h : mH} {n : Nat} {v c cap : Nat} {f : Nat → Int32} (B : h v = .inl (1, cap, f)) (hf : bFit f) (hv : v < n) (ck : c ≤ cap) (c7 : cap ≤ 700) : mC l mJ7_copyOfRangeByte_39247 rJ7_copyOfRangeByte_39247 [.ref v, .int (nI 0), .int (nI c)] h n (fun r h' n' => r = some (.ref n) ∧ n' = n + 1 ∧ ∀ j, j ≠ n → h' j = h j) (mNX) := by
  refine mm_enter hl (by decide +kernel) rfl rfl rfl (Nat.le_of_ble_eq_true rfl) ?_
  show mT _ _ _ _ 0 [.ref v, .int (nI 0), .int (nI c), .double 0, .double 0] [] _ _ 0 0
  refine mt_iload_n dJ7_copyOfRangeByte_39247_0 rfl ?_
  refine mt_iload_n dJ7_copyOfRangeByte_39247_1 rfl ?_
  refine mt_callS (N := mJ7_checkLength_df160) (Rc := rJ7_checkLength_df160) (As := [.int (nI 0), .int (nI c)]) (st := []) dJ7_copyOfRangeByte_39247_2 (kJ7_checkLength_df160 hl (by omega)) sJ7_checkLength_df160 mw_827 rfl (Nat.le_of_ble_eq_true rfl) ⟨⟨Nat.le_of_ble_eq_true rfl, Nat.le_of_ble_eq_true rfl⟩, Nat.le_of_ble_eq_true rfl, Nat.le_of_ble_eq_true rfl⟩ (fun v1 h2 n3 c4 => ?_) (fun _ _ _ hx => hx.elim)
  obtain ⟨c4a, c4b, c4c⟩ := c4
  rw [c4a, c4b, c4c]
  show mT _ _ _ _ 5 [.ref v, .int (nI 0), .int (nI c), .double 0, .double 0] [] _ _ _ _
  refine mt_iload_n dJ7_copyOfRangeByte_39247_5 rfl ?_
  refine mt_iload_n dJ7_copyOfRangeByte_39247_6 rfl ?_
  refine mp_isub dJ7_copyOfRangeByte_39247_7 (v := nI (c - 0)) (pk_sub (by omega)) ?_
  refine mp_istore_n dJ7_copyOfRangeByte_39247_8 (ls' := [.ref v, .int (nI 0), .int (nI c), .int (nI (c - 0)), .double 0]) rfl (by decide) rfl ?_
  refine mt_iload_n dJ7_copyOfRangeByte_39247_9 rfl ?_
  refine mp_newarrayB dJ7_copyOfRangeByte_39247_10 mw_300 (by omega) (by simp only [rJ7_copyOfRangeByte_39247]; omega) (by simp only [rJ7_copyOfRangeByte_39247]; omega) (fun h5 e6 f7 => ?_)
  refine mp_astore dJ7_copyOfRangeByte_39247_12 (ls' := [.ref v, .int (nI 0), .int (nI c), .int (nI (c - 0)), .ref n]) rfl rfl (by decide) rfl ?_
  refine mt_aload_n dJ7_copyOfRangeByte_39247_14 rfl rfl ?_
  refine mt_iload_n dJ7_copyOfRangeByte_39247_15 rfl ?_
  refine mt_aload dJ7_copyOfRangeByte_39247_16 rfl rfl ?_
  refine mt_iconst dJ7_copyOfRangeByte_39247_18 (v := nI 0) rfl ?_
  refine mt_aload_n dJ7_copyOfRangeByte_39247_19 rfl rfl ?_
  refine mt_alen dJ7_copyOfRangeByte_39247_20 ((f7 (v) (by omega)).trans B) (by decide) ?_
  refine mt_iload_n dJ7_copyOfRangeByte_39247_21 rfl ?_
  refine mp_isub dJ7_copyOfRangeByte_39247_22 (v := nI (cap - 0)) (pk_sub (by omega)) ?_
  refine mt_iload_n dJ7_copyOfRangeByte_39247_23 rfl ?_
  refine mt_mmin dJ7_copyOfRangeByte_39247_24 mw_705 mw_152 mw_41 (mw_min) (Nat.le_of_ble_eq_true rfl) ⟨Nat.le_of_ble_eq_true rfl, Nat.le_of_ble_eq_true rfl⟩ (by simp only [rJ7_copyOfRangeByte_39247]; omega) (by simp only [rJ7_copyOfRangeByte_39247]; omega) (v := nI (min (cap - 0) (c - 0))) (mI_min (by omega) (by omega)) ?_
  refine mp_acopyB dJ7_copyOfRangeByte_39247_27 mw_706 mw_156 mw_155 mw_42 ((f7 (v) (by omega)).trans B) e6 hf (by omega) (by omega) (by omega) (by omega) (Nat.le_of_ble_eq_true rfl) ⟨Nat.le_of_ble_eq_true rfl, Nat.le_of_ble_eq_true rfl⟩ (fun h8 e9 f10 => ?_)
  refine mt_aload dJ7_copyOfRangeByte_39247_30 rfl rfl ?_
  refine mt_areturn dJ7_copyOfRangeByte_39247_32 rfl (by first | exact Or.inl ⟨_, rfl⟩ | exact Or.inr ⟨_, rfl⟩) rfl (by simp only [rJ7_copyOfRangeByte_39247]; omega) (by simp only [rJ7_copyOfRangeByte_39247]; omega) ?_
  exact ⟨rfl, rfl, fun j hj => (f10 j (by omega)).trans (f7 j (by omega))⟩
abbrev rJ7_copyOfRange_39247 : Room := { frames := 2, cells := 1, slots := 700, locals := 54 }
set_option maxRecDepth 100000 in
set_option maxHeartbeats 2000000 in
theorem kJ7_copyOfRange_39247 {l : Launch} (hl : l.stackTraces = false) {h : mH} {n : Nat} {v c cap : Nat} {f : Nat → Int32} (B : h v = .inl (1, cap, f)) (hf : bFit f) (hv : v < n) (ck : c ≤ cap) (c7 : cap ≤ 700) : mC l mJ7_copyOfRange_39247 rJ7_copyOfRange_39247 [.ref v, .int (nI 0), .int (nI c)] h n (fun r h' n' => r = some (.ref n) ∧ n' = n + 1 ∧ ∀ j, j ≠ n → h' j = h j) (mNX) := by
  refine mm_enter hl (by decide +kernel) rfl rfl rfl (Nat.le_of_ble_eq_true rfl) ?_
  show mT _ _ _ _ 0 [.ref v, .int (nI 0), .int (nI c)] [] _ _ 0 0
  refine mt_iload_n dJ7_copyOfRange_39247_0 rfl ?_
  refine mt_if_ne dJ7_copyOfRange_39247_1 (tgt := 10) rfl (fun q1 => ?_) (fun q1 => ?_)
  · have q1 := (not_congr (mI_eq0 (by omega))).mp q1
    exact absurd q1 (by decide)
  · have q1 := (mI_eq0 (by omega)).mp q1
    refine mt_iload_n dJ7_copyOfRange_39247_4 rfl ?_
    refine mt_aload_n dJ7_copyOfRange_39247_5 rfl rfl ?_
    refine mt_alen dJ7_copyOfRange_39247_6 B (by decide) ?_
    refine mt_icmp_eq dJ7_copyOfRange_39247_7 (tgt := 17) rfl (fun q2 => ?_) (fun q2 => ?_)
    · have q2 := (nI_eq (by omega) (by omega)).mp q2
      refine mt_aload_n dJ7_copyOfRange_39247_17 rfl rfl ?_
      refine mp_cloneB dJ7_copyOfRange_39247_18 mw_698 B hf (Nat.le_of_ble_eq_true rfl) ⟨Nat.le_of_ble_eq_true rfl, Nat.le_of_ble_eq_true rfl⟩ (by simp only [rJ7_copyOfRange_39247]; omega) (by simp only [rJ7_copyOfRange_39247]; omega) (fun h3 e4 f5 => ?_)
      refine mt_castB dJ7_copyOfRange_39247_21 mw_704 e4 ?_
      refine mt_areturn dJ7_copyOfRange_39247_24 rfl (by first | exact Or.inl ⟨_, rfl⟩ | exact Or.inr ⟨_, rfl⟩) rfl (by simp only [rJ7_copyOfRange_39247]; omega) (by simp only [rJ7_copyOfRange_39247]; omega) ?_
      exact ⟨rfl, rfl, fun j hj => f5 j (by omega)⟩
    · have q2 := (not_congr (nI_eq (by omega) (by omega))).mp q2
      refine mt_aload_n dJ7_copyOfRange_39247_10 rfl rfl ?_
      refine mt_iload_n dJ7_copyOfRange_39247_11 rfl ?_
      refine mt_iload_n dJ7_copyOfRange_39247_12 rfl ?_
      refine mt_callS (N := mJ7_copyOfRangeByte_39247) (Rc := rJ7_copyOfRangeByte_39247) (As := [.ref v, .int (nI 0), .int (nI c)]) (st := []) dJ7_copyOfRange_39247_13 (kJ7_copyOfRangeByte_39247 hl B hf hv ck c7) sJ7_copyOfRangeByte_39247 mw_824 rfl (Nat.le_of_ble_eq_true rfl) ⟨⟨Nat.le_of_ble_eq_true rfl, Nat.le_of_ble_eq_true rfl⟩, Nat.le_of_ble_eq_true rfl, Nat.le_of_ble_eq_true rfl⟩ (fun v6 h7 n8 c9 => ?_) (fun _ _ _ hx => hx.elim)
      obtain ⟨c9a, c9b, c9e⟩ := c9
      rw [c9a, c9b]
      show mT _ _ _ _ 16 [.ref v, .int (nI 0), .int (nI c)] [.ref n] _ _ _ _
      refine mt_areturn dJ7_copyOfRange_39247_16 rfl (by first | exact Or.inl ⟨_, rfl⟩ | exact Or.inr ⟨_, rfl⟩) rfl (Nat.le_of_ble_eq_true rfl) (Nat.le_of_ble_eq_true rfl) ?_
      exact ⟨rfl, rfl, fun j hj => c9e j (by omega)⟩
abbrev rJ0_init_db425 : Room := { frames := 3, cells := 1, slots := 700, locals := 76 }
set_option maxRecDepth 100000 in
set_option maxHeartbeats 2000000 in
theorem kJ0_init_db425 {l : Launch} (hl : l.stackTraces = false) {h : mH} {n : Nat} {b a v c cap : Nat} {ml : Int32} {f : Nat → Int32} (Es : h b = .inr (.inr (0, [.null, .int (nI 0), .int (nI 0), .int (nI 0)]))) (E : h a = .inr (.inr (1, [.ref v, .int (nI 0), .int ml, .int (nI c)]))) (B : h v = .inl (1, cap, f)) (hf : bFit f) (ab : a < b) (vb : v < b) (bn : b < n) (ck : c ≤ cap) (c7 : cap ≤ 700) : mC l mJ0_init_db425 rJ0_init_db425 [.ref b, .ref a, .null] h n (fun r h' n' => r = none ∧ n ≤ n' ∧ ∀ j, j < b → h' j = h j) (mNX) := by
  refine mm_enter hl (by decide +kernel) rfl rfl rfl (Nat.le_of_ble_eq_true rfl) ?_
  show mT _ _ _ _ 0 [.ref b, .ref a, .null, .double 0, .double 0] [] _ _ 0 0
  refine mt_aload_n dJ0_init_db425_0 rfl rfl ?_
  refine mt_objInit dJ0_init_db425_1 mw_806 mw_58 mw_59 (Nat.le_of_ble_eq_true rfl) ⟨Nat.le_of_ble_eq_true rfl, Nat.le_of_ble_eq_true rfl⟩ ?_
  refine mt_aload_n dJ0_init_db425_4 rfl rfl ?_
  refine mt_callU (N := mJ5_getValue_6d5f1) (Rc := rJ5_getValue_6d5f1) (As := []) (st := []) dJ0_init_db425_5 (kJ5_getValue_6d5f1 hl E) uJ5_getValue_6d5f1 mw_810 mw_807 mKJ4 E rfl (Nat.le_of_ble_eq_true rfl) ⟨⟨Nat.le_of_ble_eq_true rfl, Nat.le_of_ble_eq_true rfl⟩, Nat.le_of_ble_eq_true rfl, Nat.le_of_ble_eq_true rfl⟩ (fun v1 h2 n3 c4 => ?_) (fun _ _ _ hx => hx.elim)
  obtain ⟨c4a, c4b, c4c⟩ := c4
  rw [c4a, c4b, c4c]
  show mT _ _ _ _ 8 [.ref b, .ref a, .null, .double 0, .double 0] [.ref v] _ _ _ _
  refine mp_astore_n dJ0_init_db425_8 (ls' := [.ref b, .ref a, .null, .ref v, .double 0]) rfl rfl (by decide) rfl ?_
  refine mt_aload_n dJ0_init_db425_9 rfl rfl ?_
  refine mt_callO (N := mJ4_length_8abf5) (Rc := rJ4_length_8abf5) (As := []) (st := []) dJ0_init_db425_10 (kJ4_length_8abf5 hl E) uJ4_length_8abf5 mw_815 mw_812 mw_814 mw_813 mw_819 rfl ⟨by decide, by decide⟩ mKJ4 E rfl (Nat.le_of_ble_eq_true rfl) ⟨⟨Nat.le_of_ble_eq_true rfl, Nat.le_of_ble_eq_true rfl⟩, Nat.le_of_ble_eq_true rfl, Nat.le_of_ble_eq_true rfl⟩ (fun v5 h6 n7 c8 => ?_) (fun _ _ _ hx => hx.elim)
  obtain ⟨c8a, c8b, c8c⟩ := c8
  rw [c8a, c8b, c8c]
  show mT _ _ _ _ 13 [.ref b, .ref a, .null, .ref v, .double 0] [.int (nI c)] _ _ _ _
  refine mp_istore dJ0_init_db425_13 (ls' := [.ref b, .ref a, .null, .ref v, .int (nI c)]) rfl (by decide) rfl ?_
  refine mt_aload_n dJ0_init_db425_15 rfl rfl ?_
  refine mt_callU (N := mJ5_isLatin1_aae02) (Rc := rJ5_isLatin1_aae02) (As := []) (st := []) dJ0_init_db425_16 (kJ5_isLatin1_aae02 hl E) uJ5_isLatin1_aae02 mw_710 mw_820 mKJ4 E rfl (Nat.le_of_ble_eq_true rfl) ⟨⟨Nat.le_of_ble_eq_true rfl, Nat.le_of_ble_eq_true rfl⟩, Nat.le_of_ble_eq_true rfl, Nat.le_of_ble_eq_true rfl⟩ (fun v9 h10 n11 c12 => ?_) (fun _ _ _ hx => hx.elim)
  obtain ⟨c12a, c12b, c12c⟩ := c12
  rw [c12a, c12b, c12c]
  show mT _ _ _ _ 19 [.ref b, .ref a, .null, .ref v, .int (nI c)] [.int (nI 1)] _ _ _ _
  refine mt_if_eq dJ0_init_db425_19 (tgt := 41) rfl (fun q13 => ?_) (fun q13 => ?_)
  · have q13 := (mI_eq0 (by omega)).mp q13
    exact absurd q13 (by decide)
  · have q13 := (not_congr (mI_eq0 (by omega))).mp q13
    refine mt_aload_n dJ0_init_db425_22 rfl rfl ?_
    refine mt_iconst dJ0_init_db425_23 (v := nI 0) rfl ?_
    refine mp_putFI mKJ0 (i := 1) (fs' := [.null, .int (nI 0), .int (nI 0), .int (nI 0)]) (by decide) mw_889 rfl rfl rfl dJ0_init_db425_24 Es (Nat.le_of_ble_eq_true rfl) rfl rfl rfl (fun h14 e15 f16 => ?_)
    refine mt_aload_n dJ0_init_db425_27 rfl rfl ?_
    refine mt_aload_n dJ0_init_db425_28 rfl rfl ?_
    refine mt_iconst dJ0_init_db425_29 (v := nI 0) rfl ?_
    refine mt_iload dJ0_init_db425_30 rfl ?_
    refine mt_callS (N := mJ7_copyOfRange_39247) (Rc := rJ7_copyOfRange_39247) (As := [.ref v, .int (nI 0), .int (nI c)]) (st := [.ref b]) dJ0_init_db425_32 (kJ7_copyOfRange_39247 hl ((f16 (v) (by omega)).trans B) hf (by omega) (by omega) (by omega)) sJ7_copyOfRange_39247 mw_821 rfl (Nat.le_of_ble_eq_true rfl) ⟨⟨Nat.le_of_ble_eq_true rfl, Nat.le_of_ble_eq_true rfl⟩, Nat.le_of_ble_eq_true rfl, Nat.le_of_ble_eq_true rfl⟩ (fun v17 h18 n19 c20 => ?_) (fun _ _ _ hx => hx.elim)
    obtain ⟨c20a, c20b, c20e⟩ := c20
    rw [c20a, c20b]
    show mT _ _ _ _ 35 [.ref b, .ref a, .null, .ref v, .int (nI c)] [.ref n, .ref b] _ _ _ _
    refine mp_putfinal mKJ0 (i := 0) (fs' := [.ref n, .int (nI 0), .int (nI 0), .int (nI 0)]) (by decide) mw_888 rfl rfl rfl dJ0_init_db425_35 ((c20e (b) (by omega)).trans e15) (Nat.le_of_ble_eq_true rfl) rfl rfl (fun h21 e22 f23 => ?_)
    refine mt_goto dJ0_init_db425_38 (tgt := 97) rfl ?_
    refine mt_return dJ0_init_db425_97 rfl (Nat.le_of_ble_eq_true rfl) (Nat.le_of_ble_eq_true rfl) ?_
    exact ⟨rfl, by omega, fun j hj => (f23 j (by omega)).trans ((c20e j (by omega)).trans (f16 j (by omega)))⟩
abbrev rJ0_init_81219 : Room := { frames := 4, cells := 1, slots := 700, locals := 100 }
set_option maxRecDepth 100000 in
set_option maxHeartbeats 2000000 in
theorem kJ0_init_81219 {l : Launch} (hl : l.stackTraces = false) {h : mH} {n : Nat} {b a v c cap : Nat} {ml : Int32} {f : Nat → Int32} (Es : h b = .inr (.inr (0, [.null, .int (nI 0), .int (nI 0), .int (nI 0)]))) (E : h a = .inr (.inr (1, [.ref v, .int (nI 0), .int ml, .int (nI c)]))) (B : h v = .inl (1, cap, f)) (hf : bFit f) (ab : a < b) (vb : v < b) (bn : b < n) (ck : c ≤ cap) (c7 : cap ≤ 700) : mC l mJ0_init_81219 rJ0_init_81219 [.ref b, .ref a] h n (fun r h' n' => r = none ∧ n ≤ n' ∧ ∀ j, j < b → h' j = h j) (mNX) := by
  refine mm_enter hl (by decide +kernel) rfl rfl rfl (Nat.le_of_ble_eq_true rfl) ?_
  show mT _ _ _ _ 0 [.ref b, .ref a] [] _ _ 0 0
  refine mt_aload_n dJ0_init_81219_0 rfl rfl ?_
  refine mt_aload_n dJ0_init_81219_1 rfl rfl ?_
  refine mt_aconst_null dJ0_init_81219_2 ?_
  refine mt_callI (N := mJ0_init_db425) (Rc := rJ0_init_db425) (As := [.ref a, .null]) (st := []) dJ0_init_81219_3 (kJ0_init_db425 hl Es E B hf (by omega) (by omega) (by omega) (by omega) (by omega)) sJ0_init_db425 mw_803 rfl (Nat.le_of_ble_eq_true rfl) ⟨⟨Nat.le_of_ble_eq_true rfl, Nat.le_of_ble_eq_true rfl⟩, Nat.le_of_ble_eq_true rfl, Nat.le_of_ble_eq_true rfl⟩ (fun v1 h2 n3 c4 => ?_)
  obtain ⟨c4a, c4b, c4d⟩ := c4
  rw [c4a]
  show mT _ _ _ _ 6 [.ref b, .ref a] [] _ _ _ _
  refine mt_return dJ0_init_81219_6 rfl (Nat.le_of_ble_eq_true rfl) (Nat.le_of_ble_eq_true rfl) ?_
  exact ⟨rfl, by omega, fun j hj => c4d j (by omega)⟩
abbrev rJ4_toString_0e30d : Room := { frames := 5, cells := 2, slots := 704, locals := 121 }
set_option maxRecDepth 100000 in
set_option maxHeartbeats 2000000 in
theorem kJ4_toString_0e30d {l : Launch} (hl : l.stackTraces = false) {h : mH} {n : Nat} {lo a c : Nat} (A : sbA h lo n a c c) : mC l mJ4_toString_0e30d rJ4_toString_0e30d [.ref a] h n (fun r h' n' => r = some (.ref n) ∧ n ≤ n' ∧ ∀ j, j < n → h' j = h j) (mNX) := by
  obtain ⟨v, cap, f, ml, E, B, hf, ck, c7, la, lv, ne, an, vn⟩ := id A
  refine mm_enter hl (by decide +kernel) rfl rfl rfl (Nat.le_of_ble_eq_true rfl) ?_
  show mT _ _ _ _ 0 [.ref a] [] _ _ 0 0
  refine mp_new mKJ0 dJ4_toString_0e30d_0 mw_798 mw_799 mw_45 (fs := [.null, .int (nI 0), .int (nI 0), .int (nI 0)]) mDJ0 (mdf_ok rfl) (Nat.le_of_ble_eq_true rfl) (Nat.le_of_ble_eq_true rfl) (fun h1 e2 f3 => ?_)
  refine mt_dup dJ4_toString_0e30d_3 rfl ?_
  refine mt_aload_n dJ4_toString_0e30d_4 rfl rfl ?_
  refine mt_callI (N := mJ0_init_81219) (Rc := rJ0_init_81219) (As := [.ref a]) (st := [.ref n]) dJ4_toString_0e30d_5 (kJ0_init_81219 hl e2 ((f3 (a) (by omega)).trans E) ((f3 (v) (by omega)).trans B) hf (by omega) (by omega) (by omega) (by omega) (by omega)) sJ0_init_81219 mw_800 rfl (Nat.le_of_ble_eq_true rfl) ⟨⟨Nat.le_of_ble_eq_true rfl, Nat.le_of_ble_eq_true rfl⟩, Nat.le_of_ble_eq_true rfl, Nat.le_of_ble_eq_true rfl⟩ (fun v4 h5 n6 c7 => ?_)
  obtain ⟨c7a, c7b, c7d⟩ := c7
  rw [c7a]
  show mT _ _ _ _ 8 [.ref a] [.ref n] _ _ _ _
  refine mt_areturn dJ4_toString_0e30d_8 rfl (by first | exact Or.inl ⟨_, rfl⟩ | exact Or.inr ⟨_, rfl⟩) rfl (Nat.le_of_ble_eq_true rfl) (Nat.le_of_ble_eq_true rfl) ?_
  exact ⟨rfl, by omega, fun j hj => (c7d j (by omega)).trans (f3 j (by omega))⟩
