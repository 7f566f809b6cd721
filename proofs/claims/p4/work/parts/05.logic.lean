/-! ===== the heap as a function of numbers; what a method does, said of it ===== -/
abbrev mE : Type := (Nat × Nat × (Nat → Int32)) ⊕ ((Nat × Nat × (Nat → Option Nat)) ⊕ (Nat × List Value))
abbrev mH : Type := Nat → mE
/-- the world's classes, the classes of the arrays, where the text constants lie, what lies outside the world (0 the law's script, 1 the text " ", 2 its bytes, 3, 4 the digits), the script's length, contents -/
abbrev mG : Type := va_G × (Nat → ClassId) × (Nat → Nat) × (Nat → Nat) × Nat × (Nat → Int32)
/-- a method: its name, its bytes, how many locals, what it returns, its table, whether it is the law -/
abbrev mM : Type := MethodName × ByteArray × Nat × Option FieldType × List (Nat × Nat × Nat × Nat) × Bool
def mTy (tc : Nat → ClassId) : List (ClassId × FieldType) := [(tc 0, .int), (tc 1, .byte), (tc 2, .object "Runweaver$Row"), (tc 3, .array .int)]
def mrv (b : Nat → Nat) (ws : va_W) : Value → Value → Prop
  | .ref k, v => ∃ e, ws[k]? = some e ∧ v = .ref e.1
  | .float _, v => ∃ q, v = .ref q
  | .retAddr k, v => v = .ref (b k)
  | .int x, v => v = .int x
  | .long x, v => v = .long x
  | .null, v => v = .null
  | .double _, _ => False
def mrl (b : Nat → Nat) (ws : va_W) : List Value → List Value → Prop
  | [], l => l = []
  | v :: l, l' => ∃ v' t', l' = v' :: t' ∧ mrv b ws v v' ∧ mrl b ws l t'
def mro (ws : va_W) : Option Nat → Option Nat → Prop
  | none, r => r = none
  | some k, r => ∃ e, ws[k]? = some e ∧ r = some e.1
def mR (G : mG) (ws : va_W) : mE → va_E → Prop
  | .inl (t, n, f), e => e = .inl (G.2.1 t, n, .inl f)
  | .inr (.inl (t, n, g)), e => ∃ g', e = .inl (G.2.1 t, n, .inr (.inr (.inr (.inr g')))) ∧ ∀ j, mro ws (g j) (g' j)
  | .inr (.inr (ci, fs)), e => ∃ fs', e = .inr (ci, fs') ∧ mrl G.2.2.2.1 ws fs fs'
def mW (G : mG) (h : mH) (n : Nat) (ws : va_W) : Prop := ws.length = n ∧ ∀ (k : Nat) (e : Nat × va_E), ws[k]? = some e → mR G ws (h k) e.2
def mExt (ws ws' : va_W) : Prop := ∀ (k : Nat) (e : Nat × va_E), ws[k]? = some e → ∃ e', ws'[k]? = some e' ∧ e'.1 = e.1
def mL (b : Nat → Nat) (ws : va_W) (ls : List Value) (nL : Nat) (LS : Array Slot) : Prop := ∃ lv, lv_has LS nL lv ∧ ∀ (i : Nat) (v : Value), ls[i]? = some v → (∃ x, v = .double x) ∨ ∃ v', mrv b ws v v' ∧ (i, v') ∈ lv
def mup (h : mH) (k : Nat) (x : mE) : mH := fun j => if j = k then x else h j
theorem mup_s {h : mH} {k : Nat} {x : mE} : mup h k x k = x := if_pos rfl
theorem mup_n {h : mH} {k j : Nat} {x : mE} (q : j ≠ k) : mup h k x j = h j := if_neg q
theorem mExt.rf {ws : va_W} : mExt ws ws := fun _ e h => ⟨e, h, rfl⟩
theorem mExt.tr {a b c : va_W} (h1 : mExt a b) (h2 : mExt b c) : mExt a c := fun k e h => by
  obtain ⟨e1, h3, h4⟩ := h1 k e h
  obtain ⟨e2, h5, h6⟩ := h2 k e1 h3
  exact ⟨e2, h5, h6.trans h4⟩
theorem mrv.mono {b : Nat → Nat} {ws ws' : va_W} {v v' : Value} (hE : mExt ws ws') (h : mrv b ws v v') : mrv b ws' v v' := by
  cases v with
  | ref k =>
    obtain ⟨e, h1, h2⟩ := h
    obtain ⟨e', h3, h4⟩ := hE k e h1
    exact ⟨e', h3, by rw [h4]; exact h2⟩
  | _ => exact h
theorem mrl.mono {b : Nat → Nat} {ws ws' : va_W} (hE : mExt ws ws') : ∀ {l l' : List Value}, mrl b ws l l' → mrl b ws' l l'
  | [], _, h => h
  | _ :: _, _, h => by
    obtain ⟨v', t', h1, h2, h3⟩ := h
    exact ⟨v', t', h1, h2.mono hE, mrl.mono hE h3⟩
theorem mro.mono {ws ws' : va_W} (hE : mExt ws ws') {r r' : Option Nat} (h : mro ws r r') : mro ws' r r' := by
  cases r with
  | none => exact h
  | some k =>
    obtain ⟨e, h1, h2⟩ := h
    obtain ⟨e', h3, h4⟩ := hE k e h1
    exact ⟨e', h3, by rw [h4]; exact h2⟩
theorem mR.mono {G : mG} {ws ws' : va_W} (hE : mExt ws ws') {x : mE} {e : va_E} (h : mR G ws x e) : mR G ws' x e := by
  match x, h with
  | .inl _, h => exact h
  | .inr (.inl _), h =>
    obtain ⟨g', h1, h2⟩ := h
    exact ⟨g', h1, fun j => (h2 j).mono hE⟩
  | .inr (.inr _), h =>
    obtain ⟨fs', h1, h2⟩ := h
    exact ⟨fs', h1, h2.mono hE⟩
theorem mL.mono {b : Nat → Nat} {ws ws' : va_W} (hE : mExt ws ws') {ls : List Value} {nL : Nat} {LS : Array Slot} (h : mL b ws ls nL LS) : mL b ws' ls nL LS := by
  obtain ⟨lv, h1, h2⟩ := h
  refine ⟨lv, h1, fun i v hi => ?_⟩
  rcases h2 i v hi with h3 | ⟨v', h3, h4⟩
  · exact Or.inl h3
  · exact Or.inr ⟨v', h3.mono hE, h4⟩
theorem mrl.get {b : Nat → Nat} {ws : va_W} : ∀ {l l' : List Value} {i : Nat} {v : Value}, mrl b ws l l' → l[i]? = some v → ∃ v', l'[i]? = some v' ∧ mrv b ws v v'
  | [], _, _, _, _, hi => by simp at hi
  | _ :: _, _, 0, _, h, hi => by
    obtain ⟨v', t', rfl, h2, h3⟩ := h
    cases hi
    exact ⟨v', rfl, h2⟩
  | _ :: _, _, i + 1, _, h, hi => by
    obtain ⟨v', t', rfl, h2, h3⟩ := h
    exact mrl.get (i := i) h3 hi
theorem mrl.set {b : Nat → Nat} {ws : va_W} : ∀ {l l' : List Value} {i : Nat} {v v' : Value}, mrl b ws l l' → mrv b ws v v' → mrl b ws (l.set i v) (l'.set i v')
  | [], _, _, _, _, h, _ => by
    cases h
    rfl
  | _ :: _, _, 0, _, _, h, hv => by
    obtain ⟨v', t', rfl, h2, h3⟩ := h
    exact ⟨_, _, rfl, hv, h3⟩
  | _ :: _, _, i + 1, _, _, h, hv => by
    obtain ⟨v', t', rfl, h2, h3⟩ := h
    exact ⟨_, _, rfl, h2, mrl.set (i := i) h3 hv⟩
theorem mrl.len {b : Nat → Nat} {ws : va_W} : ∀ {l l' : List Value}, mrl b ws l l' → l'.length = l.length
  | [], _, h => by
    cases h
    rfl
  | _ :: _, _, h => by
    obtain ⟨v', t', rfl, h2, h3⟩ := h
    simp [mrl.len h3]
theorem mrl.app {b : Nat → Nat} {ws : va_W} : ∀ {l l' r r' : List Value}, mrl b ws l l' → mrl b ws r r' → mrl b ws (l ++ r) (l' ++ r')
  | [], _, _, _, h, h2 => by
    cases h
    exact h2
  | _ :: _, _, _, _, h, h2 => by
    obtain ⟨v', t', rfl, h3, h4⟩ := h
    exact ⟨_, _, rfl, h3, h4.app h2⟩
theorem mrl.rev {b : Nat → Nat} {ws : va_W} : ∀ {l l' : List Value}, mrl b ws l l' → mrl b ws l.reverse l'.reverse
  | [], _, h => by
    cases h
    rfl
  | _ :: _, _, h => by
    obtain ⟨v', t', rfl, h3, h4⟩ := h
    rw [List.reverse_cons, List.reverse_cons]
    exact h4.rev.app ⟨_, _, rfl, h3, rfl⟩
/-- split what is related to l ++ r -/
theorem mrl.split {b : Nat → Nat} {ws : va_W} : ∀ {l r s' : List Value}, mrl b ws (l ++ r) s' → ∃ l' r', s' = l' ++ r' ∧ mrl b ws l l' ∧ mrl b ws r r'
  | [], _, s', h => ⟨[], s', rfl, rfl, h⟩
  | _ :: _, _, _, h => by
    obtain ⟨v', t', rfl, h3, h4⟩ := h
    obtain ⟨l', r', rfl, h5, h6⟩ := mrl.split h4
    exact ⟨_ :: l', r', rfl, ⟨_, _, rfl, h3, h5⟩, h6⟩
theorem mrv.cat {b : Nat → Nat} {ws : va_W} {v v' : Value} (h : mrv b ws v v') (h2 : v'.category = 2) : ∃ x, v = .long x := by
  cases v with
  | ref k => obtain ⟨e, h1, rfl⟩ := h; cases h2
  | float k => obtain ⟨e, rfl⟩ := h; cases h2
  | retAddr k => cases (show v' = .ref (b k) from h); cases h2
  | int x => cases (show v' = .int x from h); cases h2
  | long x => exact ⟨x, rfl⟩
  | null => cases (show v' = .null from h); cases h2
  | double x => exact h.elim
/-- category 1, by its form -/
def mc1 : Value → Bool
  | .long _ => false
  | .double _ => false
  | _ => true
theorem mrv.c1 {b : Nat → Nat} {ws : va_W} {v v' : Value} (h : mrv b ws v v') (h2 : mc1 v = true) : v'.category = 1 := by
  rcases lv_cat v' with h3 | h3
  · exact h3
  · obtain ⟨x, rfl⟩ := h.cat h3
    cases h2
theorem mExt.set {ws : va_W} {k : Nat} {a : Nat} {e0 e : va_E} (h : ws[k]? = some (a, e0)) : mExt ws (ws.set k (a, e)) := by
  intro j x hj
  have hl := (List.getElem?_eq_some_iff.mp h).1
  by_cases q : j = k
  · subst q
    rw [h] at hj
    cases hj
    exact ⟨_, List.getElem?_set_self hl, rfl⟩
  · exact ⟨x, by rw [List.getElem?_set_ne (Ne.symm q)]; exact hj, rfl⟩
theorem mExt.push {ws t : va_W} : mExt ws (ws ++ t) := by
  intro j x hj
  have hl := (List.getElem?_eq_some_iff.mp hj).1
  exact ⟨x, by rw [List.getElem?_append_left hl]; exact hj, rfl⟩
theorem mW.at {G : mG} {h : mH} {n k : Nat} {ws : va_W} {e : Nat × va_E} (hW : mW G h n ws) (hk : ws[k]? = some e) : mR G ws (h k) e.2 := hW.2 k e hk
theorem mW.lt {G : mG} {h : mH} {n k : Nat} {ws : va_W} (hW : mW G h n ws) (hk : k < n) : ∃ e, ws[k]? = some e := by
  rw [← hW.1] at hk
  exact ⟨ws[k], List.getElem?_eq_getElem hk⟩
theorem mW.set {G : mG} {h : mH} {n k a : Nat} {ws : va_W} {e0 e : va_E} {x : mE} (hW : mW G h n ws) (hk : ws[k]? = some (a, e0)) (hx : mR G ws x e) : mW G (mup h k x) n (ws.set k (a, e)) := by
  have hE : mExt ws (ws.set k (a, e)) := mExt.set hk
  have hl := (List.getElem?_eq_some_iff.mp hk).1
  refine ⟨by rw [List.length_set]; exact hW.1, fun j y hj => ?_⟩
  by_cases q : j = k
  · subst q
    rw [List.getElem?_set_self hl] at hj
    cases hj
    rw [mup_s]
    exact hx.mono hE
  · rw [List.getElem?_set_ne (Ne.symm q)] at hj
    rw [mup_n q]
    exact (hW.2 j y hj).mono hE
theorem mW.push {G : mG} {h : mH} {n a : Nat} {ws : va_W} {e : va_E} {x : mE} (hW : mW G h n ws) (hx : mR G (ws ++ [(a, e)]) x e) : mW G (mup h n x) (n + 1) (ws ++ [(a, e)]) := by
  refine ⟨by rw [List.length_append, hW.1]; rfl, fun j y hj => ?_⟩
  have hj2 := (List.getElem?_eq_some_iff.mp hj).1
  rw [List.length_append, hW.1] at hj2
  by_cases q : j = n
  · subst q
    rw [List.getElem?_append_right (by rw [hW.1]; exact Nat.le_refl _), hW.1, Nat.sub_self] at hj
    cases hj
    rw [mup_s]
    exact hx
  · have hl : j < n := by simp at hj2; omega
    rw [List.getElem?_append_left (by rw [hW.1]; exact hl)] at hj
    rw [mup_n q]
    exact (hW.2 j y hj).mono mExt.push
/-! the words -/
def mWd (M : mM) : Cond := match M.2.2.2.2.1 with
  | [] => .code M.1 M.2.1 M.2.2.1 M.2.2.2.1
  | hh => .codeWith M.1 M.2.1 M.2.2.1 M.2.2.2.1 hh
def mWs (M : mM) : List Cond := mWd M :: mGw
theorem mGood {M N : mM} (h : mWd N ∈ mGw) : GoodIn (mWs M) (mWs N) := by
  intro w hw
  rcases List.mem_cons.mp hw with rfl | h1
  · exact ⟨List.mem_cons_of_mem _ h, good_of_word (List.mem_filter.mp h).2⟩
  · exact ⟨List.mem_cons_of_mem _ h1, good_of_word (List.mem_filter.mp h1).2⟩
theorem mGoodG {N : mM} (h : mWd N ∈ mGw) : GoodIn mGw (mWs N) := by
  intro w hw
  rcases List.mem_cons.mp hw with rfl | h1
  · exact ⟨h, good_of_word (List.mem_filter.mp h).2⟩
  · exact ⟨h1, good_of_word (List.mem_filter.mp h1).2⟩
/-! what holds of the machine at a method's entry -/
/-- the text constants -/
def mTx (G : mG) (U : State) : Prop := vk_R RX2 287 "no such row" (G.2.2.1 0) U ∧ vk_R RX2 290 "an argument is out of its range" (G.2.2.1 1) U ∧ vk_R RX2 237 "no such number of the house" (G.2.2.1 2) U ∧ vk_R RX2 294 "no such place" (G.2.2.1 3) U ∧ vk_R RX4 117 "" (G.2.2.1 4) U ∧ vk_R RX4 122 " " (G.2.2.2.1 1) U
def mNx (U : State) : Prop := (∀ w ∈ mNw, va_Nw w U) ∧ va_Nc "java/lang/IllegalArgumentException" "java/lang/IndexOutOfBoundsException" U ∧ va_AOA .int U
theorem mNx.moved {u U : State} (hW : u.WarmedH U.vm) (h : mNx u) : mNx U := by
  refine ⟨fun w hw => ?_, va_Nc.moved hW.alike h.2.1, va_AOA.moved hW.alike h.2.2⟩
  have h1 := h.1 w hw
  have h2 := (List.mem_filter.mp hw).2
  cases w with
  | fieldLinkNest a i b n d x => exact va_Nw.warmF hW h1
  | methodLinkNest a i x y => exact va_Nw.warmM hW h1
  | castable a b => exact va_Nw.warmC hW h1
  | declares a => exact va_Nw.warmD hW h1
  | _ => cases h2
/-- of a state, whatever the heap -/
def mS (G : mG) (U : State) : Prop := va_K G.1 vwCl (mTy G.2.1) U ∧ (∃ kA, U.vm.classes[G.2.1 3]? = some kA ∧ kA.kind = .array (G.2.1 0) (.array .int)) ∧ (∃ kI, U.vm.classes[G.2.1 0]? = some kI ∧ ∃ c, kI.kind = .array c .int) ∧ va_AO "Runweaver$Row" U ∧ mTx G U ∧ mNx U
/-- of the statics -/
def mZt (G : mG) (A : Nat → Prop) (U : State) (H : Heap) : Prop := va_Z "java/lang/String" "COMPACT_STRINGS" "Z" (.int 1) A U H ∧ va_Z "java/lang/Integer" "DigitOnes" "[B" (.ref (G.2.2.2.1 3)) A U H ∧ va_Z "java/lang/Integer" "DigitTens" "[B" (.ref (G.2.2.2.1 4)) A U H ∧ (∃ f : Nat → Int32, va_T .byte (G.2.2.2.1 3) 100 (fun j => .int (f j)) A U H) ∧ (∃ f : Nat → Int32, va_T .byte (G.2.2.2.1 4) 100 (fun j => .int (f j)) A U H) ∧ va_O "java/lang/String" (G.2.2.2.1 1) A U H ∧ va_OF "java/lang/String" "coder" "B" (.int 0) (G.2.2.2.1 1) A U H ∧ va_OF "java/lang/String" "value" "[B" (.ref (G.2.2.2.1 2)) (G.2.2.2.1 1) A U H ∧ ∃ f : Nat → Int32, va_T .byte (G.2.2.2.1 2) 1 (fun j => .int (f j)) A U H ∧ fits .byte (.int (f 0)) = true
theorem mZt.moved {G : mG} {A : Nat → Prop} {u U : State} {H : Heap} (hvm : u.vm.Alike U.vm) (h : mZt G A u H) : mZt G A U H := by
  obtain ⟨a1, a2, a3, ⟨f1, a4⟩, ⟨f2, a5⟩, a6, a7, a8, f3, a9, a10⟩ := h
  exact ⟨a1.moved hvm, a2.moved hvm, a3.moved hvm, ⟨f1, a4.moved hvm⟩, ⟨f2, a5.moved hvm⟩, a6.moved hvm, a7.moved hvm, a8.moved hvm, f3, a9.moved hvm, a10⟩
theorem mZt.kept {G : mG} {A : Nat → Prop} {U : State} {H H1 : Heap} (h : mZt G A U H) (hq : ∀ a : Nat, a < H.size → ¬ A a → H1[a]? = H[a]?) : mZt G A U H1 := by
  obtain ⟨a1, a2, a3, ⟨f1, a4⟩, ⟨f2, a5⟩, a6, a7, a8, f3, a9, a10⟩ := h
  exact ⟨a1.kept hq, a2.kept hq, a3.kept hq, ⟨f1, a4.kept hq⟩, ⟨f2, a5.kept hq⟩, a6.kept hq, a7.kept hq, a8.kept hq, f3, a9.kept hq, a10⟩
theorem mZt.narrow {G : mG} {A B : Nat → Prop} {U : State} {H : Heap} (h : mZt G A U H) (hAB : ∀ q, B q → A q) : mZt G B U H := by
  obtain ⟨a1, a2, a3, ⟨f1, a4⟩, ⟨f2, a5⟩, a6, a7, a8, f3, a9, a10⟩ := h
  exact ⟨a1.narrow hAB, a2.narrow hAB, a3.narrow hAB, ⟨f1, a4.narrow hAB⟩, ⟨f2, a5.narrow hAB⟩, a6.narrow hAB, a7.narrow hAB, a8.narrow hAB, f3, a9.narrow hAB, a10⟩
def mZ (G : mG) (A : Nat → Prop) (U : State) (H : Heap) : Prop := vx_Zq Bundle.tN "UNASSIGNED_STACK" Bundle.steD A U H ∧ vx_Zq Bundle.tN "SUPPRESSED_SENTINEL" Bundle.listD A U H ∧ mZt G A U H
theorem mS.moved {G : mG} {u U : State} (hW : u.WarmedH U.vm) (h : mS G u) : mS G U := by
  have hvm := hW.alike
  obtain ⟨h1, ⟨kA, h2, h3⟩, ⟨kI, h4, c, h5⟩, h6, ⟨t0, t1, t2, t3, t4, t5⟩, t6⟩ := h
  obtain ⟨kA', g1, g2⟩ := hvm.2.2 _ _ h2
  obtain ⟨kI', g3, g4⟩ := hvm.2.2 _ _ h4
  exact ⟨va_K.moved hvm h1, ⟨kA', g1, by rw [g2]; exact h3⟩, ⟨kI', g3, c, by rw [g4]; exact h5⟩, va_AO.moved hvm h6, ⟨t0.warm hW, t1.warm hW, t2.warm hW, t3.warm hW, t4.warm hW, t5.warm hW⟩, t6.moved hW⟩
theorem mZ.moved {G : mG} {A : Nat → Prop} {u U : State} {H : Heap} (hvm : u.vm.Alike U.vm) (h : mZ G A u H) : mZ G A U H := ⟨vx_Zq.moved hvm h.1, vx_Zq.moved hvm h.2.1, mZt.moved hvm h.2.2⟩
theorem mZ.kept {G : mG} {A : Nat → Prop} {U : State} {H H1 : Heap} (h : mZ G A U H) (hq : ∀ a : Nat, a < H.size → ¬ A a → H1[a]? = H[a]?) : mZ G A U H1 := ⟨h.1.kept hq, h.2.1.kept hq, h.2.2.kept hq⟩
theorem mZ.narrow {G : mG} {A B : Nat → Prop} {U : State} {H : Heap} (h : mZ G A U H) (hAB : ∀ q, B q → A q) : mZ G B U H := ⟨h.1.narrow hAB, h.2.1.narrow hAB, h.2.2.narrow hAB⟩
def mCx (l : Launch) (M : mM) (p : Program) (s : State) (m : MethodId) (args : Array Value) (meth : Method) (c : Code) (G : mG) (w0 : va_W) : Prop :=
  p.tables.exec = Jvm.exec ∧ l.stackTraces = false ∧ c.code = M.2.1 ∧ meth.sig.returnType = M.2.2.2.1 ∧ c.maxLocals = M.2.2.1 ∧ s.vm.findClass M.1.cls = some m.cls ∧ (∀ w ∈ mGw, w.before args s = true) ∧ meth.locks = false ∧ meth.name = M.1.name ∧ c.exceptionTable.toList = tableOf M.2.2.2.2.1 ∧
  mS G s ∧ mZ G (va_A w0 s.heap.size) s s.heap ∧ (M.2.2.2.2.2 = true → va_X (G.2.2.2.1 0) G.2.2.2.2.1 G.2.2.2.2.2 s s.heap ∧ G.2.2.2.1 0 < s.heap.size ∧ w0 = [])
def mDy (M : mM) (G : mG) (w0 : va_W) (s : State) (ls st : List Value) (h : mH) (n : Nat) (H : Heap) (locs : List Loc) (LS : Array Slot) (ws : va_W) (st' : List Value) : Prop :=
  mW G h n ws ∧ va_P G.1 vwCl ws H ∧ va_D (va_A w0 s.heap.size) ws ∧ va_S (va_A w0 s.heap.size) s.heap H locs ∧ mExt w0 ws ∧ mL G.2.2.2.1 ws ls M.2.2.1 LS ∧ mrl G.2.2.2.1 ws st st'
/-- what is owed at the end, seen from the start -/
abbrev mK : Type := State → Array Value → List Frame → mG → va_W → State → Prop
/-- from this frame the method comes to its end as K says -/
def mT (l : Launch) (M : mM) (R : Room) (K : mK) (pc : Nat) (ls st : List Value) (h : mH) (n cc sc : Nat) : Prop :=
  ∀ (p : Program) (e : Env) (s : State) (m : MethodId) (args : Array Value) (below : List Frame) (meth : Method) (c : Code) (G : mG) (w0 : va_W) (H : Heap) (locs : List Loc) (LS : Array Slot) (ws : va_W) (st' : List Value),
    mCx l M p s m args meth c G w0 → mDy M G w0 s ls st h n H locs LS ws st' → W p l e R s m args below meth c H locs cc sc (K s args below G w0) (F0 m pc LS st')
def mrO (b : Nat → Nat) (ws : va_W) : Option Value → Option Value → Prop
  | none, r => r = none
  | some v, r => ∃ v', r = some v' ∧ mrv b ws v v'
/-- the world behind a method: its cells, those that were there at the same addresses -/
def mB (G : mG) (w0 : va_W) (sz : Nat) (h : mH) (n : Nat) (st t : State) : Prop := ∃ ws, mW G h n ws ∧ mExt w0 ws ∧ va_P G.1 vwCl ws t.heap ∧ va_D (va_A w0 sz) ws ∧ va_F (va_A w0 sz) st t
def mQ (G : mG) (w0 : va_W) (sz : Nat) (Φ : Option Value → mH → Nat → Prop) : Array Value → State → Outcome → State → Prop := fun _ st o t => ∃ v v' h n ws, o = .returned v' ∧ Φ v h n ∧ mrO G.2.2.2.1 ws v v' ∧ mW G h n ws ∧ mExt w0 ws ∧ va_P G.1 vwCl ws t.heap ∧ va_D (va_A w0 sz) ws ∧ va_F (va_A w0 sz) st t
def mXq (G : mG) (w0 : va_W) (sz : Nat) (X : String → mH → Nat → Prop) : String → State → State → Prop := fun E st t => ∃ h n, X E h n ∧ mB G w0 sz h n st t
def mKo (R : Room) (Φ : Option Value → mH → Nat → Prop) (X : String → mH → Nat → Prop) : mK := fun s args below G w0 => vx_MQ below (mQ G w0 s.heap.size Φ) (mXq G w0 s.heap.size X) args s R.cells R.slots (va_A w0 s.heap.size)
def mPc (G : mG) (ws : va_W) (sz : Nat) (vs : List Value) : Array Value → State → Prop := va_Pc vs (fun U => U.heap.size = sz ∧ va_P G.1 vwCl ws U.heap ∧ va_D (fun _ => True) ws ∧ mS G U ∧ mZ G (va_A ws sz) U U.heap)
/-- a method's contract: called on av in the heap h of n cells it returns with Φ, or throws with X -/
def mC (l : Launch) (M : mM) (R : Room) (av : List Value) (h : mH) (n : Nat) (Φ : Option Value → mH → Nat → Prop) (X : String → mH → Nat → Prop) : Prop :=
  ∀ (G : mG) (ws : va_W) (sz : Nat) (vs : List Value), mW G h n ws → mrl G.2.2.2.1 ws av vs → vx_Met l M.1 (mWs M) R (mPc G ws sz vs) (mQ G ws sz Φ) (mXq G ws sz X) R.cells R.slots (va_A ws sz)
theorem mPc.blind {G : mG} {ws : va_W} {sz : Nat} {vs : List Value} : FrameBlind (mPc G ws sz vs) := by
  intro a U g mk h
  obtain ⟨h1, h2, h3, h4, h5, h6⟩ := h
  exact ⟨h1, h2, h3, h4, mS.moved (u := U) (U := U.calling g mk a) (State.WarmedH.refl U) h5, mZ.moved (u := U) (U := U.calling g mk a) (Vm.Alike.refl U.vm) h6⟩
/-- weaker ends -/
theorem mC.weaken {l : Launch} {M : mM} {R : Room} {av : List Value} {h : mH} {n : Nat} {Φ Φ' : Option Value → mH → Nat → Prop} {X X' : String → mH → Nat → Prop} (hC : mC l M R av h n Φ X) (h1 : ∀ v h n, Φ v h n → Φ' v h n) (h2 : ∀ E h n, X E h n → X' E h n) : mC l M R av h n Φ' X' := by
  intro G ws sz vs hW hv
  have k := hC G ws sz vs hW hv
  intro p e ha hc hk s m args below hf happ hP hK
  obtain ⟨t, o, a1, a2, a3, a4⟩ := k p e ha hc hk s m args below hf happ hP hK
  refine ⟨t, o, a1, a2, a3, ?_⟩
  rcases a4 with ⟨⟨v, v', h9, n9, ws9, b1, b2, b3⟩, b4⟩ | ⟨q, b1, E, ce, L, ⟨h9, n9, b2, b3⟩, b4⟩
  · exact Or.inl ⟨⟨v, v', h9, n9, ws9, b1, h1 _ _ _ b2, b3⟩, b4⟩
  · exact Or.inr ⟨q, b1, E, ce, L, ⟨h9, n9, h2 _ _ _ b2, b3⟩, b4⟩
/-! entry -/
def mUn (av : List Value) (nL : Nat) : List Value := av ++ List.replicate (nL - av.length) (.double 0)
theorem lg_sl_c1 : ∀ {vs : List Value}, (∀ v ∈ vs, v.category = 1) → lg_sl vs = vs.map Slot.val
  | [], _ => rfl
  | v :: vs, h => by
    have h1 := h v List.mem_cons_self
    have ih := lg_sl_c1 (vs := vs) (fun w hw => h w (List.mem_cons_of_mem _ hw))
    show (if v.category = 2 then [Slot.val v, Slot.second] else [Slot.val v]) ++ lg_sl vs = _
    rw [if_neg (by omega), ih]
    rfl
theorem lv_args_c1 : ∀ {vs : List Value} {i j : Nat} {v : Value}, (∀ v ∈ vs, v.category = 1) → vs[j]? = some v → (i + j, v) ∈ lv_args i vs
  | [], _, _, _, _, h => by simp at h
  | w :: vs, i, 0, v, _, h => by
    cases h
    exact List.mem_cons_self
  | w :: vs, i, j + 1, v, hc, h => by
    have h1 := hc w List.mem_cons_self
    show (i + (j + 1), v) ∈ (i, w) :: lv_args (if w.category = 2 then i + 2 else i + 1) vs
    rw [if_neg (by omega), show i + (j + 1) = (i + 1) + j by omega]
    exact List.mem_cons_of_mem _ (lv_args_c1 (fun w hw => hc w (List.mem_cons_of_mem _ hw)) h)
theorem mrl.c1 {b : Nat → Nat} {ws : va_W} : ∀ {l l' : List Value}, mrl b ws l l' → l.all mc1 = true → ∀ v ∈ l', v.category = 1
  | [], _, h, _ => by
    cases h
    intro v hv
    cases hv
  | _ :: _, _, h, ha => by
    obtain ⟨v', t', rfl, h2, h3⟩ := h
    rw [List.all_cons, Bool.and_eq_true] at ha
    intro v hv
    rcases List.mem_cons.mp hv with rfl | hv
    · exact h2.c1 ha.1
    · exact h3.c1 ha.2 v hv
theorem mL.entry {b : Nat → Nat} {ws : va_W} {av vs : List Value} {nL : Nat} (hv : mrl b ws av vs) (ha : av.all mc1 = true) (hn : av.length ≤ nL) : mL b ws (mUn av nL) nL (lg_sl vs ++ List.replicate (nL - (lg_sl vs).length) Slot.unset).toArray := by
  have hc := hv.c1 ha
  have hl : (lg_sl vs).length = vs.length := by rw [lg_sl_c1 hc, List.length_map]
  refine ⟨_, lv_entry vs (by rw [hl, hv.len]; exact hn), fun i v hi => ?_⟩
  unfold mUn at hi
  by_cases q : i < av.length
  · rw [List.getElem?_append_left q] at hi
    obtain ⟨v', h1, h2⟩ := hv.get hi
    have h3 := lv_args_c1 (i := 0) hc h1
    rw [Nat.zero_add] at h3
    exact Or.inr ⟨v', h2, h3⟩
  · rw [List.getElem?_append_right (by omega)] at hi
    have := List.mem_of_getElem? hi
    rw [List.mem_replicate] at this
    exact Or.inl ⟨0, this.2⟩
set_option maxHeartbeats 1000000 in
theorem mm_enter {l : Launch} {M : mM} {R : Room} {av : List Value} {h : mH} {n : Nat} {Φ : Option Value → mH → Nat → Prop} {X : String → mH → Nat → Prop} (hl : l.stackTraces = false) (hy : plainName M.1.cls = true) (ht : M.2.2.2.2.1 = []) (hs : M.2.2.2.2.2 = false) (ha : av.all mc1 = true) (hn : av.length ≤ M.2.2.1)
    (k : mT l M R (mKo R Φ X) 0 (mUn av M.2.2.1) [] h n 0 0) : mC l M R av h n Φ X := by
  intro G ws sz vs hW hv
  have ew : mWs M = .code M.1 M.2.1 M.2.2.1 M.2.2.2.1 :: mGw := by unfold mWs mWd; rw [ht]
  refine vx_ofW (cc := M.2.1) (maxL := M.2.2.1) (ret := M.2.2.2.1) hy ew ?_
  intro p e s m args below meth c s₁ B hml hx0 hP
  obtain ⟨rfl, rfl, hP, hD, hS, hZ⟩ := hP
  have hts : ∀ w ∈ mGw, w.before vs.toArray s = true := fun w hw => atoms_spec (ws := mWs M) B.pre w (List.mem_cons_of_mem _ hw)
  have htab : c.exceptionTable.toList = tableOf M.2.2.2.2.1 := by
    rw [ht]
    match hq : c.exceptionTable.toList with
    | [] => rfl
    | x :: _ => exact (hx0 x (by rw [hq]; exact List.mem_cons_self)).elim
  rw [lg_entry_eq]
  exact k p e s m vs.toArray below meth c G ws s.heap [] _ ws [] ⟨B.exec, hl, B.bytes, B.returns, hml, findClass_of_methodNamed B.named, hts, B.notSynchronized, (name_of_methodNamed B.named B.method).1, htab, hS, hZ, fun q => by rw [hs] at q; cases q⟩
    ⟨hW, hP, hD.self, va_S.rf, mExt.rf, mL.entry hv ha hn, rfl⟩
set_option maxHeartbeats 1000000 in
/-- entry of a method with a table -/
theorem mm_enterH {l : Launch} {M : mM} {R : Room} {av : List Value} {h : mH} {n : Nat} {Φ : Option Value → mH → Nat → Prop} {X : String → mH → Nat → Prop} (hl : l.stackTraces = false) (hy : plainName M.1.cls = true) (ht : M.2.2.2.2.1 ≠ []) (hs : M.2.2.2.2.2 = false) (ha : av.all mc1 = true) (hn : av.length ≤ M.2.2.1)
    (k : mT l M R (mKo R Φ X) 0 (mUn av M.2.2.1) [] h n 0 0) : mC l M R av h n Φ X := by
  intro G ws sz vs hW hv
  have ew : mWs M = .codeWith M.1 M.2.1 M.2.2.1 M.2.2.2.1 M.2.2.2.2.1 :: mGw := by
    unfold mWs mWd
    match hq : M.2.2.2.2.1 with
    | [] => exact absurd hq ht
    | x :: t => rfl
  refine vx_ofWH (cc := M.2.1) (maxL := M.2.2.1) (ret := M.2.2.2.1) hy ew ?_
  intro p e s m args below meth c s₁ B hml hP
  obtain ⟨rfl, rfl, hP, hD, hS, hZ⟩ := hP
  have hall := atoms_spec (ws := mWs M) B.pre
  have hts : ∀ w ∈ mGw, w.before vs.toArray s = true := fun w hw => hall w (List.mem_cons_of_mem _ hw)
  have htab : c.exceptionTable.toList = tableOf M.2.2.2.2.1 := vx_table (x := M.1) B (hall _ (by rw [ew]; exact List.mem_cons_self))
  rw [lg_entry_eq]
  exact k p e s m vs.toArray below meth c G ws s.heap [] _ ws [] ⟨B.exec, hl, B.bytes, B.returns, hml, findClass_of_methodNamed B.named, hts, B.notSynchronized, (name_of_methodNamed B.named B.method).1, htab, hS, hZ, fun q => by rw [hs] at q; cases q⟩
    ⟨hW, hP, hD.self, va_S.rf, mExt.rf, mL.entry hv ha hn, rfl⟩
