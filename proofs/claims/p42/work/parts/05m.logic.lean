/-! ===== the heap as a function of numbers; what a method does, said of it ===== -/
abbrev mE : Type := (Nat × Nat × (Nat → Int32)) ⊕ ((Nat × Nat × (Nat → Option Nat)) ⊕ (Nat × List Value))
abbrev mH : Type := Nat → mE
/-- the world's classes, the classes of the arrays, where the text constants lie, what lies outside the world (0 the law's script, 1 the text " ", 2 its bytes, 3, 4 the digits), the script's length, contents -/
abbrev mG : Type := va_G × (Nat → ClassId) × (Nat → Nat) × (Nat → Nat) × Nat × (Nat → Int32)
/-- a method: its name, its bytes, how many locals, what it returns, its table, whether it is the law -/
abbrev mM : Type := MethodName × ByteArray × Nat × Option FieldType × List (Nat × Nat × Nat × Nat) × Bool
def mTy (tc : Nat → ClassId) : List (ClassId × FieldType) := [(tc 0, .int), (tc 1, .byte), (tc 2, .object "Runweaver$Row"), (tc 3, .array .int)]
def mrv (b : Nat → Nat) (ws : va_W) : Value → Value → Prop
  | .ref k, v => ∃ e, ws[k]? = some e ∧ v = .ref e.1
  | .float _, v => ∃ q, v = .ref q
  | .retAddr k, v => v = .ref (b k)
  | .int x, v => v = .int x
  | .long x, v => v = .long x
  | .null, v => v = .null
  | .double _, _ => False
def mrl (b : Nat → Nat) (ws : va_W) : List Value → List Value → Prop
  | [], l => l = []
  | v :: l, l' => ∃ v' t', l' = v' :: t' ∧ mrv b ws v v' ∧ mrl b ws l t'
def mro (ws : va_W) : Option Nat → Option Nat → Prop
  | none, r => r = none
  | some k, r => ∃ e, ws[k]? = some e ∧ r = some e.1
def mR (G : mG) (ws : va_W) : mE → va_E → Prop
  | .inl (t, n, f), e => e = .inl (G.2.1 t, n, .inl f)
  | .inr (.inl (t, n, g)), e => ∃ g', e = .inl (G.2.1 t, n, .inr (.inr (.inr (.inr g')))) ∧ ∀ j, mro ws (g j) (g' j)
  | .inr (.inr (ci, fs)), e => ∃ fs', e = .inr (ci, fs') ∧ mrl G.2.2.2.1 ws fs fs'
def mW (G : mG) (h : mH) (n : Nat) (ws : va_W) : Prop := ws.length = n ∧ ∀ (k : Nat) (e : Nat × va_E), ws[k]? = some e → mR G ws (h k) e.2
def mExt (ws ws' : va_W) : Prop := ∀ (k : Nat) (e : Nat × va_E), ws[k]? = some e → ∃ e', ws'[k]? = some e' ∧ e'.1 = e.1
def mL (b : Nat → Nat) (ws : va_W) (ls : List Value) (nL : Nat) (LS : Array Slot) : Prop := ∃ lv, lv_has LS nL lv ∧ ∀ (i : Nat) (v : Value), ls[i]? = some v → (∃ x, v = .double x) ∨ ∃ v', mrv b ws v v' ∧ (i, v') ∈ lv
def mup (h : mH) (k : Nat) (x : mE) : mH := fun j => if j = k then x else h j
theorem mup_s {h : mH} {k : Nat} {x : mE} : mup h k x k = x := if_pos rfl
theorem mup_n {h : mH} {k j : Nat} {x : mE} (q : j ≠ k) : mup h k x j = h j := if_neg q
theorem mExt.rf {ws : va_W} : mExt ws ws := fun _ e h => ⟨e, h, rfl⟩
theorem mExt.tr {a b c : va_W} (h1 : mExt a b) (h2 : mExt b c) : mExt a c := fun k e h => by
  obtain ⟨e1, h3, h4⟩ := h1 k e h
  obtain ⟨e2, h5, h6⟩ := h2 k e1 h3
  exact ⟨e2, h5, h6.trans h4⟩
theorem mrv.mono {b : Nat → Nat} {ws ws' : va_W} {v v' : Value} (hE : mExt ws ws') (h : mrv b ws v v') : mrv b ws' v v' := by
  cases v with
  | ref k =>
    obtain ⟨e, h1, h2⟩ := h
    obtain ⟨e', h3, h4⟩ := hE k e h1
    exact ⟨e', h3, by rw [h4]; exact h2⟩
  | _ => exact h
theorem mrl.mono {b : Nat → Nat} {ws ws' : va_W} (hE : mExt ws ws') : ∀ {l l' : List Value}, mrl b ws l l' → mrl b ws' l l'
  | [], _, h => h
  | _ :: _, _, h => by
    obtain ⟨v', t', h1, h2, h3⟩ := h
    exact ⟨v', t', h1, h2.mono hE, mrl.mono hE h3⟩
theorem mro.mono {ws ws' : va_W} (hE : mExt ws ws') {r r' : Option Nat} (h : mro ws r r') : mro ws' r r' := by
  cases r with
  | none => exact h
  | some k =>
    obtain ⟨e, h1, h2⟩ := h
    obtain ⟨e', h3, h4⟩ := hE k e h1
    exact ⟨e', h3, by rw [h4]; exact h2⟩
theorem mR.mono {G : mG} {ws ws' : va_W} (hE : mExt ws ws') {x : mE} {e : va_E} (h : mR G ws x e) : mR G ws' x e := by
  match x, h with
  | .inl _, h => exact h
  | .inr (.inl _), h =>
    obtain ⟨g', h1, h2⟩ := h
    exact ⟨g', h1, fun j => (h2 j).mono hE⟩
  | .inr (.inr _), h =>
    obtain ⟨fs', h1, h2⟩ := h
    exact ⟨fs', h1, h2.mono hE⟩
theorem mL.mono {b : Nat → Nat} {ws ws' : va_W} (hE : mExt ws ws') {ls : List Value} {nL : Nat} {LS : Array Slot} (h : mL b ws ls nL LS) : mL b ws' ls nL LS := by
  obtain ⟨lv, h1, h2⟩ := h
  refine ⟨lv, h1, fun i v hi => ?_⟩
  rcases h2 i v hi with h3 | ⟨v', h3, h4⟩
  · exact Or.inl h3
  · exact Or.inr ⟨v', h3.mono hE, h4⟩
theorem mrl.get {b : Nat → Nat} {ws : va_W} : ∀ {l l' : List Value} {i : Nat} {v : Value}, mrl b ws l l' → l[i]? = some v → ∃ v', l'[i]? = some v' ∧ mrv b ws v v'
  | [], _, _, _, _, hi => by simp at hi
  | _ :: _, _, 0, _, h, hi => by
    obtain ⟨v', t', rfl, h2, h3⟩ := h
    cases hi
    exact ⟨v', rfl, h2⟩
  | _ :: _, _, i + 1, _, h, hi => by
    obtain ⟨v', t', rfl, h2, h3⟩ := h
    exact mrl.get (i := i) h3 hi
theorem mrl.set {b : Nat → Nat} {ws : va_W} : ∀ {l l' : List Value} {i : Nat} {v v' : Value}, mrl b ws l l' → mrv b ws v v' → mrl b ws (l.set i v) (l'.set i v')
  | [], _, _, _, _, h, _ => by
    cases h
    rfl
  | _ :: _, _, 0, _, _, h, hv => by
    obtain ⟨v', t', rfl, h2, h3⟩ := h
    exact ⟨_, _, rfl, hv, h3⟩
  | _ :: _, _, i + 1, _, _, h, hv => by
    obtain ⟨v', t', rfl, h2, h3⟩ := h
    exact ⟨_, _, rfl, h2, mrl.set (i := i) h3 hv⟩
theorem mrl.len {b : Nat → Nat} {ws : va_W} : ∀ {l l' : List Value}, mrl b ws l l' → l'.length = l.length
  | [], _, h => by
    cases h
    rfl
  | _ :: _, _, h => by
    obtain ⟨v', t', rfl, h2, h3⟩ := h
    simp [mrl.len h3]
theorem mrl.app {b : Nat → Nat} {ws : va_W} : ∀ {l l' r r' : List Value}, mrl b ws l l' → mrl b ws r r' → mrl b ws (l ++ r) (l' ++ r')
  | [], _, _, _, h, h2 => by
    cases h
    exact h2
  | _ :: _, _, _, _, h, h2 => by
    obtain ⟨v', t', rfl, h3, h4⟩ := h
    exact ⟨_, _, rfl, h3, h4.app h2⟩
theorem mrl.rev {b : Nat → Nat} {ws : va_W} : ∀ {l l' : List Value}, mrl b ws l l' → mrl b ws l.reverse l'.reverse
  | [], _, h => by
    cases h
    rfl
  | _ :: _, _, h => by
    obtain ⟨v', t', rfl, h3, h4⟩ := h
    rw [List.reverse_cons, List.reverse_cons]
    exact h4.rev.app ⟨_, _, rfl, h3, rfl⟩
/-- split what is related to l ++ r -/
theorem mrl.split {b : Nat → Nat} {ws : va_W} : ∀ {l r s' : List Value}, mrl b ws (l ++ r) s' → ∃ l' r', s' = l' ++ r' ∧ mrl b ws l l' ∧ mrl b ws r r'
  | [], _, s', h => ⟨[], s', rfl, rfl, h⟩
  | _ :: _, _, _, h => by
    obtain ⟨v', t', rfl, h3, h4⟩ := h
    obtain ⟨l', r', rfl, h5, h6⟩ := mrl.split h4
    exact ⟨_ :: l', r', rfl, ⟨_, _, rfl, h3, h5⟩, h6⟩
theorem mrv.cat {b : Nat → Nat} {ws : va_W} {v v' : Value} (h : mrv b ws v v') (h2 : v'.category = 2) : ∃ x, v = .long x := by
  cases v with
  | ref k => obtain ⟨e, h1, rfl⟩ := h; cases h2
  | float k => obtain ⟨e, rfl⟩ := h; cases h2
  | retAddr k => cases (show v' = .ref (b k) from h); cases h2
  | int x => cases (show v' = .int x from h); cases h2
  | long x => exact ⟨x, rfl⟩
  | null => cases (show v' = .null from h); cases h2
  | double x => exact h.elim
/-- category 1, by its form -/
def mc1 : Value → Bool
  | .long _ => false
  | .double _ => false
  | _ => true
theorem mrv.c1 {b : Nat → Nat} {ws : va_W} {v v' : Value} (h : mrv b ws v v') (h2 : mc1 v = true) : v'.category = 1 := by
  rcases lv_cat v' with h3 | h3
  · exact h3
  · obtain ⟨x, rfl⟩ := h.cat h3
    cases h2
theorem mExt.set {ws : va_W} {k : Nat} {a : Nat} {e0 e : va_E} (h : ws[k]? = some (a, e0)) : mExt ws (ws.set k (a, e)) := by
  intro j x hj
  have hl := (List.getElem?_eq_some_iff.mp h).1
  by_cases q : j = k
  · subst q
    rw [h] at hj
    cases hj
    exact ⟨_, List.getElem?_set_self hl, rfl⟩
  · exact ⟨x, by rw [List.getElem?_set_ne (Ne.symm q)]; exact hj, rfl⟩
theorem mExt.push {ws t : va_W} : mExt ws (ws ++ t) := by
  intro j x hj
  have hl := (List.getElem?_eq_some_iff.mp hj).1
  exact ⟨x, by rw [List.getElem?_append_left hl]; exact hj, rfl⟩
theorem mW.at {G : mG} {h : mH} {n k : Nat} {ws : va_W} {e : Nat × va_E} (hW : mW G h n ws) (hk : ws[k]? = some e) : mR G ws (h k) e.2 := hW.2 k e hk
theorem mW.lt {G : mG} {h : mH} {n k : Nat} {ws : va_W} (hW : mW G h n ws) (hk : k < n) : ∃ e, ws[k]? = some e := by
  rw [← hW.1] at hk
  exact ⟨ws[k], List.getElem?_eq_getElem hk⟩
theorem mW.set {G : mG} {h : mH} {n k a : Nat} {ws : va_W} {e0 e : va_E} {x : mE} (hW : mW G h n ws) (hk : ws[k]? = some (a, e0)) (hx : mR G ws x e) : mW G (mup h k x) n (ws.set k (a, e)) := by
  have hE : mExt ws (ws.set k (a, e)) := mExt.set hk
  have hl := (List.getElem?_eq_some_iff.mp hk).1
  refine ⟨by rw [List.length_set]; exact hW.1, fun j y hj => ?_⟩
  by_cases q : j = k
  · subst q
    rw [List.getElem?_set_self hl] at hj
    cases hj
    rw [mup_s]
    exact hx.mono hE
  · rw [List.getElem?_set_ne (Ne.symm q)] at hj
    rw [mup_n q]
    exact (hW.2 j y hj).mono hE
theorem mW.push {G : mG} {h : mH} {n a : Nat} {ws : va_W} {e : va_E} {x : mE} (hW : mW G h n ws) (hx : mR G (ws ++ [(a, e)]) x e) : mW G (mup h n x) (n + 1) (ws ++ [(a, e)]) := by
  refine ⟨by rw [List.length_append, hW.1]; rfl, fun j y hj => ?_⟩
  have hj2 := (List.getElem?_eq_some_iff.mp hj).1
  rw [List.length_append, hW.1] at hj2
  by_cases q : j = n
  · subst q
    rw [List.getElem?_append_right (by rw [hW.1]; exact Nat.le_refl _), hW.1, Nat.sub_self] at hj
    cases hj
    rw [mup_s]
    exact hx
  · have hl : j < n := by simp at hj2; omega
    rw [List.getElem?_append_left (by rw [hW.1]; exact hl)] at hj
    rw [mup_n q]
    exact (hW.2 j y hj).mono mExt.push
/-! the words -/
def mWd (M : mM) : Cond := match M.2.2.2.2.1 with
  | [] => .code M.1 M.2.1 M.2.2.1 M.2.2.2.1
  | hh => .codeWith M.1 M.2.1 M.2.2.1 M.2.2.2.1 hh
def mWs (M : mM) : List Cond := mWd M :: mGw
theorem mGood {M N : mM} (h : mWd N ∈ mGw) : GoodIn (mWs M) (mWs N) := by
  intro w hw
  rcases List.mem_cons.mp hw with rfl | h1
  · exact ⟨List.mem_cons_of_mem _ h, good_of_word (List.mem_filter.mp h).2⟩
  · exact ⟨List.mem_cons_of_mem _ h1, good_of_word (List.mem_filter.mp h1).2⟩
theorem mGoodG {N : mM} (h : mWd N ∈ mGw) : GoodIn mGw (mWs N) := by
  intro w hw
  rcases List.mem_cons.mp hw with rfl | h1
  · exact ⟨h, good_of_word (List.mem_filter.mp h).2⟩
  · exact ⟨h1, good_of_word (List.mem_filter.mp h1).2⟩
/-! what holds of the machine at a method's entry -/
/-- the text constants -/
def mTx (G : mG) (U : State) : Prop := vk_R RX2 287 "no such row" (G.2.2.1 0) U ∧ vk_R RX2 290 "an argument is out of its range" (G.2.2.1 1) U ∧ vk_R RX2 237 "no such number of the house" (G.2.2.1 2) U ∧ vk_R RX2 294 "no such place" (G.2.2.1 3) U ∧ vk_R RX4 117 "" (G.2.2.1 4) U ∧ vk_R RX4 122 " " (G.2.2.2.1 1) U
def mNx (U : State) : Prop := (∀ w ∈ mNw, va_Nw w U) ∧ va_Nc "java/lang/IllegalArgumentException" "java/lang/IndexOutOfBoundsException" U ∧ va_AOA .int U
theorem mNx.moved {u U : State} (hW : u.WarmedH U.vm) (h : mNx u) : mNx U := by
  refine ⟨fun w hw => ?_, va_Nc.moved hW.alike h.2.1, va_AOA.moved hW.alike h.2.2⟩
  have h1 := h.1 w hw
  have h2 := (List.mem_filter.mp hw).2
  cases w with
  | fieldLinkNest a i b n d x => exact va_Nw.warmF hW h1
  | methodLinkNest a i x y => exact va_Nw.warmM hW h1
  | castable a b => exact va_Nw.warmC hW h1
  | declares a => exact va_Nw.warmD hW h1
  | _ => cases h2
/-- of a state, whatever the heap -/
def mS (G : mG) (U : State) : Prop := va_K G.1 vwCl (mTy G.2.1) U ∧ (∃ kA, U.vm.classes[G.2.1 3]? = some kA ∧ kA.kind = .array (G.2.1 0) (.array .int)) ∧ (∃ kI, U.vm.classes[G.2.1 0]? = some kI ∧ ∃ c, kI.kind = .array c .int) ∧ va_AO "Runweaver$Row" U ∧ mTx G U ∧ mNx U
/-- of the statics -/
def mZt (G : mG) (A : Nat → Prop) (U : State) (H : Heap) : Prop := va_Z "java/lang/String" "COMPACT_STRINGS" "Z" (.int 1) A U H ∧ va_Z "java/lang/Integer" "DigitOnes" "[B" (.ref (G.2.2.2.1 3)) A U H ∧ va_Z "java/lang/Integer" "DigitTens" "[B" (.ref (G.2.2.2.1 4)) A U H ∧ (∃ f : Nat → Int32, va_T .byte (G.2.2.2.1 3) 100 (fun j => .int (f j)) A U H) ∧ (∃ f : Nat → Int32, va_T .byte (G.2.2.2.1 4) 100 (fun j => .int (f j)) A U H) ∧ va_O "java/lang/String" (G.2.2.2.1 1) A U H ∧ va_OF "java/lang/String" "coder" "B" (.int 0) (G.2.2.2.1 1) A U H ∧ va_OF "java/lang/String" "value" "[B" (.ref (G.2.2.2.1 2)) (G.2.2.2.1 1) A U H ∧ ∃ f : Nat → Int32, va_T .byte (G.2.2.2.1 2) 1 (fun j => .int (f j)) A U H ∧ fits .byte (.int (f 0)) = true
theorem mZt.moved {G : mG} {A : Nat → Prop} {u U : State} {H : Heap} (hvm : u.vm.Alike U.vm) (h : mZt G A u H) : mZt G A U H := by
  obtain ⟨a1, a2, a3, ⟨f1, a4⟩, ⟨f2, a5⟩, a6, a7, a8, f3, a9, a10⟩ := h
  exact ⟨a1.moved hvm, a2.moved hvm, a3.moved hvm, ⟨f1, a4.moved hvm⟩, ⟨f2, a5.moved hvm⟩, a6.moved hvm, a7.moved hvm, a8.moved hvm, f3, a9.moved hvm, a10⟩
theorem mZt.kept {G : mG} {A : Nat → Prop} {U : State} {H H1 : Heap} (h : mZt G A U H) (hq : ∀ a : Nat, a < H.size → ¬ A a → H1[a]? = H[a]?) : mZt G A U H1 := by
  obtain ⟨a1, a2, a3, ⟨f1, a4⟩, ⟨f2, a5⟩, a6, a7, a8, f3, a9, a10⟩ := h
  exact ⟨a1.kept hq, a2.kept hq, a3.kept hq, ⟨f1, a4.kept hq⟩, ⟨f2, a5.kept hq⟩, a6.kept hq, a7.kept hq, a8.kept hq, f3, a9.kept hq, a10⟩
theorem mZt.narrow {G : mG} {A B : Nat → Prop} {U : State} {H : Heap} (h : mZt G A U H) (hAB : ∀ q, B q → A q) : mZt G B U H := by
  obtain ⟨a1, a2, a3, ⟨f1, a4⟩, ⟨f2, a5⟩, a6, a7, a8, f3, a9, a10⟩ := h
  exact ⟨a1.narrow hAB, a2.narrow hAB, a3.narrow hAB, ⟨f1, a4.narrow hAB⟩, ⟨f2, a5.narrow hAB⟩, a6.narrow hAB, a7.narrow hAB, a8.narrow hAB, f3, a9.narrow hAB, a10⟩
def mZ (G : mG) (A : Nat → Prop) (U : State) (H : Heap) : Prop := vx_Zq Bundle.tN "UNASSIGNED_STACK" Bundle.steD A U H ∧ vx_Zq Bundle.tN "SUPPRESSED_SENTINEL" Bundle.listD A U H ∧ mZt G A U H
theorem mS.moved {G : mG} {u U : State} (hW : u.WarmedH U.vm) (h : mS G u) : mS G U := by
  have hvm := hW.alike
  obtain ⟨h1, ⟨kA, h2, h3⟩, ⟨kI, h4, c, h5⟩, h6, ⟨t0, t1, t2, t3, t4, t5⟩, t6⟩ := h
  obtain ⟨kA', g1, g2⟩ := hvm.2.2 _ _ h2
  obtain ⟨kI', g3, g4⟩ := hvm.2.2 _ _ h4
  exact ⟨va_K.moved hvm h1, ⟨kA', g1, by rw [g2]; exact h3⟩, ⟨kI', g3, c, by rw [g4]; exact h5⟩, va_AO.moved hvm h6, ⟨t0.warm hW, t1.warm hW, t2.warm hW, t3.warm hW, t4.warm hW, t5.warm hW⟩, t6.moved hW⟩
theorem mZ.moved {G : mG} {A : Nat → Prop} {u U : State} {H : Heap} (hvm : u.vm.Alike U.vm) (h : mZ G A u H) : mZ G A U H := ⟨vx_Zq.moved hvm h.1, vx_Zq.moved hvm h.2.1, mZt.moved hvm h.2.2⟩
theorem mZ.kept {G : mG} {A : Nat → Prop} {U : State} {H H1 : Heap} (h : mZ G A U H) (hq : ∀ a : Nat, a < H.size → ¬ A a → H1[a]? = H[a]?) : mZ G A U H1 := ⟨h.1.kept hq, h.2.1.kept hq, h.2.2.kept hq⟩
theorem mZ.narrow {G : mG} {A B : Nat → Prop} {U : State} {H : Heap} (h : mZ G A U H) (hAB : ∀ q, B q → A q) : mZ G B U H := ⟨h.1.narrow hAB, h.2.1.narrow hAB, h.2.2.narrow hAB⟩
def mCx (l : Launch) (M : mM) (p : Program) (s : State) (m : MethodId) (args : Array Value) (meth : Method) (c : Code) (G : mG) (w0 : va_W) : Prop :=
  p.tables.exec = Jvm.exec ∧ l.stackTraces = false ∧ c.code = M.2.1 ∧ meth.sig.returnType = M.2.2.2.1 ∧ c.maxLocals = M.2.2.1 ∧ s.vm.findClass M.1.cls = some m.cls ∧ (∀ w ∈ mGw, w.before args s = true) ∧ meth.locks = false ∧ meth.name = M.1.name ∧ c.exceptionTable.toList = tableOf M.2.2.2.2.1 ∧
  mS G s ∧ mZ G (va_A w0 s.heap.size) s s.heap ∧ (M.2.2.2.2.2 = true → va_X (G.2.2.2.1 0) G.2.2.2.2.1 G.2.2.2.2.2 s s.heap ∧ G.2.2.2.1 0 < s.heap.size ∧ w0 = [])
def mDy (M : mM) (G : mG) (w0 : va_W) (s : State) (ls st : List Value) (h : mH) (n : Nat) (H : Heap) (locs : List Loc) (LS : Array Slot) (ws : va_W) (st' : List Value) : Prop :=
  mW G h n ws ∧ va_P G.1 vwCl ws H ∧ va_D (va_A w0 s.heap.size) ws ∧ va_S (va_A w0 s.heap.size) s.heap H locs ∧ mExt w0 ws ∧ mL G.2.2.2.1 ws ls M.2.2.1 LS ∧ mrl G.2.2.2.1 ws st st'
/-- what is owed at the end, seen from the start -/
abbrev mK : Type := State → Array Value → List Frame → mG → va_W → State → Prop
/-- from this frame the method comes to its end as K says -/
def mT (l : Launch) (M : mM) (R : Room) (K : mK) (pc : Nat) (ls st : List Value) (h : mH) (n cc sc : Nat) : Prop :=
  ∀ (p : Program) (e : Env) (s : State) (m : MethodId) (args : Array Value) (below : List Frame) (meth : Method) (c : Code) (G : mG) (w0 : va_W) (H : Heap) (locs : List Loc) (LS : Array Slot) (ws : va_W) (st' : List Value),
    mCx l M p s m args meth c G w0 → mDy M G w0 s ls st h n H locs LS ws st' → W p l e R s m args below meth c H locs cc sc (K s args below G w0) (F0 m pc LS st')
def mrO (b : Nat → Nat) (ws : va_W) : Option Value → Option Value → Prop
  | none, r => r = none
  | some v, r => ∃ v', r = some v' ∧ mrv b ws v v'
/-- the world behind a method: its cells, those that were there at the same addresses -/
def mB (G : mG) (w0 : va_W) (sz : Nat) (h : mH) (n : Nat) (st t : State) : Prop := ∃ ws, mW G h n ws ∧ mExt w0 ws ∧ va_P G.1 vwCl ws t.heap ∧ va_D (va_A w0 sz) ws ∧ va_F (va_A w0 sz) st t
def mQ (G : mG) (w0 : va_W) (sz : Nat) (Φ : Option Value → mH → Nat → Prop) : Array Value → State → Outcome → State → Prop := fun _ st o t => ∃ v v' h n ws, o = .returned v' ∧ Φ v h n ∧ mrO G.2.2.2.1 ws v v' ∧ mW G h n ws ∧ mExt w0 ws ∧ va_P G.1 vwCl ws t.heap ∧ va_D (va_A w0 sz) ws ∧ va_F (va_A w0 sz) st t
def mXq (G : mG) (w0 : va_W) (sz : Nat) (X : String → mH → Nat → Prop) : String → State → State → Prop := fun E st t => ∃ h n, X E h n ∧ mB G w0 sz h n st t
def mKo (R : Room) (Φ : Option Value → mH → Nat → Prop) (X : String → mH → Nat → Prop) : mK := fun s args below G w0 => vx_MQ below (mQ G w0 s.heap.size Φ) (mXq G w0 s.heap.size X) args s R.cells R.slots (va_A w0 s.heap.size)
def mPc (G : mG) (ws : va_W) (sz : Nat) (vs : List Value) : Array Value → State → Prop := va_Pc vs (fun U => U.heap.size = sz ∧ va_P G.1 vwCl ws U.heap ∧ va_D (fun _ => True) ws ∧ mS G U ∧ mZ G (va_A ws sz) U U.heap)
/-- a method's contract: called on av in the heap h of n cells it returns with Φ, or throws with X -/
def mC (l : Launch) (M : mM) (R : Room) (av : List Value) (h : mH) (n : Nat) (Φ : Option Value → mH → Nat → Prop) (X : String → mH → Nat → Prop) : Prop :=
  ∀ (G : mG) (ws : va_W) (sz : Nat) (vs : List Value), mW G h n ws → mrl G.2.2.2.1 ws av vs → vx_Met l M.1 (mWs M) R (mPc G ws sz vs) (mQ G ws sz Φ) (mXq G ws sz X) R.cells R.slots (va_A ws sz)
theorem mPc.blind {G : mG} {ws : va_W} {sz : Nat} {vs : List Value} : FrameBlind (mPc G ws sz vs) := by
  intro a U g mk h
  obtain ⟨h1, h2, h3, h4, h5, h6⟩ := h
  exact ⟨h1, h2, h3, h4, mS.moved (u := U) (U := U.calling g mk a) (State.WarmedH.refl U) h5, mZ.moved (u := U) (U := U.calling g mk a) (Vm.Alike.refl U.vm) h6⟩
/-- weaker ends -/
theorem mC.weaken {l : Launch} {M : mM} {R : Room} {av : List Value} {h : mH} {n : Nat} {Φ Φ' : Option Value → mH → Nat → Prop} {X X' : String → mH → Nat → Prop} (hC : mC l M R av h n Φ X) (h1 : ∀ v h n, Φ v h n → Φ' v h n) (h2 : ∀ E h n, X E h n → X' E h n) : mC l M R av h n Φ' X' := by
  intro G ws sz vs hW hv
  have k := hC G ws sz vs hW hv
  intro p e ha hc hk s m args below hf happ hP hK
  obtain ⟨t, o, a1, a2, a3, a4⟩ := k p e ha hc hk s m args below hf happ hP hK
  refine ⟨t, o, a1, a2, a3, ?_⟩
  rcases a4 with ⟨⟨v, v', h9, n9, ws9, b1, b2, b3⟩, b4⟩ | ⟨q, b1, E, ce, L, ⟨h9, n9, b2, b3⟩, b4⟩
  · exact Or.inl ⟨⟨v, v', h9, n9, ws9, b1, h1 _ _ _ b2, b3⟩, b4⟩
  · exact Or.inr ⟨q, b1, E, ce, L, ⟨h9, n9, h2 _ _ _ b2, b3⟩, b4⟩
/-! entry -/
def mUn (av : List Value) (nL : Nat) : List Value := av ++ List.replicate (nL - av.length) (.double 0)
theorem lg_sl_c1 : ∀ {vs : List Value}, (∀ v ∈ vs, v.category = 1) → lg_sl vs = vs.map Slot.val
  | [], _ => rfl
  | v :: vs, h => by
    have h1 := h v List.mem_cons_self
    have ih := lg_sl_c1 (vs := vs) (fun w hw => h w (List.mem_cons_of_mem _ hw))
    show (if v.category = 2 then [Slot.val v, Slot.second] else [Slot.val v]) ++ lg_sl vs = _
    rw [if_neg (by omega), ih]
    rfl
theorem lv_args_c1 : ∀ {vs : List Value} {i j : Nat} {v : Value}, (∀ v ∈ vs, v.category = 1) → vs[j]? = some v → (i + j, v) ∈ lv_args i vs
  | [], _, _, _, _, h => by simp at h
  | w :: vs, i, 0, v, _, h => by
    cases h
    exact List.mem_cons_self
  | w :: vs, i, j + 1, v, hc, h => by
    have h1 := hc w List.mem_cons_self
    show (i + (j + 1), v) ∈ (i, w) :: lv_args (if w.category = 2 then i + 2 else i + 1) vs
    rw [if_neg (by omega), show i + (j + 1) = (i + 1) + j by omega]
    exact List.mem_cons_of_mem _ (lv_args_c1 (fun w hw => hc w (List.mem_cons_of_mem _ hw)) h)
theorem mrl.c1 {b : Nat → Nat} {ws : va_W} : ∀ {l l' : List Value}, mrl b ws l l' → l.all mc1 = true → ∀ v ∈ l', v.category = 1
  | [], _, h, _ => by
    cases h
    intro v hv
    cases hv
  | _ :: _, _, h, ha => by
    obtain ⟨v', t', rfl, h2, h3⟩ := h
    rw [List.all_cons, Bool.and_eq_true] at ha
    intro v hv
    rcases List.mem_cons.mp hv with rfl | hv
    · exact h2.c1 ha.1
    · exact h3.c1 ha.2 v hv
theorem mL.entry {b : Nat → Nat} {ws : va_W} {av vs : List Value} {nL : Nat} (hv : mrl b ws av vs) (ha : av.all mc1 = true) (hn : av.length ≤ nL) : mL b ws (mUn av nL) nL (lg_sl vs ++ List.replicate (nL - (lg_sl vs).length) Slot.unset).toArray := by
  have hc := hv.c1 ha
  have hl : (lg_sl vs).length = vs.length := by rw [lg_sl_c1 hc, List.length_map]
  refine ⟨_, lv_entry vs (by rw [hl, hv.len]; exact hn), fun i v hi => ?_⟩
  unfold mUn at hi
  by_cases q : i < av.length
  · rw [List.getElem?_append_left q] at hi
    obtain ⟨v', h1, h2⟩ := hv.get hi
    have h3 := lv_args_c1 (i := 0) hc h1
    rw [Nat.zero_add] at h3
    exact Or.inr ⟨v', h2, h3⟩
  · rw [List.getElem?_append_right (by omega)] at hi
    have := List.mem_of_getElem? hi
    rw [List.mem_replicate] at this
    exact Or.inl ⟨0, this.2⟩
set_option maxHeartbeats 1000000 in
theorem mm_enter {l : Launch} {M : mM} {R : Room} {av : List Value} {h : mH} {n : Nat} {Φ : Option Value → mH → Nat → Prop} {X : String → mH → Nat → Prop} (hl : l.stackTraces = false) (hy : plainName M.1.cls = true) (ht : M.2.2.2.2.1 = []) (hs : M.2.2.2.2.2 = false) (ha : av.all mc1 = true) (hn : av.length ≤ M.2.2.1)
    (k : mT l M R (mKo R Φ X) 0 (mUn av M.2.2.1) [] h n 0 0) : mC l M R av h n Φ X := by
  intro G ws sz vs hW hv
  have ew : mWs M = .code M.1 M.2.1 M.2.2.1 M.2.2.2.1 :: mGw := by unfold mWs mWd; rw [ht]
  refine vx_ofW (cc := M.2.1) (maxL := M.2.2.1) (ret := M.2.2.2.1) hy ew ?_
  intro p e s m args below meth c s₁ B hml hx0 hP
  obtain ⟨rfl, rfl, hP, hD, hS, hZ⟩ := hP
  have hts : ∀ w ∈ mGw, w.before vs.toArray s = true := fun w hw => atoms_spec (ws := mWs M) B.pre w (List.mem_cons_of_mem _ hw)
  have htab : c.exceptionTable.toList = tableOf M.2.2.2.2.1 := by
    rw [ht]
    match hq : c.exceptionTable.toList with
    | [] => rfl
    | x :: _ => exact (hx0 x (by rw [hq]; exact List.mem_cons_self)).elim
  rw [lg_entry_eq]
  exact k p e s m vs.toArray below meth c G ws s.heap [] _ ws [] ⟨B.exec, hl, B.bytes, B.returns, hml, findClass_of_methodNamed B.named, hts, B.notSynchronized, (name_of_methodNamed B.named B.method).1, htab, hS, hZ, fun q => by rw [hs] at q; cases q⟩
    ⟨hW, hP, hD.self, va_S.rf, mExt.rf, mL.entry hv ha hn, rfl⟩
set_option maxHeartbeats 1000000 in
/-- entry of a method with a table -/
theorem mm_enterH {l : Launch} {M : mM} {R : Room} {av : List Value} {h : mH} {n : Nat} {Φ : Option Value → mH → Nat → Prop} {X : String → mH → Nat → Prop} (hl : l.stackTraces = false) (hy : plainName M.1.cls = true) (ht : M.2.2.2.2.1 ≠ []) (hs : M.2.2.2.2.2 = false) (ha : av.all mc1 = true) (hn : av.length ≤ M.2.2.1)
    (k : mT l M R (mKo R Φ X) 0 (mUn av M.2.2.1) [] h n 0 0) : mC l M R av h n Φ X := by
  intro G ws sz vs hW hv
  have ew : mWs M = .codeWith M.1 M.2.1 M.2.2.1 M.2.2.2.1 M.2.2.2.2.1 :: mGw := by
    unfold mWs mWd
    match hq : M.2.2.2.2.1 with
    | [] => exact absurd hq ht
    | x :: t => rfl
  refine vx_ofWH (cc := M.2.1) (maxL := M.2.2.1) (ret := M.2.2.2.1) hy ew ?_
  intro p e s m args below meth c s₁ B hml hP
  obtain ⟨rfl, rfl, hP, hD, hS, hZ⟩ := hP
  have hall := atoms_spec (ws := mWs M) B.pre
  have hts : ∀ w ∈ mGw, w.before vs.toArray s = true := fun w hw => hall w (List.mem_cons_of_mem _ hw)
  have htab : c.exceptionTable.toList = tableOf M.2.2.2.2.1 := vx_table (x := M.1) B (hall _ (by rw [ew]; exact List.mem_cons_self))
  rw [lg_entry_eq]
  exact k p e s m vs.toArray below meth c G ws s.heap [] _ ws [] ⟨B.exec, hl, B.bytes, B.returns, hml, findClass_of_methodNamed B.named, hts, B.notSynchronized, (name_of_methodNamed B.named B.method).1, htab, hS, hZ, fun q => by rw [hs] at q; cases q⟩
    ⟨hW, hP, hD.self, va_S.rf, mExt.rf, mL.entry hv ha hn, rfl⟩

/-! ===== rows of the logic: stack, locals, numbers, branches ===== -/
theorem mrl.cons {b : Nat → Nat} {ws : va_W} {v v' : Value} {l l' : List Value} (h : mrv b ws v v') (h2 : mrl b ws l l') : mrl b ws (v :: l) (v' :: l') := ⟨v', l', rfl, h, h2⟩
theorem mrl.int {b : Nat → Nat} {ws : va_W} {x : Int32} {l t : List Value} (h : mrl b ws (.int x :: l) t) : ∃ t', t = .int x :: t' ∧ mrl b ws l t' := by
  obtain ⟨v', t', rfl, h2, h3⟩ := h
  cases (show v' = .int x from h2)
  exact ⟨t', rfl, h3⟩
theorem mrl.long {b : Nat → Nat} {ws : va_W} {x : Int64} {l t : List Value} (h : mrl b ws (.long x :: l) t) : ∃ t', t = .long x :: t' ∧ mrl b ws l t' := by
  obtain ⟨v', t', rfl, h2, h3⟩ := h
  cases (show v' = .long x from h2)
  exact ⟨t', rfl, h3⟩
theorem mrl.ref {b : Nat → Nat} {k : Nat} {ws : va_W} {l t : List Value} (h : mrl b ws (.ref k :: l) t) : ∃ e t', ws[k]? = some e ∧ t = .ref e.1 :: t' ∧ mrl b ws l t' := by
  obtain ⟨v', t', rfl, ⟨e, h1, h2⟩, h3⟩ := h
  cases h2
  exact ⟨e, t', h1, rfl, h3⟩
theorem mL.at {b : Nat → Nat} {ws : va_W} {ls : List Value} {nL : Nat} {LS : Array Slot} {i : Nat} {v : Value} (h : mL b ws ls nL LS) (hi : ls[i]? = some v) (hd : ∀ x, v ≠ .double x) : ∃ v', mrv b ws v v' ∧ LS[i]? = some (.val v') := by
  obtain ⟨lv, h1, h2⟩ := h
  rcases h2 i v hi with ⟨x, h3⟩ | ⟨v', h3, h4⟩
  · exact absurd h3 (hd x)
  · exact ⟨v', h3, h1.2.2 _ h4⟩
/-- no long begins just below place i -/
def mnl (ls : List Value) : Nat → Bool
  | 0 => true
  | i + 1 => match ls[i]? with
    | some (.long _) => false
    | _ => true
theorem mL.store1 {b : Nat → Nat} {ws : va_W} {ls : List Value} {nL : Nat} {LS LS' : Array Slot} {i : Nat} {v v' : Value} {lv : List (Nat × Value)} (h1 : lv_has LS nL lv) (h2 : ∀ (j : Nat) (w : Value), ls[j]? = some w → (∃ x, w = .double x) ∨ ∃ w', mrv b ws w w' ∧ (j, w') ∈ lv) (hg : mnl ls i = true) (hv : mrv b ws v v') (h3 : lv_has LS' nL ((i, v') :: lv.filter (fun q => !(q.1 == i) && !(q.1 + 1 == i && q.2.category == 2)))) : mL b ws (ls.set i v) nL LS' := by
  refine ⟨_, h3, fun j w hj => ?_⟩
  by_cases q : j = i
  · subst q
    have hl := (List.getElem?_eq_some_iff.mp hj).1
    rw [List.length_set] at hl
    rw [List.getElem?_set_self hl] at hj
    cases hj
    exact Or.inr ⟨v', hv, List.mem_cons_self⟩
  · rw [List.getElem?_set_ne (Ne.symm q)] at hj
    rcases h2 j w hj with h4 | ⟨w', h4, h5⟩
    · exact Or.inl h4
    · refine Or.inr ⟨w', h4, List.mem_cons_of_mem _ (List.mem_filter.mpr ⟨h5, ?_⟩)⟩
      have e1 : (j == i) = false := by simp [q]
      by_cases q2 : j + 1 = i
      · subst q2
        have e2 : (w'.category == 2) = false := by
          rcases lv_cat w' with q3 | q3
          · rw [q3]; rfl
          · obtain ⟨x, rfl⟩ := h4.cat q3
            simp [mnl, hj] at hg
        simp [e1, e2]
      · have e3 : (j + 1 == i) = false := by simp [q2]
        simp [e1, e3]
theorem mL.store2 {b : Nat → Nat} {ws : va_W} {ls : List Value} {nL : Nat} {LS LS' : Array Slot} {i : Nat} {v v' : Value} {lv : List (Nat × Value)} (h1 : lv_has LS nL lv) (h2 : ∀ (j : Nat) (w : Value), ls[j]? = some w → (∃ x, w = .double x) ∨ ∃ w', mrv b ws w w' ∧ (j, w') ∈ lv) (hg : mnl ls i = true) (hv : mrv b ws v v') (h3 : lv_has LS' nL ((i, v') :: lv.filter (fun q => !(q.1 == i) && (!(q.1 == i + 1) && !(q.1 + 1 == i && q.2.category == 2))))) : mL b ws ((ls.set i v).set (i + 1) (.double 0)) nL LS' := by
  refine ⟨_, h3, fun j w hj => ?_⟩
  by_cases q0 : j = i + 1
  · subst q0
    have hl := (List.getElem?_eq_some_iff.mp hj).1
    rw [List.length_set] at hl
    rw [List.getElem?_set_self hl] at hj
    cases hj
    exact Or.inl ⟨0, rfl⟩
  rw [List.getElem?_set_ne (Ne.symm q0)] at hj
  by_cases q : j = i
  · subst q
    have hl := (List.getElem?_eq_some_iff.mp hj).1
    rw [List.length_set] at hl
    rw [List.getElem?_set_self hl] at hj
    cases hj
    exact Or.inr ⟨v', hv, List.mem_cons_self⟩
  · rw [List.getElem?_set_ne (Ne.symm q)] at hj
    rcases h2 j w hj with h4 | ⟨w', h4, h5⟩
    · exact Or.inl h4
    · refine Or.inr ⟨w', h4, List.mem_cons_of_mem _ (List.mem_filter.mpr ⟨h5, ?_⟩)⟩
      have e1 : (j == i) = false := by simp [q]
      have e0 : (j == i + 1) = false := by simp [q0]
      by_cases q2 : j + 1 = i
      · subst q2
        have e2 : (w'.category == 2) = false := by
          rcases lv_cat w' with q3 | q3
          · rw [q3]; rfl
          · obtain ⟨x, rfl⟩ := h4.cat q3
            simp [mnl, hj] at hg
        simp [e1, e0, e2]
      · have e3 : (j + 1 == i) = false := by simp [q2]
        simp [e1, e0, e3]
section MTA
variable {l : Launch} {M : mM} {R : Room} {K : mK} {pc : Nat} {ls st : List Value} {h : mH} {n cc sc : Nat}
/-- an instruction that touches the stack alone -/
theorem mt_lift {pc2 : Nat} {st2 : List Value} (k : mT l M R K pc2 ls st2 h n cc sc)
    (hs : ∀ {p : Program} {e : Env} {s : State} {m : MethodId} {args : Array Value} {below : List Frame} {meth : Method} {c : Code} {H : Heap} {locs : List Loc} {LS : Array Slot} {Q : State → Prop} (b : Nat → Nat) (ws : va_W) (st' : List Value), p.tables.exec = Jvm.exec → c.code = M.2.1 → mrl b ws st st' → ∃ st2', mrl b ws st2 st2' ∧ (W p l e R s m args below meth c H locs cc sc Q (F0 m pc2 LS st2') → W p l e R s m args below meth c H locs cc sc Q (F0 m pc LS st'))) : mT l M R K pc ls st h n cc sc := by
  intro p e s m args below meth c G w0 H locs LS ws st' hC hD
  obtain ⟨d1, d2, d3, d4, d5, d6, d7⟩ := hD
  obtain ⟨st2', h2, hw⟩ := hs (e := e) (s := s) (m := m) (args := args) (below := below) (meth := meth) (H := H) (locs := locs) (LS := LS) (Q := K s args below G w0) G.2.2.2.1 ws st' hC.1 hC.2.2.1 d7
  exact hw (k p e s m args below meth c G w0 H locs LS ws st2' hC ⟨d1, d2, d3, d4, d5, d6, h2⟩)
theorem mt_iconst {q : Int} {v : Int32} (hdg : decode M.2.1 pc = .ok (.iconst q, 1)) (hv : Int32.ofInt q = v) (k : mT l M R K (pc + 1) ls (.int v :: st) h n cc sc) : mT l M R K pc ls st h n cc sc := mt_lift k (fun _ _ _ hx hb hr => ⟨_, mrl.cons (v' := .int v) rfl hr, lv_iconst hx hb hdg hv⟩)
theorem mt_bipush {q : Int} {v : Int32} (hdg : decode M.2.1 pc = .ok (.bipush q, 2)) (hv : (Int8.ofInt q).toInt32 = v) (k : mT l M R K (pc + 2) ls (.int v :: st) h n cc sc) : mT l M R K pc ls st h n cc sc := mt_lift k (fun _ _ _ hx hb hr => ⟨_, mrl.cons (v' := .int v) rfl hr, lv_bipush hx hb hdg hv⟩)
theorem mt_sipush {q : Int} {v : Int32} (hdg : decode M.2.1 pc = .ok (.sipush q, 3)) (hv : (Int16.ofInt q).toInt32 = v) (k : mT l M R K (pc + 3) ls (.int v :: st) h n cc sc) : mT l M R K pc ls st h n cc sc := mt_lift k (fun _ _ _ hx hb hr => ⟨_, mrl.cons (v' := .int v) rfl hr, lv_sipush hx hb hdg hv⟩)
theorem mt_lconst {q : Fin 2} {v : Int64} (hdg : decode M.2.1 pc = .ok (.lconst q, 1)) (hv : Int64.ofNat (q : Nat) = v) (k : mT l M R K (pc + 1) ls (.long v :: st) h n cc sc) : mT l M R K pc ls st h n cc sc := mt_lift k (fun _ _ _ hx hb hr => ⟨_, mrl.cons (v' := .long v) rfl hr, lv_lconst hx hb hdg hv⟩)
theorem mt_iadd {x y : Int32} (hdg : decode M.2.1 pc = .ok (.iadd, 1))  (k : mT l M R K (pc + 1) ls (.int (x + y) :: st) h n cc sc) : mT l M R K pc ls (.int y :: .int x :: st) h n cc sc := mt_lift k (fun _ _ _ hx hb hr => by
  obtain ⟨_, rfl, hr2⟩ := hr.int
  obtain ⟨_, rfl, hr3⟩ := hr2.int
  exact ⟨_, mrl.cons (v' := .int (x + y)) rfl hr3, lv_iadd hx hb hdg ⟩)
theorem mt_isub {x y : Int32} (hdg : decode M.2.1 pc = .ok (.isub, 1))  (k : mT l M R K (pc + 1) ls (.int (x - y) :: st) h n cc sc) : mT l M R K pc ls (.int y :: .int x :: st) h n cc sc := mt_lift k (fun _ _ _ hx hb hr => by
  obtain ⟨_, rfl, hr2⟩ := hr.int
  obtain ⟨_, rfl, hr3⟩ := hr2.int
  exact ⟨_, mrl.cons (v' := .int (x - y)) rfl hr3, lv_isub hx hb hdg ⟩)
theorem mt_imul {x y : Int32} (hdg : decode M.2.1 pc = .ok (.imul, 1))  (k : mT l M R K (pc + 1) ls (.int (x * y) :: st) h n cc sc) : mT l M R K pc ls (.int y :: .int x :: st) h n cc sc := mt_lift k (fun _ _ _ hx hb hr => by
  obtain ⟨_, rfl, hr2⟩ := hr.int
  obtain ⟨_, rfl, hr3⟩ := hr2.int
  exact ⟨_, mrl.cons (v' := .int (x * y)) rfl hr3, lv_imul hx hb hdg ⟩)
theorem mt_iand {x y : Int32} (hdg : decode M.2.1 pc = .ok (.iand, 1))  (k : mT l M R K (pc + 1) ls (.int (x &&& y) :: st) h n cc sc) : mT l M R K pc ls (.int y :: .int x :: st) h n cc sc := mt_lift k (fun _ _ _ hx hb hr => by
  obtain ⟨_, rfl, hr2⟩ := hr.int
  obtain ⟨_, rfl, hr3⟩ := hr2.int
  exact ⟨_, mrl.cons (v' := .int (x &&& y)) rfl hr3, lv_iand hx hb hdg ⟩)
theorem mt_idiv {x y : Int32} (hdg : decode M.2.1 pc = .ok (.idiv, 1)) (hne : ¬ y = 0) (k : mT l M R K (pc + 1) ls (.int (x / y) :: st) h n cc sc) : mT l M R K pc ls (.int y :: .int x :: st) h n cc sc := mt_lift k (fun _ _ _ hx hb hr => by
  obtain ⟨_, rfl, hr2⟩ := hr.int
  obtain ⟨_, rfl, hr3⟩ := hr2.int
  exact ⟨_, mrl.cons (v' := .int (x / y)) rfl hr3, lv_idiv hx hb hdg hne⟩)
theorem mt_irem {x y : Int32} (hdg : decode M.2.1 pc = .ok (.irem, 1)) (hne : ¬ y = 0) (k : mT l M R K (pc + 1) ls (.int (x - x / y * y) :: st) h n cc sc) : mT l M R K pc ls (.int y :: .int x :: st) h n cc sc := mt_lift k (fun _ _ _ hx hb hr => by
  obtain ⟨_, rfl, hr2⟩ := hr.int
  obtain ⟨_, rfl, hr3⟩ := hr2.int
  exact ⟨_, mrl.cons (v' := .int (x - x / y * y)) rfl hr3, lv_irem hx hb hdg hne⟩)
theorem mt_ladd {x y : Int64} (hdg : decode M.2.1 pc = .ok (.ladd, 1))  (k : mT l M R K (pc + 1) ls (.long (x + y) :: st) h n cc sc) : mT l M R K pc ls (.long y :: .long x :: st) h n cc sc := mt_lift k (fun _ _ _ hx hb hr => by
  obtain ⟨_, rfl, hr2⟩ := hr.long
  obtain ⟨_, rfl, hr3⟩ := hr2.long
  exact ⟨_, mrl.cons (v' := .long (x + y)) rfl hr3, lv_ladd hx hb hdg ⟩)
theorem mt_lmul {x y : Int64} (hdg : decode M.2.1 pc = .ok (.lmul, 1))  (k : mT l M R K (pc + 1) ls (.long (x * y) :: st) h n cc sc) : mT l M R K pc ls (.long y :: .long x :: st) h n cc sc := mt_lift k (fun _ _ _ hx hb hr => by
  obtain ⟨_, rfl, hr2⟩ := hr.long
  obtain ⟨_, rfl, hr3⟩ := hr2.long
  exact ⟨_, mrl.cons (v' := .long (x * y)) rfl hr3, lv_lmul hx hb hdg ⟩)
theorem mt_i2l {x : Int32} (hdg : decode M.2.1 pc = .ok (.i2l, 1)) (k : mT l M R K (pc + 1) ls (.long x.toInt64 :: st) h n cc sc) : mT l M R K pc ls (.int x :: st) h n cc sc := mt_lift k (fun _ _ _ hx hb hr => by
  obtain ⟨_, rfl, hr2⟩ := hr.int
  exact ⟨_, mrl.cons (v' := .long x.toInt64) rfl hr2, lv_i2l hx hb hdg rfl⟩)
theorem mt_goto {off : Int} {tgt : Nat} (hdg : decode M.2.1 pc = .ok (.goto off, 3)) (ht : (pc : Int) + off = (tgt : Int)) (k : mT l M R K tgt ls st h n cc sc) : mT l M R K pc ls st h n cc sc := mt_lift k (fun _ _ _ hx hb hr => ⟨_, hr, lv_goto hx hb hdg ht⟩)
theorem mt_dup {v : Value} (hdg : decode M.2.1 pc = .ok (.dup, 1)) (hc : mc1 v = true) (k : mT l M R K (pc + 1) ls (v :: v :: st) h n cc sc) : mT l M R K pc ls (v :: st) h n cc sc := mt_lift k (fun _ _ _ hx hb hr => by
  obtain ⟨_, _, rfl, h1, hr2⟩ := hr
  exact ⟨_, mrl.cons h1 (mrl.cons h1 hr2), lv_dup hx hb hdg (h1.c1 hc)⟩)
theorem mt_dup_x1 {v w : Value} (hdg : decode M.2.1 pc = .ok (.dup_x1, 1)) (hc : mc1 v = true) (hc2 : mc1 w = true) (k : mT l M R K (pc + 1) ls (v :: w :: v :: st) h n cc sc) : mT l M R K pc ls (v :: w :: st) h n cc sc := mt_lift k (fun _ _ _ hx hb hr => by
  obtain ⟨_, _, rfl, h1, hr2⟩ := hr
  obtain ⟨_, _, rfl, h2, hr3⟩ := hr2
  exact ⟨_, mrl.cons h1 (mrl.cons h2 (mrl.cons h1 hr3)), lv_dup_x1 hx hb hdg (h1.c1 hc) (h2.c1 hc2)⟩)
theorem mt_pop {v : Value} (hdg : decode M.2.1 pc = .ok (.pop, 1)) (hc : mc1 v = true) (k : mT l M R K (pc + 1) ls st h n cc sc) : mT l M R K pc ls (v :: st) h n cc sc := mt_lift k (fun _ _ _ hx hb hr => by
  obtain ⟨_, _, rfl, h1, hr2⟩ := hr
  exact ⟨_, hr2, lv_pop hx hb hdg (h1.c1 hc)⟩)
theorem mt_pop2 {v : Int64} (hdg : decode M.2.1 pc = .ok (.pop2, 1)) (k : mT l M R K (pc + 1) ls st h n cc sc) : mT l M R K pc ls (.long v :: st) h n cc sc := mt_lift k (fun _ _ _ hx hb hr => by
  obtain ⟨_, rfl, hr2⟩ := hr.long
  exact ⟨_, hr2, lv_pop2_2 hx hb hdg rfl⟩)
theorem mt_ldc {index : Nat} {v : Int32} (hdg : decode M.2.1 pc = .ok (.ldc index, 2)) (hw : Jvm.Cond.constant M.1.cls index v ∈ mGw) (k : mT l M R K (pc + 2) ls (.int v :: st) h n cc sc) : mT l M R K pc ls st h n cc sc := by
  intro p e s m args below meth c G w0 H locs LS ws st' hC hD
  obtain ⟨d1, d2, d3, d4, d5, d6, d7⟩ := hD
  have hC' := hC
  obtain ⟨hx, -, hb, -, -, hown, hts, -⟩ := hC'
  exact lv_ldc hx hb hown (hts _ hw) hdg (k p e s m args below meth c G w0 H locs LS ws _ hC ⟨d1, d2, d3, d4, d5, d6, mrl.cons (v' := .int v) rfl d7⟩)
theorem mt_ldcw {index : Nat} {v : Int32} (hdg : decode M.2.1 pc = .ok (.ldc_w index, 3)) (hw : Jvm.Cond.constant M.1.cls index v ∈ mGw) (k : mT l M R K (pc + 3) ls (.int v :: st) h n cc sc) : mT l M R K pc ls st h n cc sc := by
  intro p e s m args below meth c G w0 H locs LS ws st' hC hD
  obtain ⟨d1, d2, d3, d4, d5, d6, d7⟩ := hD
  have hC' := hC
  obtain ⟨hx, -, hb, -, -, hown, hts, -⟩ := hC'
  exact lv_ldcw hx hb hown (hts _ hw) hdg (k p e s m args below meth c G w0 H locs LS ws _ hC ⟨d1, d2, d3, d4, d5, d6, mrl.cons (v' := .int v) rfl d7⟩)
theorem mt_ldc2 {index : Nat} {v : Int64} (hdg : decode M.2.1 pc = .ok (.ldc2_w index, 3)) (hw : Jvm.Cond.constantLong M.1.cls index v ∈ mGw) (k : mT l M R K (pc + 3) ls (.long v :: st) h n cc sc) : mT l M R K pc ls st h n cc sc := by
  intro p e s m args below meth c G w0 H locs LS ws st' hC hD
  obtain ⟨d1, d2, d3, d4, d5, d6, d7⟩ := hD
  have hC' := hC
  obtain ⟨hx, -, hb, -, -, hown, hts, -⟩ := hC'
  exact lv_ldc2 hx hb hown (hts _ hw) hdg (k p e s m args below meth c G w0 H locs LS ws _ hC ⟨d1, d2, d3, d4, d5, d6, mrl.cons (v' := .long v) rfl d7⟩)
theorem mt_icmp_eq {x y : Int32} {off : Int} {tgt : Nat} (hdg : decode M.2.1 pc = .ok (.if_icmp .eq off, 3)) (ht : (pc : Int) + off = (tgt : Int)) (kt : x = y → mT l M R K tgt ls st h n cc sc) (kf : ¬ x = y → mT l M R K (pc + 3) ls st h n cc sc) : mT l M R K pc ls (.int y :: .int x :: st) h n cc sc := by
  intro p e s m args below meth c G w0 H locs LS ws st' hC hD
  obtain ⟨d1, d2, d3, d4, d5, d6, d7⟩ := hD
  obtain ⟨_, rfl, d7a⟩ := d7.int
  obtain ⟨_, rfl, d7b⟩ := d7a.int
  exact lv_icmp_eq hC.1 hC.2.2.1 hdg ht (fun q => kt q p e s m args below meth c G w0 H locs LS ws _ hC ⟨d1, d2, d3, d4, d5, d6, d7b⟩) (fun q => kf q p e s m args below meth c G w0 H locs LS ws _ hC ⟨d1, d2, d3, d4, d5, d6, d7b⟩)
theorem mt_icmp_ne {x y : Int32} {off : Int} {tgt : Nat} (hdg : decode M.2.1 pc = .ok (.if_icmp .ne off, 3)) (ht : (pc : Int) + off = (tgt : Int)) (kt : ¬ x = y → mT l M R K tgt ls st h n cc sc) (kf : x = y → mT l M R K (pc + 3) ls st h n cc sc) : mT l M R K pc ls (.int y :: .int x :: st) h n cc sc := by
  intro p e s m args below meth c G w0 H locs LS ws st' hC hD
  obtain ⟨d1, d2, d3, d4, d5, d6, d7⟩ := hD
  obtain ⟨_, rfl, d7a⟩ := d7.int
  obtain ⟨_, rfl, d7b⟩ := d7a.int
  exact lv_icmp_ne hC.1 hC.2.2.1 hdg ht (fun q => kt q p e s m args below meth c G w0 H locs LS ws _ hC ⟨d1, d2, d3, d4, d5, d6, d7b⟩) (fun q => kf q p e s m args below meth c G w0 H locs LS ws _ hC ⟨d1, d2, d3, d4, d5, d6, d7b⟩)
theorem mt_icmp_lt {x y : Int32} {off : Int} {tgt : Nat} (hdg : decode M.2.1 pc = .ok (.if_icmp .lt off, 3)) (ht : (pc : Int) + off = (tgt : Int)) (kt : x < y → mT l M R K tgt ls st h n cc sc) (kf : ¬ x < y → mT l M R K (pc + 3) ls st h n cc sc) : mT l M R K pc ls (.int y :: .int x :: st) h n cc sc := by
  intro p e s m args below meth c G w0 H locs LS ws st' hC hD
  obtain ⟨d1, d2, d3, d4, d5, d6, d7⟩ := hD
  obtain ⟨_, rfl, d7a⟩ := d7.int
  obtain ⟨_, rfl, d7b⟩ := d7a.int
  exact lv_icmp_lt hC.1 hC.2.2.1 hdg ht (fun q => kt q p e s m args below meth c G w0 H locs LS ws _ hC ⟨d1, d2, d3, d4, d5, d6, d7b⟩) (fun q => kf q p e s m args below meth c G w0 H locs LS ws _ hC ⟨d1, d2, d3, d4, d5, d6, d7b⟩)
theorem mt_icmp_ge {x y : Int32} {off : Int} {tgt : Nat} (hdg : decode M.2.1 pc = .ok (.if_icmp .ge off, 3)) (ht : (pc : Int) + off = (tgt : Int)) (kt : y ≤ x → mT l M R K tgt ls st h n cc sc) (kf : ¬ y ≤ x → mT l M R K (pc + 3) ls st h n cc sc) : mT l M R K pc ls (.int y :: .int x :: st) h n cc sc := by
  intro p e s m args below meth c G w0 H locs LS ws st' hC hD
  obtain ⟨d1, d2, d3, d4, d5, d6, d7⟩ := hD
  obtain ⟨_, rfl, d7a⟩ := d7.int
  obtain ⟨_, rfl, d7b⟩ := d7a.int
  exact lv_icmp_ge hC.1 hC.2.2.1 hdg ht (fun q => kt q p e s m args below meth c G w0 H locs LS ws _ hC ⟨d1, d2, d3, d4, d5, d6, d7b⟩) (fun q => kf q p e s m args below meth c G w0 H locs LS ws _ hC ⟨d1, d2, d3, d4, d5, d6, d7b⟩)
theorem mt_icmp_gt {x y : Int32} {off : Int} {tgt : Nat} (hdg : decode M.2.1 pc = .ok (.if_icmp .gt off, 3)) (ht : (pc : Int) + off = (tgt : Int)) (kt : y < x → mT l M R K tgt ls st h n cc sc) (kf : ¬ y < x → mT l M R K (pc + 3) ls st h n cc sc) : mT l M R K pc ls (.int y :: .int x :: st) h n cc sc := by
  intro p e s m args below meth c G w0 H locs LS ws st' hC hD
  obtain ⟨d1, d2, d3, d4, d5, d6, d7⟩ := hD
  obtain ⟨_, rfl, d7a⟩ := d7.int
  obtain ⟨_, rfl, d7b⟩ := d7a.int
  exact lv_icmp_gt hC.1 hC.2.2.1 hdg ht (fun q => kt q p e s m args below meth c G w0 H locs LS ws _ hC ⟨d1, d2, d3, d4, d5, d6, d7b⟩) (fun q => kf q p e s m args below meth c G w0 H locs LS ws _ hC ⟨d1, d2, d3, d4, d5, d6, d7b⟩)
theorem mt_icmp_le {x y : Int32} {off : Int} {tgt : Nat} (hdg : decode M.2.1 pc = .ok (.if_icmp .le off, 3)) (ht : (pc : Int) + off = (tgt : Int)) (kt : x ≤ y → mT l M R K tgt ls st h n cc sc) (kf : ¬ x ≤ y → mT l M R K (pc + 3) ls st h n cc sc) : mT l M R K pc ls (.int y :: .int x :: st) h n cc sc := by
  intro p e s m args below meth c G w0 H locs LS ws st' hC hD
  obtain ⟨d1, d2, d3, d4, d5, d6, d7⟩ := hD
  obtain ⟨_, rfl, d7a⟩ := d7.int
  obtain ⟨_, rfl, d7b⟩ := d7a.int
  exact lv_icmp_le hC.1 hC.2.2.1 hdg ht (fun q => kt q p e s m args below meth c G w0 H locs LS ws _ hC ⟨d1, d2, d3, d4, d5, d6, d7b⟩) (fun q => kf q p e s m args below meth c G w0 H locs LS ws _ hC ⟨d1, d2, d3, d4, d5, d6, d7b⟩)
theorem mt_if_eq {x : Int32} {off : Int} {tgt : Nat} (hdg : decode M.2.1 pc = .ok (.ifCond .eq off, 3)) (ht : (pc : Int) + off = (tgt : Int)) (kt : x = 0 → mT l M R K tgt ls st h n cc sc) (kf : ¬ x = 0 → mT l M R K (pc + 3) ls st h n cc sc) : mT l M R K pc ls (.int x :: st) h n cc sc := by
  intro p e s m args below meth c G w0 H locs LS ws st' hC hD
  obtain ⟨d1, d2, d3, d4, d5, d6, d7⟩ := hD
  obtain ⟨_, rfl, d7a⟩ := d7.int
  exact lv_if_eq hC.1 hC.2.2.1 hdg ht (fun q => kt q p e s m args below meth c G w0 H locs LS ws _ hC ⟨d1, d2, d3, d4, d5, d6, d7a⟩) (fun q => kf q p e s m args below meth c G w0 H locs LS ws _ hC ⟨d1, d2, d3, d4, d5, d6, d7a⟩)
theorem mt_if_ne {x : Int32} {off : Int} {tgt : Nat} (hdg : decode M.2.1 pc = .ok (.ifCond .ne off, 3)) (ht : (pc : Int) + off = (tgt : Int)) (kt : ¬ x = 0 → mT l M R K tgt ls st h n cc sc) (kf : x = 0 → mT l M R K (pc + 3) ls st h n cc sc) : mT l M R K pc ls (.int x :: st) h n cc sc := by
  intro p e s m args below meth c G w0 H locs LS ws st' hC hD
  obtain ⟨d1, d2, d3, d4, d5, d6, d7⟩ := hD
  obtain ⟨_, rfl, d7a⟩ := d7.int
  exact lv_if_ne hC.1 hC.2.2.1 hdg ht (fun q => kt q p e s m args below meth c G w0 H locs LS ws _ hC ⟨d1, d2, d3, d4, d5, d6, d7a⟩) (fun q => kf q p e s m args below meth c G w0 H locs LS ws _ hC ⟨d1, d2, d3, d4, d5, d6, d7a⟩)
theorem mt_if_lt {x : Int32} {off : Int} {tgt : Nat} (hdg : decode M.2.1 pc = .ok (.ifCond .lt off, 3)) (ht : (pc : Int) + off = (tgt : Int)) (kt : x < 0 → mT l M R K tgt ls st h n cc sc) (kf : ¬ x < 0 → mT l M R K (pc + 3) ls st h n cc sc) : mT l M R K pc ls (.int x :: st) h n cc sc := by
  intro p e s m args below meth c G w0 H locs LS ws st' hC hD
  obtain ⟨d1, d2, d3, d4, d5, d6, d7⟩ := hD
  obtain ⟨_, rfl, d7a⟩ := d7.int
  exact lv_if_lt hC.1 hC.2.2.1 hdg ht (fun q => kt q p e s m args below meth c G w0 H locs LS ws _ hC ⟨d1, d2, d3, d4, d5, d6, d7a⟩) (fun q => kf q p e s m args below meth c G w0 H locs LS ws _ hC ⟨d1, d2, d3, d4, d5, d6, d7a⟩)
theorem mt_if_ge {x : Int32} {off : Int} {tgt : Nat} (hdg : decode M.2.1 pc = .ok (.ifCond .ge off, 3)) (ht : (pc : Int) + off = (tgt : Int)) (kt : 0 ≤ x → mT l M R K tgt ls st h n cc sc) (kf : ¬ 0 ≤ x → mT l M R K (pc + 3) ls st h n cc sc) : mT l M R K pc ls (.int x :: st) h n cc sc := by
  intro p e s m args below meth c G w0 H locs LS ws st' hC hD
  obtain ⟨d1, d2, d3, d4, d5, d6, d7⟩ := hD
  obtain ⟨_, rfl, d7a⟩ := d7.int
  exact lv_if_ge hC.1 hC.2.2.1 hdg ht (fun q => kt q p e s m args below meth c G w0 H locs LS ws _ hC ⟨d1, d2, d3, d4, d5, d6, d7a⟩) (fun q => kf q p e s m args below meth c G w0 H locs LS ws _ hC ⟨d1, d2, d3, d4, d5, d6, d7a⟩)
theorem mt_if_gt {x : Int32} {off : Int} {tgt : Nat} (hdg : decode M.2.1 pc = .ok (.ifCond .gt off, 3)) (ht : (pc : Int) + off = (tgt : Int)) (kt : 0 < x → mT l M R K tgt ls st h n cc sc) (kf : ¬ 0 < x → mT l M R K (pc + 3) ls st h n cc sc) : mT l M R K pc ls (.int x :: st) h n cc sc := by
  intro p e s m args below meth c G w0 H locs LS ws st' hC hD
  obtain ⟨d1, d2, d3, d4, d5, d6, d7⟩ := hD
  obtain ⟨_, rfl, d7a⟩ := d7.int
  exact lv_if_gt hC.1 hC.2.2.1 hdg ht (fun q => kt q p e s m args below meth c G w0 H locs LS ws _ hC ⟨d1, d2, d3, d4, d5, d6, d7a⟩) (fun q => kf q p e s m args below meth c G w0 H locs LS ws _ hC ⟨d1, d2, d3, d4, d5, d6, d7a⟩)
theorem mt_if_le {x : Int32} {off : Int} {tgt : Nat} (hdg : decode M.2.1 pc = .ok (.ifCond .le off, 3)) (ht : (pc : Int) + off = (tgt : Int)) (kt : x ≤ 0 → mT l M R K tgt ls st h n cc sc) (kf : ¬ x ≤ 0 → mT l M R K (pc + 3) ls st h n cc sc) : mT l M R K pc ls (.int x :: st) h n cc sc := by
  intro p e s m args below meth c G w0 H locs LS ws st' hC hD
  obtain ⟨d1, d2, d3, d4, d5, d6, d7⟩ := hD
  obtain ⟨_, rfl, d7a⟩ := d7.int
  exact lv_if_le hC.1 hC.2.2.1 hdg ht (fun q => kt q p e s m args below meth c G w0 H locs LS ws _ hC ⟨d1, d2, d3, d4, d5, d6, d7a⟩) (fun q => kf q p e s m args below meth c G w0 H locs LS ws _ hC ⟨d1, d2, d3, d4, d5, d6, d7a⟩)
theorem mt_iload {i : Nat} {x : Int32} (hdg : decode M.2.1 pc = .ok (.iload i, 2)) (hl : ls[i]? = some (.int x)) (k : mT l M R K (pc + 2) ls (.int x :: st) h n cc sc) : mT l M R K pc ls st h n cc sc := by
  intro p e s m args below meth c G w0 H locs LS ws st' hC hD
  obtain ⟨d1, d2, d3, d4, d5, d6, d7⟩ := hD
  obtain ⟨v', h1, h2⟩ := d6.at hl (by intro x q; cases q)
  cases (show v' = .int x from h1)
  exact lv_iload hC.1 hC.2.2.1 hdg h2 (k p e s m args below meth c G w0 H locs LS ws _ hC ⟨d1, d2, d3, d4, d5, d6, mrl.cons (v' := .int x) rfl d7⟩)
theorem mt_lload {i : Nat} {x : Int64} (hdg : decode M.2.1 pc = .ok (.lload i, 2)) (hl : ls[i]? = some (.long x)) (k : mT l M R K (pc + 2) ls (.long x :: st) h n cc sc) : mT l M R K pc ls st h n cc sc := by
  intro p e s m args below meth c G w0 H locs LS ws st' hC hD
  obtain ⟨d1, d2, d3, d4, d5, d6, d7⟩ := hD
  obtain ⟨v', h1, h2⟩ := d6.at hl (by intro x q; cases q)
  cases (show v' = .long x from h1)
  exact lv_lload hC.1 hC.2.2.1 hdg h2 (k p e s m args below meth c G w0 H locs LS ws _ hC ⟨d1, d2, d3, d4, d5, d6, mrl.cons (v' := .long x) rfl d7⟩)
theorem mt_iload_n {k0 : Fin 4} {x : Int32} (hdg : decode M.2.1 pc = .ok (.iload_n k0, 1)) (hl : ls[(k0 : Nat)]? = some (.int x)) (k : mT l M R K (pc + 1) ls (.int x :: st) h n cc sc) : mT l M R K pc ls st h n cc sc := by
  intro p e s m args below meth c G w0 H locs LS ws st' hC hD
  obtain ⟨d1, d2, d3, d4, d5, d6, d7⟩ := hD
  obtain ⟨v', h1, h2⟩ := d6.at hl (by intro x q; cases q)
  cases (show v' = .int x from h1)
  exact lv_iload_n hC.1 hC.2.2.1 hdg rfl h2 (k p e s m args below meth c G w0 H locs LS ws _ hC ⟨d1, d2, d3, d4, d5, d6, mrl.cons (v' := .int x) rfl d7⟩)
theorem mt_lload_n {k0 : Fin 4} {x : Int64} (hdg : decode M.2.1 pc = .ok (.lload_n k0, 1)) (hl : ls[(k0 : Nat)]? = some (.long x)) (k : mT l M R K (pc + 1) ls (.long x :: st) h n cc sc) : mT l M R K pc ls st h n cc sc := by
  intro p e s m args below meth c G w0 H locs LS ws st' hC hD
  obtain ⟨d1, d2, d3, d4, d5, d6, d7⟩ := hD
  obtain ⟨v', h1, h2⟩ := d6.at hl (by intro x q; cases q)
  cases (show v' = .long x from h1)
  exact lv_lload_n hC.1 hC.2.2.1 hdg rfl h2 (k p e s m args below meth c G w0 H locs LS ws _ hC ⟨d1, d2, d3, d4, d5, d6, mrl.cons (v' := .long x) rfl d7⟩)
/-- a reference of any kind -/
def mir : Value → Bool
  | .ref _ => true
  | .float _ => true
  | .retAddr _ => true
  | _ => false
theorem mrv.ir {b : Nat → Nat} {ws : va_W} {v v' : Value} (h : mrv b ws v v') (hv : mir v = true) : ∃ q, v' = .ref q := by
  cases v with
  | ref k => obtain ⟨e, h1, h2⟩ := h; exact ⟨_, h2⟩
  | float k => exact h
  | retAddr k => exact ⟨b k, h⟩
  | _ => cases hv
theorem mir_nd {v : Value} (hv : mir v = true) : ∀ x, v ≠ .double x := by
  intro x q
  subst q
  cases hv
theorem mt_aload {i : Nat} {v : Value} (hdg : decode M.2.1 pc = .ok (.aload i, 2)) (hl : ls[i]? = some v) (hv : mir v = true) (k : mT l M R K (pc + 2) ls (v :: st) h n cc sc) : mT l M R K pc ls st h n cc sc := by
  intro p e s m args below meth c G w0 H locs LS ws st' hC hD
  obtain ⟨d1, d2, d3, d4, d5, d6, d7⟩ := hD
  obtain ⟨v', h1, h2⟩ := d6.at hl (mir_nd hv)
  obtain ⟨q, rfl⟩ := h1.ir hv
  exact lv_aload hC.1 hC.2.2.1 hdg h2 (k p e s m args below meth c G w0 H locs LS ws _ hC ⟨d1, d2, d3, d4, d5, d6, mrl.cons h1 d7⟩)
theorem mt_aload_n {k0 : Fin 4} {v : Value} (hdg : decode M.2.1 pc = .ok (.aload_n k0, 1)) (hl : ls[(k0 : Nat)]? = some v) (hv : mir v = true) (k : mT l M R K (pc + 1) ls (v :: st) h n cc sc) : mT l M R K pc ls st h n cc sc := by
  intro p e s m args below meth c G w0 H locs LS ws st' hC hD
  obtain ⟨d1, d2, d3, d4, d5, d6, d7⟩ := hD
  obtain ⟨v', h1, h2⟩ := d6.at hl (mir_nd hv)
  obtain ⟨q, rfl⟩ := h1.ir hv
  exact lv_aload_n hC.1 hC.2.2.1 hdg rfl h2 (k p e s m args below meth c G w0 H locs LS ws _ hC ⟨d1, d2, d3, d4, d5, d6, mrl.cons h1 d7⟩)
theorem mt_istore {i : Nat} {x : Int32} (hdg : decode M.2.1 pc = .ok (.istore i, 2)) (hn : i < M.2.2.1) (hg : mnl ls i = true) (k : mT l M R K (pc + 2) (ls.set i (.int x)) st h n cc sc) : mT l M R K pc ls (.int x :: st) h n cc sc := by
  intro p e s m args below meth c G w0 H locs LS ws st' hC hD
  obtain ⟨d1, d2, d3, d4, d5, ⟨lv, d6, d8⟩, d7⟩ := hD
  obtain ⟨_, rfl, d7a⟩ := d7.int
  exact lv_istore hC.1 hC.2.2.1 hdg  d6 hn rfl (fun LS' h3 => k p e s m args below meth c G w0 H locs LS' ws _ hC ⟨d1, d2, d3, d4, d5, mL.store1 d6 d8 hg rfl h3, d7a⟩)
theorem mt_istore_n {k0 : Fin 4} {x : Int32} (hdg : decode M.2.1 pc = .ok (.istore_n k0, 1)) (hn : (k0 : Nat) < M.2.2.1) (hg : mnl ls (k0 : Nat) = true) (k : mT l M R K (pc + 1) (ls.set (k0 : Nat) (.int x)) st h n cc sc) : mT l M R K pc ls (.int x :: st) h n cc sc := by
  intro p e s m args below meth c G w0 H locs LS ws st' hC hD
  obtain ⟨d1, d2, d3, d4, d5, ⟨lv, d6, d8⟩, d7⟩ := hD
  obtain ⟨_, rfl, d7a⟩ := d7.int
  exact lv_istore_n hC.1 hC.2.2.1 hdg rfl d6 hn rfl (fun LS' h3 => k p e s m args below meth c G w0 H locs LS' ws _ hC ⟨d1, d2, d3, d4, d5, mL.store1 d6 d8 hg rfl h3, d7a⟩)
theorem mt_lstore {i : Nat} {x : Int64} (hdg : decode M.2.1 pc = .ok (.lstore i, 2)) (hn : i + 1 < M.2.2.1) (hg : mnl ls i = true) (k : mT l M R K (pc + 2) ((ls.set i (.long x)).set (i + 1) (.double 0)) st h n cc sc) : mT l M R K pc ls (.long x :: st) h n cc sc := by
  intro p e s m args below meth c G w0 H locs LS ws st' hC hD
  obtain ⟨d1, d2, d3, d4, d5, ⟨lv, d6, d8⟩, d7⟩ := hD
  obtain ⟨_, rfl, d7a⟩ := d7.long
  exact lv_lstore hC.1 hC.2.2.1 hdg  d6 hn rfl (fun LS' h3 => k p e s m args below meth c G w0 H locs LS' ws _ hC ⟨d1, d2, d3, d4, d5, mL.store2 d6 d8 hg rfl h3, d7a⟩)
theorem mt_lstore_n {k0 : Fin 4} {x : Int64} (hdg : decode M.2.1 pc = .ok (.lstore_n k0, 1)) (hn : (k0 : Nat) + 1 < M.2.2.1) (hg : mnl ls (k0 : Nat) = true) (k : mT l M R K (pc + 1) ((ls.set (k0 : Nat) (.long x)).set ((k0 : Nat) + 1) (.double 0)) st h n cc sc) : mT l M R K pc ls (.long x :: st) h n cc sc := by
  intro p e s m args below meth c G w0 H locs LS ws st' hC hD
  obtain ⟨d1, d2, d3, d4, d5, ⟨lv, d6, d8⟩, d7⟩ := hD
  obtain ⟨_, rfl, d7a⟩ := d7.long
  exact lv_lstore_n hC.1 hC.2.2.1 hdg rfl d6 hn rfl (fun LS' h3 => k p e s m args below meth c G w0 H locs LS' ws _ hC ⟨d1, d2, d3, d4, d5, mL.store2 d6 d8 hg rfl h3, d7a⟩)
theorem mt_astore {i : Nat} {v : Value} (hdg : decode M.2.1 pc = .ok (.astore i, 2)) (hv : mir v = true) (hn : i < M.2.2.1) (hg : mnl ls i = true) (k : mT l M R K (pc + 2) (ls.set i v) st h n cc sc) : mT l M R K pc ls (v :: st) h n cc sc := by
  intro p e s m args below meth c G w0 H locs LS ws st' hC hD
  obtain ⟨d1, d2, d3, d4, d5, ⟨lv, d6, d8⟩, d7⟩ := hD
  obtain ⟨v', _, rfl, h1, d7a⟩ := d7
  obtain ⟨q, rfl⟩ := h1.ir hv
  exact lv_astore hC.1 hC.2.2.1 hdg  d6 hn rfl (fun LS' h3 => k p e s m args below meth c G w0 H locs LS' ws _ hC ⟨d1, d2, d3, d4, d5, mL.store1 d6 d8 hg h1 h3, d7a⟩)
theorem mt_astore_n {k0 : Fin 4} {v : Value} (hdg : decode M.2.1 pc = .ok (.astore_n k0, 1)) (hv : mir v = true) (hn : (k0 : Nat) < M.2.2.1) (hg : mnl ls (k0 : Nat) = true) (k : mT l M R K (pc + 1) (ls.set (k0 : Nat) v) st h n cc sc) : mT l M R K pc ls (v :: st) h n cc sc := by
  intro p e s m args below meth c G w0 H locs LS ws st' hC hD
  obtain ⟨d1, d2, d3, d4, d5, ⟨lv, d6, d8⟩, d7⟩ := hD
  obtain ⟨v', _, rfl, h1, d7a⟩ := d7
  obtain ⟨q, rfl⟩ := h1.ir hv
  exact lv_astore_n hC.1 hC.2.2.1 hdg rfl d6 hn rfl (fun LS' h3 => k p e s m args below meth c G w0 H locs LS' ws _ hC ⟨d1, d2, d3, d4, d5, mL.store1 d6 d8 hg h1 h3, d7a⟩)
theorem mt_iinc {i : Nat} {q : Int} {x v : Int32} (hdg : decode M.2.1 pc = .ok (.iinc i q, 3)) (hl : ls[i]? = some (.int x)) (hv : x + Int32.ofInt q = v) (hn : i < M.2.2.1) (hg : mnl ls i = true) (k : mT l M R K (pc + 3) (ls.set i (.int v)) st h n cc sc) : mT l M R K pc ls st h n cc sc := by
  intro p e s m args below meth c G w0 H locs LS ws st' hC hD
  obtain ⟨d1, d2, d3, d4, d5, ⟨lv, d6, d8⟩, d7⟩ := hD
  rcases d8 i _ hl with ⟨x, h3⟩ | ⟨v', h3, h4⟩
  · cases h3
  · cases (show v' = .int x from h3)
    obtain ⟨j, hj⟩ := List.getElem?_of_mem h4
    exact lv_iinc hC.1 hC.2.2.1 hdg d6 hj hv hn rfl (fun LS' h3 => k p e s m args below meth c G w0 H locs LS' ws _ hC ⟨d1, d2, d3, d4, d5, mL.store1 d6 d8 hg rfl h3, d7⟩)
theorem mt_tableOut {dflt lo hi : Int} {offs : Array Int} {len : Nat} {x : Int32} {tgt : Nat} (hdg : decode M.2.1 pc = .ok (.tableswitch dflt lo hi offs, len)) (hq : x.toInt < lo ∨ hi < x.toInt) (ht : (pc : Int) + dflt = (tgt : Int)) (k : mT l M R K tgt ls st h n cc sc) : mT l M R K pc ls (.int x :: st) h n cc sc := mt_lift k (fun _ _ _ hx hb hr => by
  obtain ⟨_, rfl, hr2⟩ := hr.int
  exact ⟨_, hr2, lv_tableOut hx hb hdg hq ht⟩)
theorem mt_tableIn {dflt lo hi : Int} {offs : Array Int} {len : Nat} {x : Int32} {off : Int} {tgt : Nat} (hdg : decode M.2.1 pc = .ok (.tableswitch dflt lo hi offs, len)) (h1 : ¬ x.toInt < lo) (h2 : ¬ hi < x.toInt) (ho : offs[(x.toInt - lo).toNat]? = some off) (ht : (pc : Int) + off = (tgt : Int)) (k : mT l M R K tgt ls st h n cc sc) : mT l M R K pc ls (.int x :: st) h n cc sc := mt_lift k (fun _ _ _ hx hb hr => by
  obtain ⟨_, rfl, hr2⟩ := hr.int
  exact ⟨_, hr2, lv_tableIn hx hb hdg h1 h2 ho ht⟩)
theorem mt_widen {cc' sc' : Nat} (h1 : cc ≤ cc') (h2 : sc ≤ sc') (k : mT l M R K pc ls st h n cc' sc') : mT l M R K pc ls st h n cc sc := fun p e s m args below meth c G w0 H locs LS ws st' hC hD => W.widen h1 h2 (k p e s m args below meth c G w0 H locs LS ws st' hC hD)
end MTA

/-! ===== rows of the logic: the heap ===== -/
def mfit : FieldType → Value → Bool
  | .int, .int _ => true
  | .long, .long _ => true
  | .boolean, .int x => x == 0 || x == 1
  | .object _, .null => true
  | .array _, .null => true
  | .object _, v => mir v
  | .array _, v => mir v
  | _, _ => false
theorem mfit_ok {ty : FieldType} {b : Nat → Nat} {ws : va_W} {v v' : Value} (hf : mfit ty v = true) (h : mrv b ws v v') : narrow ty v' = v' ∧ fits ty v' = true := by
  cases ty with
  | int =>
    cases v with
    | int x => cases (show v' = .int x from h); exact ⟨rfl, rfl⟩
    | _ => cases hf
  | long =>
    cases v with
    | long x => cases (show v' = .long x from h); exact ⟨rfl, rfl⟩
    | _ => cases hf
  | boolean =>
    cases v with
    | int x =>
      cases (show v' = .int x from h)
      simp only [mfit, Bool.or_eq_true, beq_iff_eq] at hf
      rcases hf with rfl | rfl <;> exact ⟨rfl, rfl⟩
    | _ => cases hf
  | object C =>
    cases v with
    | null => cases (show v' = .null from h); exact ⟨rfl, rfl⟩
    | ref k => obtain ⟨q, rfl⟩ := h.ir rfl; exact ⟨rfl, rfl⟩
    | float k => obtain ⟨q, rfl⟩ := h.ir rfl; exact ⟨rfl, rfl⟩
    | retAddr k => obtain ⟨q, rfl⟩ := h.ir rfl; exact ⟨rfl, rfl⟩
    | _ => cases hf
  | array C =>
    cases v with
    | null => cases (show v' = .null from h); exact ⟨rfl, rfl⟩
    | ref k => obtain ⟨q, rfl⟩ := h.ir rfl; exact ⟨rfl, rfl⟩
    | float k => obtain ⟨q, rfl⟩ := h.ir rfl; exact ⟨rfl, rfl⟩
    | retAddr k => obtain ⟨q, rfl⟩ := h.ir rfl; exact ⟨rfl, rfl⟩
    | _ => cases hf
  | _ => cases v <;> cases hf
theorem mrv.rf {b : Nat → Nat} {ws : va_W} {r r' : Option Nat} (h : mro ws r r') : mrv b ws (va_rf r) (va_rf r') := by
  cases r with
  | none => cases (show r' = none from h); rfl
  | some k => obtain ⟨e, h1, rfl⟩ := h; exact ⟨e, h1, rfl⟩
/-- which class a cell's object is of, by its number in vwCl -/
def mCl (ci : Nat) (C : String) (T : u_T) (N : Nat) (ty0 : Nat → FieldType) : Prop := vwCl[ci]? = some (C, T, N) ∧ (∀ w ∈ u_ws C T N, w ∈ mGw) ∧ (∀ k, k < N → parseFieldDescriptor (T k).2.2.1 = some (ty0 k)) ∧ ∀ a, a < N → ∀ b, b < N → a ≠ b → (T a).2.1 ≠ (T b).2.1
section MTB
variable {l : Launch} {M : mM} {R : Room} {K : mK} {pc : Nat} {ls st : List Value} {h : mH} {n cc sc : Nat}
theorem mt_getfield {a ci i : Nat} {C : String} {T : u_T} {N index : Nat} {ty0 : Nat → FieldType} {fs : List Value} {v : Value} (hc : mCl ci C T N ty0) (hk : i < N) (hlink : Cond.fieldLink M.1.cls index (T i).1 (T i).2.1 (T i).2.2.1 ∈ mGw) (hdg : decode M.2.1 pc = .ok (.getfield index, 3)) (he : h a = .inr (.inr (ci, fs))) (hv : fs[i]? = some v) (k : mT l M R K (pc + 3) ls (v :: st) h n cc sc) : mT l M R K pc ls (.ref a :: st) h n cc sc := by
  intro p e s m args below meth c G w0 H locs LS ws st' hC hD
  obtain ⟨d1, d2, d3, d4, d5, d6, d7⟩ := hD
  obtain ⟨⟨x, e'⟩, t', h1, rfl, d7a⟩ := d7.ref
  have hr := d1.at h1
  rw [he] at hr
  obtain ⟨fs', rfl, h3⟩ := hr
  obtain ⟨v', h4, h5⟩ := h3.get hv
  have hC' := hC
  obtain ⟨hx, -, hb, -, -, hown, hts, -, -, -, hmS, -⟩ := hC'
  exact va_get hx hb hts hc.2.1 hown hmS.1 d2 a h1 hc.1 i hk (hts _ hlink) (fun _ q => q) h4 hdg (k p e s m args below meth c G w0 H locs LS ws _ hC ⟨d1, d2, d3, d4, d5, d6, mrl.cons h5 d7a⟩)
theorem mt_putfield {a ci i : Nat} {C : String} {T : u_T} {N index : Nat} {ty0 : Nat → FieldType} {fs : List Value} {v : Value} (hc : mCl ci C T N ty0) (hk : i < N) (hlink : Cond.fieldLink M.1.cls index (T i).1 (T i).2.1 (T i).2.2.1 ∈ mGw) (hfin : (T i).2.2.2 = false) (hdg : decode M.2.1 pc = .ok (.putfield index, 3)) (he : h a = .inr (.inr (ci, fs))) (hl : i < fs.length) (hf : mfit (ty0 i) v = true) (k : mT l M R K (pc + 3) ls st (mup h a (.inr (.inr (ci, fs.set i v)))) n cc sc) : mT l M R K pc ls (v :: .ref a :: st) h n cc sc := by
  intro p e s m args below meth c G w0 H locs LS ws st' hC hD
  obtain ⟨d1, d2, d3, d4, d5, d6, d7⟩ := hD
  obtain ⟨v', t1, rfl, hv', d7⟩ := d7
  obtain ⟨⟨x, e'⟩, t', h1, rfl, d7a⟩ := d7.ref
  have hr := d1.at h1
  rw [he] at hr
  obtain ⟨fs', rfl, h3⟩ := hr
  have hC' := hC
  obtain ⟨hx, -, hb, -, -, hown, hts, -, -, -, hmS, -⟩ := hC'
  obtain ⟨f1, f2⟩ := mfit_ok hf hv'
  refine va_put hx hb hts hc.2.1 ty0 hc.2.2.1 hc.2.2.2 hown hmS.1 d2 d3 d4 a h1 hc.1 i hk (hts _ hlink) (fun _ q => q) hfin (hc.2.2.1 i hk) f1 f2 (by rw [h3.len]; exact hl) hdg (fun H1 locs1 g1 g2 g3 => ?_)
  have hE := mExt.set (e := .inr (ci, fs'.set i v')) h1
  exact k p e s m args below meth c G w0 H1 locs1 LS _ _ hC ⟨d1.set h1 ⟨_, rfl, h3.set hv'⟩, g1, g2, g3, d5.tr hE, d6.mono hE, d7a.mono hE⟩
theorem mt_putfieldN {a ci i : Nat} {C host : String} {T : u_T} {N index : Nat} {ty0 : Nat → FieldType} {fs : List Value} {v : Value} (hc : mCl ci C T N ty0) (hk : i < N) (hlink : Cond.fieldLinkNest M.1.cls index (T i).1 (T i).2.1 (T i).2.2.1 host ∈ mNw) (hfin : (T i).2.2.2 = false) (hdg : decode M.2.1 pc = .ok (.putfield index, 3)) (he : h a = .inr (.inr (ci, fs))) (hl : i < fs.length) (hf : mfit (ty0 i) v = true) (k : mT l M R K (pc + 3) ls st (mup h a (.inr (.inr (ci, fs.set i v)))) n cc sc) : mT l M R K pc ls (v :: .ref a :: st) h n cc sc := by
  intro p e s m args below meth c G w0 H locs LS ws st' hC hD
  obtain ⟨d1, d2, d3, d4, d5, d6, d7⟩ := hD
  obtain ⟨v', t1, rfl, hv', d7⟩ := d7
  obtain ⟨⟨x, e'⟩, t', h1, rfl, d7a⟩ := d7.ref
  have hr := d1.at h1
  rw [he] at hr
  obtain ⟨fs', rfl, h3⟩ := hr
  have hC' := hC
  obtain ⟨hx, -, hb, -, -, hown, hts, -, -, -, hmS, -⟩ := hC'
  obtain ⟨f1, f2⟩ := mfit_ok hf hv'
  refine va_putN hx hb hts hc.2.1 ty0 hc.2.2.1 hc.2.2.2 hown hmS.1 d2 d3 d4 a h1 hc.1 i hk (va_Nw.use rfl (hmS.2.2.2.2.2.1 _ hlink)) (fun _ q => q) hfin (hc.2.2.1 i hk) f1 f2 (by rw [h3.len]; exact hl) hdg (fun H1 locs1 g1 g2 g3 => ?_)
  have hE := mExt.set (e := .inr (ci, fs'.set i v')) h1
  exact k p e s m args below meth c G w0 H1 locs1 LS _ _ hC ⟨d1.set h1 ⟨_, rfl, h3.set hv'⟩, g1, g2, g3, d5.tr hE, d6.mono hE, d7a.mono hE⟩
theorem mt_putfinal {a ci i : Nat} {C : String} {T : u_T} {N index : Nat} {ty0 : Nat → FieldType} {fs : List Value} {v : Value} (hc : mCl ci C T N ty0) (hk : i < N) (hlink : Cond.fieldLink M.1.cls index (T i).1 (T i).2.1 (T i).2.2.1 ∈ mGw) (hfin : (T i).2.2.2 = true) (hin : M.1.name = "<init>") (hdecl : (T i).1 = M.1.cls) (hdg : decode M.2.1 pc = .ok (.putfield index, 3)) (he : h a = .inr (.inr (ci, fs))) (hl : i < fs.length) (hf : mfit (ty0 i) v = true) (k : mT l M R K (pc + 3) ls st (mup h a (.inr (.inr (ci, fs.set i v)))) n cc sc) : mT l M R K pc ls (v :: .ref a :: st) h n cc sc := by
  intro p e s m args below meth c G w0 H locs LS ws st' hC hD
  obtain ⟨d1, d2, d3, d4, d5, d6, d7⟩ := hD
  obtain ⟨v', t1, rfl, hv', d7⟩ := d7
  obtain ⟨⟨x, e'⟩, t', h1, rfl, d7a⟩ := d7.ref
  have hr := d1.at h1
  rw [he] at hr
  obtain ⟨fs', rfl, h3⟩ := hr
  have hC' := hC
  obtain ⟨hx, -, hb, -, -, hown, hts, -, hnm, -, hmS, -⟩ := hC'
  obtain ⟨f1, f2⟩ := mfit_ok hf hv'
  refine va_putF hx hb hts hc.2.1 ty0 hc.2.2.1 hc.2.2.2 hown hmS.1 d2 d3 d4 a h1 hc.1 i hk (hts _ hlink) (fun _ q => q) hfin (hnm.trans hin) hdecl (hc.2.2.1 i hk) f1 f2 (by rw [h3.len]; exact hl) hdg (fun H1 locs1 g1 g2 g3 => ?_)
  have hE := mExt.set (e := .inr (ci, fs'.set i v')) h1
  exact k p e s m args below meth c G w0 H1 locs1 LS _ _ hC ⟨d1.set h1 ⟨_, rfl, h3.set hv'⟩, g1, g2, g3, d5.tr hE, d6.mono hE, d7a.mono hE⟩
theorem mt_iaload {a len j : Nat} {i : Int32} {f : Nat → Int32} (hdg : decode M.2.1 pc = .ok (.iaload, 1)) (he : h a = .inl (0, len, f)) (hi : i = nI j) (hj : j < len) (hL : len < 2 ^ 31) (k : mT l M R K (pc + 1) ls (.int (f j) :: st) h n cc sc) : mT l M R K pc ls (.int i :: .ref a :: st) h n cc sc := by
  intro p e s m args below meth c G w0 H locs LS ws st' hC hD
  obtain ⟨d1, d2, d3, d4, d5, d6, d7⟩ := hD
  obtain ⟨t1, rfl, d7a⟩ := d7.int
  obtain ⟨⟨x, e'⟩, t', h1, rfl, d7b⟩ := d7a.ref
  have hr := d1.at h1
  rw [he] at hr
  cases (show e' = .inl (G.2.1 0, len, .inl f) from hr)
  subst hi
  have kk := k p e s m args below meth c G w0 H locs LS ws (.int (f j) :: t') hC ⟨d1, d2, d3, d4, d5, d6, mrl.cons (v' := .int (f j)) rfl d7b⟩
  refine va_iald hC.1 hC.2.2.1 hC.2.2.2.2.2.2.2.2.2.2.1.1 d2 a 0 h1 rfl (vp_in_nI hj hL) hdg ?_
  rw [nI_clamp (Nat.lt_trans hj hL)]
  exact kk
theorem mt_iastore {a len j : Nat} {i x : Int32} {f : Nat → Int32} (hdg : decode M.2.1 pc = .ok (.iastore, 1)) (he : h a = .inl (0, len, f)) (hi : i = nI j) (hj : j < len) (hL : len < 2 ^ 31) (k : mT l M R K (pc + 1) ls st (mup h a (.inl (0, len, upd f j x))) n cc sc) : mT l M R K pc ls (.int x :: .int i :: .ref a :: st) h n cc sc := by
  intro p e s m args below meth c G w0 H locs LS ws st' hC hD
  obtain ⟨d1, d2, d3, d4, d5, d6, d7⟩ := hD
  obtain ⟨t0, rfl, d70⟩ := d7.int
  obtain ⟨t1, rfl, d7a⟩ := d70.int
  obtain ⟨⟨y, e'⟩, t', h1, rfl, d7b⟩ := d7a.ref
  have hr := d1.at h1
  rw [he] at hr
  cases (show e' = .inl (G.2.1 0, len, .inl f) from hr)
  subst hi
  refine va_iast hC.1 hC.2.2.1 hC.2.2.2.2.2.2.2.2.2.2.1.1 d2 d3 d4 a 0 h1 rfl (vp_in_nI hj hL) hdg (fun H1 locs1 g1 g2 g3 => ?_)
  rw [nI_clamp (Nat.lt_trans hj hL)] at g1 g2
  have hE := mExt.set (e := .inl (G.2.1 0, len, .inl (upd f j x))) h1
  exact k p e s m args below meth c G w0 H1 locs1 LS _ _ hC ⟨d1.set h1 rfl, g1, g2, g3, d5.tr hE, d6.mono hE, d7b.mono hE⟩
theorem mt_alen {a t len : Nat} {f : Nat → Int32} (hdg : decode M.2.1 pc = .ok (.arraylength, 1)) (he : h a = .inl (t, len, f)) (ht : t < 2) (k : mT l M R K (pc + 1) ls (.int (nI len) :: st) h n cc sc) : mT l M R K pc ls (.ref a :: st) h n cc sc := by
  intro p e s m args below meth c G w0 H locs LS ws st' hC hD
  obtain ⟨d1, d2, d3, d4, d5, d6, d7⟩ := hD
  obtain ⟨⟨x, e'⟩, t', h1, rfl, d7b⟩ := d7.ref
  have hr := d1.at h1
  rw [he] at hr
  cases (show e' = .inl (G.2.1 t, len, .inl f) from hr)
  have kk := k p e s m args below meth c G w0 H locs LS ws (.int (nI len) :: t') hC ⟨d1, d2, d3, d4, d5, d6, mrl.cons (v' := .int (nI len)) rfl d7b⟩
  match t, ht with
  | 0, _ => exact va_alen hC.1 hC.2.2.1 hC.2.2.2.2.2.2.2.2.2.2.1.1 d2 a 0 h1 rfl rfl hdg kk
  | 1, _ => exact va_alen hC.1 hC.2.2.1 hC.2.2.2.2.2.2.2.2.2.2.1.1 d2 a 1 h1 rfl rfl hdg kk
theorem mt_alenq {a t len : Nat} {g : Nat → Option Nat} {ty : FieldType} (hdg : decode M.2.1 pc = .ok (.arraylength, 1)) (he : h a = .inr (.inl (t, len, g))) (ht : ∀ tc, (mTy tc)[t]? = some (tc t, ty)) (k : mT l M R K (pc + 1) ls (.int (nI len) :: st) h n cc sc) : mT l M R K pc ls (.ref a :: st) h n cc sc := by
  intro p e s m args below meth c G w0 H locs LS ws st' hC hD
  obtain ⟨d1, d2, d3, d4, d5, d6, d7⟩ := hD
  obtain ⟨⟨x, e'⟩, t', h1, rfl, d7b⟩ := d7.ref
  have hr := d1.at h1
  rw [he] at hr
  obtain ⟨g', rfl, hg⟩ := hr
  exact va_alen hC.1 hC.2.2.1 hC.2.2.2.2.2.2.2.2.2.2.1.1 d2 a t h1 (ht _) rfl hdg (k p e s m args below meth c G w0 H locs LS ws (.int (nI len) :: t') hC ⟨d1, d2, d3, d4, d5, d6, mrl.cons (v' := .int (nI len)) rfl d7b⟩)
theorem mt_aaload {a t len j : Nat} {i : Int32} {g : Nat → Option Nat} {ty : FieldType} (hdg : decode M.2.1 pc = .ok (.aaload, 1)) (he : h a = .inr (.inl (t, len, g))) (ht : ∀ tc, (mTy tc)[t]? = some (tc t, ty)) (hty : ty.isReference = true) (hi : i = nI j) (hj : j < len) (hL : len < 2 ^ 31) {v : Value} (hv : va_rf (g j) = v) (k : mT l M R K (pc + 1) ls (v :: st) h n cc sc) : mT l M R K pc ls (.int i :: .ref a :: st) h n cc sc := by
  intro p e s m args below meth c G w0 H locs LS ws st' hC hD
  obtain ⟨d1, d2, d3, d4, d5, d6, d7⟩ := hD
  obtain ⟨t1, rfl, d7a⟩ := d7.int
  obtain ⟨⟨x, e'⟩, t', h1, rfl, d7b⟩ := d7a.ref
  have hr := d1.at h1
  rw [he] at hr
  obtain ⟨g', rfl, hg⟩ := hr
  subst hi
  subst hv
  have hin := vp_in_nI hj hL
  have hcl : (nI j).toNatClampNeg = j := nI_clamp (Nat.lt_trans hj hL)
  exact W.aald (v := va_rf (g' j)) (ty := ty) hC.1 hC.2.2.1 (d2 a _ h1) ((hC.2.2.2.2.2.2.2.2.2.2.1.1.2 t _ (ht _)).1 len (fun j => va_rf (g' j))) hty (fun q => by cases q) (by show ¬ ((nI j) < 0 ∨ (arrV _ _ _).slots.size ≤ _); rw [arrV_size]; exact hin) (by show (arrV _ _ _).slots[_]? = _; rw [hcl, arrV_read _ _ hj]) rfl rfl hdg
    (k p e s m args below meth c G w0 H locs LS ws (va_rf (g' j) :: t') hC ⟨d1, d2, d3, d4, d5, d6, mrl.cons (mrv.rf (hg j)) d7b⟩)
end MTB

/-! ===== rows of the logic: making, storing references, returns ===== -/
theorem mW.len {G : mG} {h : mH} {n : Nat} {ws : va_W} (hW : mW G h n ws) : ws.length = n := hW.1
/-- what a new cell gives -/
theorem mW.pushL {G : mG} {h : mH} {n a : Nat} {ws : va_W} {v : Value} (hW : mW G h n ws) {e : va_E} (hv : v = .ref a) : mrv G.2.2.2.1 (ws ++ [(a, e)]) (.ref n) v := ⟨(a, e), by rw [List.getElem?_append_right (by rw [hW.1]; exact Nat.le_refl _), hW.1, Nat.sub_self]; rfl, hv⟩
section MTC
variable {l : Launch} {M : mM} {R : Room} {K : mK} {pc : Nat} {ls st : List Value} {h : mH} {n cc sc : Nat}
theorem mt_newarray {x : Int32} {len : Nat} (hdg : decode M.2.1 pc = .ok (.newarray .int, 2)) (harr : Cond.arrayClass .int ∈ mGw) (hx : x = nI len) (hL : len < 2 ^ 27) (hcc : cc + 1 ≤ R.cells) (hsc : sc + len ≤ R.slots) (k : mT l M R K (pc + 2) ls (.ref n :: st) (mup h n (.inl (0, len, fun _ => 0))) (n + 1) (cc + 1) (sc + len)) : mT l M R K pc ls (.int x :: st) h n cc sc := by
  intro p e s m args below meth c G w0 H locs LS ws st' hC hD
  obtain ⟨d1, d2, d3, d4, d5, d6, d7⟩ := hD
  obtain ⟨t1, rfl, d7a⟩ := d7.int
  have hC' := hC
  obtain ⟨hx0, -, hb, -, -, hown, hts, -, -, -, hmS, -⟩ := hC'
  subst hx
  refine va_newa (atype := .int) (ty := .int) (a0 := (len, .inl (fun _ => 0))) hx0 hb (hts _ harr) rfl hmS.1 d2 d3 d4 (fun q hq => Or.inr hq) (fun _ => rfl) (nI_pos (by omega)) (nI_clamp (by omega)) (by show len * 4 ≤ _; omega) hcc hsc hdg (fun q cA H1 g0 g1 g2 g3 => ?_)
  have hcA : cA = G.2.1 0 := by
    have h1 := (g0.2 (mTy G.2.1).length _ (by rw [List.getElem?_append_right (Nat.le_refl _), Nat.sub_self]; rfl)).2
    have h2 := (hmS.1.2 0 _ rfl).2
    exact Option.some.inj (Eq.trans (Eq.symm h1) h2)
  subst hcA
  have hE : mExt ws (ws ++ [(q, .inl (G.2.1 0, len, .inl (fun _ => 0)))]) := mExt.push
  exact k p e s m args below meth c G w0 H1 locs LS _ _ hC ⟨d1.push rfl, g1, g2, g3, d5.tr hE, d6.mono hE, mrl.cons (d1.pushL rfl) (d7a.mono hE)⟩
theorem mt_anewrow {x : Int32} {len index : Nat} (hdg : decode M.2.1 pc = .ok (.anewarray index, 3)) (hlk : Cond.classLink M.1.cls index "Runweaver$Row" ∈ mGw) (hx : x = nI len) (hL : len < 2 ^ 27) (hcc : cc + 1 ≤ R.cells) (hsc : sc + len ≤ R.slots) (k : mT l M R K (pc + 3) ls (.ref n :: st) (mup h n (.inr (.inl (2, len, fun _ => none)))) (n + 1) (cc + 1) (sc + len)) : mT l M R K pc ls (.int x :: st) h n cc sc := by
  intro p e s m args below meth c G w0 H locs LS ws st' hC hD
  obtain ⟨d1, d2, d3, d4, d5, d6, d7⟩ := hD
  obtain ⟨t1, rfl, d7a⟩ := d7.int
  have hC' := hC
  obtain ⟨hx0, -, hb, -, -, hown, hts, -, -, -, hmS, -⟩ := hC'
  subst hx
  refine va_newq hx0 hb hown (hts _ hlk) hmS.2.2.2.1 hmS.1 d2 d3 d4 (fun q hq => Or.inr hq) (nI_pos (by omega)) (nI_clamp (by omega)) (by omega) hcc hsc hdg (fun q cA H1 g0 g1 g2 g3 => ?_)
  have hcA : cA = G.2.1 2 := by
    obtain ⟨kA, comp, -, -, -, h1⟩ := (g0.2 (mTy G.2.1).length _ (by rw [List.getElem?_append_right (Nat.le_refl _), Nat.sub_self]; rfl)).2
    obtain ⟨kA2, comp2, -, -, -, h2⟩ := (hmS.1.2 2 _ rfl).2
    exact Option.some.inj (Eq.trans (Eq.symm h1) h2)
  subst hcA
  have hE : mExt ws (ws ++ [(q, .inl (G.2.1 2, len, .inr (.inr (.inr (.inr (fun _ => none))))))]) := mExt.push
  exact k p e s m args below meth c G w0 H1 locs LS _ _ hC ⟨d1.push ⟨_, rfl, fun _ => rfl⟩, g1, g2, g3, d5.tr hE, d6.mono hE, mrl.cons (d1.pushL rfl) (d7a.mono hE)⟩
/-- the fresh values of a class's fields -/
def mDf (ty0 : Nat → FieldType) (N : Nat) : List Value := (List.range N).map (fun k => defaultValue (ty0 k))
theorem mrl.same {b : Nat → Nat} {ws : va_W} : ∀ {l : List Value}, (∀ v ∈ l, (∃ x, v = .int x) ∨ (∃ x, v = .long x) ∨ v = .null) → mrl b ws l l
  | [], _ => rfl
  | v :: l, hv => by
    refine ⟨v, l, rfl, ?_, mrl.same (fun w hw => hv w (List.mem_cons_of_mem _ hw))⟩
    rcases hv v List.mem_cons_self with ⟨x, rfl⟩ | ⟨x, rfl⟩ | rfl <;> rfl
theorem mt_new {ci index : Nat} {C : String} {T : u_T} {N : Nat} {ty0 : Nat → FieldType} {fs : List Value} (hc : mCl ci C T N ty0) (hdg : decode M.2.1 pc = .ok (.new index, 3)) (hlk : Cond.classLink M.1.cls index C ∈ mGw) (hins : Cond.instantiable C N ∈ mGw) (hini : Cond.initialized C ∈ mGw) (hfs : ∀ j, j < N → defaultValue (ty0 j) = vp_V fs j) (hfv : ∀ v ∈ fs, (∃ x, v = .int x) ∨ (∃ x, v = .long x) ∨ v = .null) (hcc : cc + 1 ≤ R.cells) (hsc : sc + N ≤ R.slots) (k : mT l M R K (pc + 3) ls (.ref n :: st) (mup h n (.inr (.inr (ci, fs)))) (n + 1) (cc + 1) (sc + N)) : mT l M R K pc ls st h n cc sc := by
  intro p e s m args below meth c G w0 H locs LS ws st' hC hD
  obtain ⟨d1, d2, d3, d4, d5, d6, d7⟩ := hD
  have hC' := hC
  obtain ⟨hx0, -, hb, -, -, hown, hts, -, -, -, hmS, -⟩ := hC'
  refine va_new (fs := fs) hx0 hb hts hc.2.1 ty0 hc.2.2.1 hown (hts _ hlk) (hts _ hins) (hts _ hini) hmS.1 d2 d3 d4 (fun q hq => Or.inr hq) hc.1 hfs hcc hsc hdg (fun q H1 g1 g2 g3 => ?_)
  have hE : mExt ws (ws ++ [(q, .inr (ci, fs))]) := mExt.push
  exact k p e s m args below meth c G w0 H1 locs LS _ _ hC ⟨d1.push ⟨_, rfl, mrl.same hfv⟩, g1, g2, g3, d5.tr hE, d6.mono hE, mrl.cons (d1.pushL rfl) (d7.mono hE)⟩
theorem mt_aastoreR {a b2 len j : Nat} {i : Int32} {g : Nat → Option Nat} {fs : List Value} (hdg : decode M.2.1 pc = .ok (.aastore, 1)) (he : h a = .inr (.inl (2, len, g))) (hv : h b2 = .inr (.inr (3, fs))) (hi : i = nI j) (hj : j < len) (hL : len < 2 ^ 31) (k : mT l M R K (pc + 1) ls st (mup h a (.inr (.inl (2, len, va_up g j (some b2))))) n cc sc) : mT l M R K pc ls (.ref b2 :: .int i :: .ref a :: st) h n cc sc := by
  intro p e s m args below meth c G w0 H locs LS ws st' hC hD
  obtain ⟨d1, d2, d3, d4, d5, d6, d7⟩ := hD
  obtain ⟨⟨y, e2⟩, t0, hw, rfl, d70⟩ := d7.ref
  obtain ⟨t1, rfl, d7a⟩ := d70.int
  obtain ⟨⟨x, e'⟩, t', h1, rfl, d7b⟩ := d7a.ref
  have hr := d1.at h1
  rw [he] at hr
  obtain ⟨g', rfl, hg⟩ := hr
  have hr2 := d1.at hw
  rw [hv] at hr2
  obtain ⟨fs', rfl, -⟩ := hr2
  subst hi
  refine va_astq hC.1 hC.2.2.1 hC.2.2.2.2.2.2.2.2.2.2.1.1 d2 d3 d4 a 2 b2 3 (r := (RX1, TX1, 4)) h1 rfl hw rfl (vp_in_nI hj hL) hdg (fun H1 locs1 g1 g2 g3 => ?_)
  rw [nI_clamp (Nat.lt_trans hj hL)] at g1 g2
  have hE := mExt.set (e := .inl (G.2.1 2, len, .inr (.inr (.inr (.inr (va_up g' j (some y))))))) h1
  refine k p e s m args below meth c G w0 H1 locs1 LS _ _ hC ⟨d1.set h1 ⟨_, rfl, fun z => ?_⟩, g1, g2, g3, d5.tr hE, d6.mono hE, d7b.mono hE⟩
  unfold va_up
  by_cases q : z = j
  · rw [if_pos q, if_pos q]; exact ⟨_, hw, rfl⟩
  · rw [if_neg q, if_neg q]; exact hg z
theorem va_assignI {vm : Vm} {cA : ClassId} : vm.assignable cA cA = true := by
  unfold Vm.assignable
  show Vm.assignableAux vm (255 + 1) cA cA = true
  rw [Vm.assignableAux]
  simp
theorem mt_aastoreA {a b2 len len2 j : Nat} {i : Int32} {g : Nat → Option Nat} {f : Nat → Int32} (hdg : decode M.2.1 pc = .ok (.aastore, 1)) (he : h a = .inr (.inl (3, len, g))) (hv : h b2 = .inl (0, len2, f)) (hi : i = nI j) (hj : j < len) (hL : len < 2 ^ 31) (k : mT l M R K (pc + 1) ls st (mup h a (.inr (.inl (3, len, va_up g j (some b2))))) n cc sc) : mT l M R K pc ls (.ref b2 :: .int i :: .ref a :: st) h n cc sc := by
  intro p e s m args below meth c G w0 H locs LS ws st' hC hD
  obtain ⟨d1, d2, d3, d4, d5, d6, d7⟩ := hD
  obtain ⟨⟨y, e2⟩, t0, hw, rfl, d70⟩ := d7.ref
  obtain ⟨t1, rfl, d7a⟩ := d70.int
  obtain ⟨⟨x, e'⟩, t', h1, rfl, d7b⟩ := d7a.ref
  have hr := d1.at h1
  rw [he] at hr
  obtain ⟨g', rfl, hg⟩ := hr
  have hr2 := d1.at hw
  rw [hv] at hr2
  cases (show e2 = .inl (G.2.1 0, len2, .inl f) from hr2)
  subst hi
  have hin := vp_in_nI hj hL
  have hcl : (nI j).toNatClampNeg = j := nI_clamp (Nat.lt_trans hj hL)
  have h0 : ¬ (nI j) < 0 := fun q => hin (Or.inl q)
  obtain ⟨-, ⟨kA, k1, k2⟩, ⟨kI, k3, cI, k4⟩, -⟩ := hC.2.2.2.2.2.2.2.2.2.2.1
  refine W.aast hC.1 hC.2.2.1 (d2 a _ h1) (fun q h => by cases h) (fun h => by cases h) k1 k2 rfl k3 ⟨h0, by show _ < (arrV _ _ _).slots.size; rw [arrV_size, hcl]; exact hj⟩ (d2 b2 _ hw) (fun q h => by cases h) k3 va_assignI rfl rfl hdg fun H1 e9 z oq => ?_
  have hE := mExt.set (e := .inl (G.2.1 3, len, .inr (.inr (.inr (.inr (va_up g' j (some y))))))) h1
  refine k p e s m args below meth c G w0 H1 _ LS _ _ hC ⟨d1.set h1 ⟨_, rfl, fun z => ?_⟩, d2.set d3 h1 ?_ oq, d3.set h1, d4.put z oq (d3.2 a _ h1), d5.tr hE, d6.mono hE, d7b.mono hE⟩
  · unfold va_up
    by_cases q : z = j
    · rw [if_pos q, if_pos q]; exact ⟨_, hw, rfl⟩
    · rw [if_neg q, if_neg q]; exact hg z
  · show H1[x]? = some (vp_cell _ _)
    rw [e9]
    rw [vp_cell_q, vp_cell_q, arrV_store, hcl]
    congr 2
    funext q
    by_cases hq : q = j
    · subst hq
      simp [updV, va_up, va_rf]
    · simp [updV, va_up, hq]
/-! returns -/
theorem mt_ireturn {Φ : Option Value → mH → Nat → Prop} {X : String → mH → Nat → Prop} {v : Int32} {ty : FieldType} (hdg : decode M.2.1 pc = .ok (.ireturn, 1)) (hr : M.2.2.2.1 = some ty) (hn : narrow ty (.int v) = .int v) (hcc : cc ≤ R.cells) (hsc : sc ≤ R.slots) (hΦ : Φ (some (.int v)) h n) : mT l M R (mKo R Φ X) pc ls [.int v] h n cc sc := by
  intro p e s m args below meth c G w0 H locs LS ws st' hC hD
  obtain ⟨d1, d2, d3, d4, d5, d6, d7⟩ := hD
  obtain ⟨t1, rfl, d7a⟩ := d7.int
  cases (show t1 = [] from d7a)
  exact W.widen hcc hsc (vx_ret (W.zret hC.1 hC.2.2.1 (hC.2.2.2.1.trans hr) hn (fun t ht _ => ⟨some (.int v), _, h, n, ws, rfl, hΦ, ⟨_, rfl, rfl⟩, d1, d5, by rw [ht]; exact d2, d3, d4.F ht⟩) d4.2.2 hdg hC.2.2.2.2.2.2.2.1))
theorem mt_lreturn {Φ : Option Value → mH → Nat → Prop} {X : String → mH → Nat → Prop} {v : Int64} (hdg : decode M.2.1 pc = .ok (.lreturn, 1)) (hr : M.2.2.2.1 = some .long) (hcc : cc ≤ R.cells) (hsc : sc ≤ R.slots) (hΦ : Φ (some (.long v)) h n) : mT l M R (mKo R Φ X) pc ls [.long v] h n cc sc := by
  intro p e s m args below meth c G w0 H locs LS ws st' hC hD
  obtain ⟨d1, d2, d3, d4, d5, d6, d7⟩ := hD
  obtain ⟨t1, rfl, d7a⟩ := d7.long
  cases (show t1 = [] from d7a)
  exact W.widen hcc hsc (vx_ret (W.lret hC.1 hC.2.2.1 (hC.2.2.2.1.trans hr) (fun t ht _ => ⟨some (.long v), _, h, n, ws, rfl, hΦ, ⟨_, rfl, rfl⟩, d1, d5, by rw [ht]; exact d2, d3, d4.F ht⟩) d4.2.2 hdg hC.2.2.2.2.2.2.2.1))
theorem mt_return {Φ : Option Value → mH → Nat → Prop} {X : String → mH → Nat → Prop} (hdg : decode M.2.1 pc = .ok (.return_, 1)) (hr : M.2.2.2.1 = none) (hcc : cc ≤ R.cells) (hsc : sc ≤ R.slots) (hΦ : Φ none h n) : mT l M R (mKo R Φ X) pc ls [] h n cc sc := by
  intro p e s m args below meth c G w0 H locs LS ws st' hC hD
  obtain ⟨d1, d2, d3, d4, d5, d6, d7⟩ := hD
  cases (show st' = [] from d7)
  exact W.widen hcc hsc (vx_ret (W.vret hC.1 hC.2.2.1 (hC.2.2.2.1.trans hr) (fun t ht _ => ⟨none, _, h, n, ws, rfl, hΦ, rfl, d1, d5, by rw [ht]; exact d2, d3, d4.F ht⟩) d4.2.2 hdg hC.2.2.2.2.2.2.2.1))
theorem mt_areturn {Φ : Option Value → mH → Nat → Prop} {X : String → mH → Nat → Prop} {v : Value} {rt : FieldType} (hdg : decode M.2.1 pc = .ok (.areturn, 1)) (hr : M.2.2.2.1 = some rt) (hrt : (∃ n, rt = .object n) ∨ ∃ t, rt = .array t) (hv : mir v = true) (hcc : cc ≤ R.cells) (hsc : sc ≤ R.slots) (hΦ : Φ (some v) h n) : mT l M R (mKo R Φ X) pc ls [v] h n cc sc := by
  intro p e s m args below meth c G w0 H locs LS ws st' hC hD
  obtain ⟨d1, d2, d3, d4, d5, d6, d7⟩ := hD
  obtain ⟨v', t1, rfl, h1, d7a⟩ := d7
  cases (show t1 = [] from d7a)
  obtain ⟨q, rfl⟩ := h1.ir hv
  exact W.widen hcc hsc (vx_ret (W.aret hC.1 hC.2.2.1 (hC.2.2.2.1.trans hr) hrt (Or.inr ⟨q, rfl⟩) (fun t ht _ => ⟨some v, _, h, n, ws, rfl, hΦ, ⟨_, rfl, h1⟩, d1, d5, by rw [ht]; exact d2, d3, d4.F ht⟩) d4.2.2 hdg hC.2.2.2.2.2.2.2.1))
end MTC

/-! ===== rows of the logic: calls, throws, catching ===== -/
/-- the frame at pc, with an exception of class E thrown over it -/
def mTX (l : Launch) (M : mM) (R : Room) (K : mK) (pc : Nat) (ls : List Value) (E : String) (h : mH) (n cc sc : Nat) : Prop :=
  ∀ (p : Program) (e : Env) (s : State) (m : MethodId) (args : Array Value) (below : List Frame) (meth : Method) (c : Code) (G : mG) (w0 : va_W) (H : Heap) (locs : List Loc) (LS : Array Slot) (ws : va_W) (q : Addr) (ce : Cell) (rest : List Value),
    mCx l M p s m args meth c G w0 → mDy M G w0 s ls [] h n H locs LS ws [] → H[q]? = some ce → ce.vm = .none → s.vm.findClass E = some ce.cls → vx_W p l e R s m args below meth c H locs cc sc (K s args below G w0) (F0 m pc LS rest) q
def mcw : Value → Nat
  | .long _ => 2
  | _ => 1
theorem mrl.weight {b : Nat → Nat} {ws : va_W} : ∀ {l l' : List Value}, mrl b ws l l' → (l'.map fun v => v.category).sum ≤ (l.map mcw).sum
  | [], _, h => by
    cases h
    exact Nat.le_refl _
  | v :: l, _, h => by
    obtain ⟨v', t', rfl, h3, h4⟩ := h
    have ih := mrl.weight h4
    have h1 : v'.category ≤ mcw v := by
      rcases lv_cat v' with q | q
      · rw [q]; cases v <;> exact Nat.le_of_ble_eq_true rfl
      · obtain ⟨x, rfl⟩ := h3.cat q
        rw [q]; exact Nat.le_refl _
    simp only [List.map_cons, List.sum_cons]
    omega
theorem mrO.list {b : Nat → Nat} {ws : va_W} {v v' : Option Value} {l l' : List Value} (h : mrO b ws v v') (h2 : mrl b ws l l') : mrl b ws (v.toList ++ l) (v'.toList ++ l') := by
  cases v with
  | none => cases (show v' = none from h); exact h2
  | some w => obtain ⟨w', rfl, h3⟩ := h; exact mrl.cons h3 h2
theorem mW.free {G : mG} {w0 ws : va_W} {s : State} {H : Heap} {locs : List Loc} (hD : va_D (va_A w0 s.heap.size) ws) (hS : va_S (va_A w0 s.heap.size) s.heap H locs) : ∀ q, va_A ws H.size q → va_A w0 s.heap.size q := by
  intro q h
  rcases h with ⟨k, e, h⟩ | h
  · exact hD.2 k _ h
  · exact Or.inr (Nat.le_trans hS.1 h)
/-- what a callee finds -/
theorem mPc_at {l : Launch} {M : mM} {p : Program} {s : State} {m : MethodId} {args : Array Value} {meth : Method} {c : Code} {G : mG} {w0 ws : va_W} {H : Heap} {locs : List Loc} {vs : List Value} (hC : mCx l M p s m args meth c G w0) (hP : va_P G.1 vwCl ws H) (hD : va_D (va_A w0 s.heap.size) ws) (hS : va_S (va_A w0 s.heap.size) s.heap H locs) : ∀ U : State, U.heap = H → s.WarmedH U.vm → mPc G ws H.size vs vs.toArray U := by
  intro U hU hW
  obtain ⟨-, -, -, -, -, -, -, -, -, -, hmS, hmZ, -⟩ := hC
  exact ⟨rfl, by rw [hU], by rw [hU]; exact hP, hD.weaken (fun _ _ _ _ => trivial), hmS.moved hW, by rw [hU]; exact ((hmZ.kept hS.2.1).narrow (mW.free (G := G) hD hS)).moved hW.alike⟩
section MTD
variable {l : Launch} {M : mM} {R : Room} {K : mK} {pc : Nat} {ls st : List Value} {h : mH} {n cc sc : Nat}
/-- behind a call -/
theorem mt_back {p : Program} {e : Env} {s : State} {m : MethodId} {args : Array Value} {below : List Frame} {meth : Method} {c : Code} {G : mG} {w0 : va_W} {H : Heap} {locs : List Loc} {LS : Array Slot} {ws : va_W} {st0 st' : List Value} {Φ : Option Value → mH → Nat → Prop} {X : String → mH → Nat → Prop} {mc ms : Nat} {av : Array Value}
    (hC : mCx l M p s m args meth c G w0) (hD : mDy M G w0 s ls st h n H locs LS ws st')
    (run : vx_Run p l e R s m args below meth c H locs cc sc mc ms (F0 m pc LS st0) st' (mQ G ws H.size Φ av) (mXq G ws H.size X) (va_A ws H.size))
    (k : ∀ v h' n', Φ v h' n' → mT l M R K (pc + 3) ls (v.toList ++ st) h' n' (cc + mc) (sc + ms)) (kx : ∀ E h' n', X E h' n' → mTX l M R K pc ls E h' n' (cc + mc) (sc + ms)) : W p l e R s m args below meth c H locs cc sc (K s args below G w0) (F0 m pc LS st0) := by
  obtain ⟨d1, d2, d3, d4, d5, d6, d7⟩ := hD
  have hF := mW.free (G := G) d3 d4
  intro T hT X0
  rcases run T hT X0 with ⟨v, sa, t, T', L, h0, X', hL, e1, e2, ⟨v0, v', h', n', ws', e3, hΦ, q1, q2, q3, q4, q5, q6⟩, st9⟩ | ⟨q, sa, t, T', L, E, ce, h0, X', hL, e1, e2, ⟨h', n', hX, ws', q2, q3, q4, q5, q6⟩, hce, hcv, hcl, st9⟩
  · cases e3
    obtain ⟨k1, k2, k3⟩ := vx_keep h0 e1 d4 (fun q _ => hF q) hF hL q6
    obtain ⟨t2, a1, b1⟩ := k v0 h' n' hΦ p e s m args below meth c G w0 T'.heap (locs ++ L) LS ws' _ hC ⟨q2, by rw [e1]; exact q4, q5.weaken (fun _ y _ z => hF y.1 z), k3, d5.tr q3, d6.mono q3, q1.list (d7.mono q3)⟩ T' rfl X'
    exact ⟨t2, st9 t2 a1, b1⟩
  · obtain ⟨k1, k2, k3⟩ := vx_keep h0 e1 d4 (fun q _ => hF q) hF hL q6
    obtain ⟨t2, a1, b1⟩ := kx E h' n' hX p e s m args below meth c G w0 T'.heap (locs ++ L) LS ws' q ce st' hC ⟨q2, by rw [e1]; exact q4, q5.weaken (fun _ y _ z => hF y.1 z), k3, d5.tr q3, d6.mono q3, rfl⟩ (by rw [e1]; exact hce) hcv hcl T' rfl X'
    exact ⟨t2, st9.trans a1, b1⟩
/-- a method that can be called by its own name: on an object of class C, statically, as a constructor -/
def mNm (N : mM) (k : Nat) : Prop := N.1.cls ≠ "java/lang/invoke/MethodHandle" ∧ N.1.cls ≠ "java/lang/invoke/VarHandle" ∧ (parseMethodDescriptor N.1.desc).map (fun d => d.parameters.length) = some k
def mV (N : mM) (k : Nat) : Prop := mWd N ∈ mGw ∧ Cond.instanceMethod N.1 ∈ mGw ∧ Cond.selects N.1.cls N.1 N.1 ∈ mGw ∧ Cond.initialized N.1.cls ∈ mGw ∧ mNm N k ∧ N.2.2.2.2.1 = []
def mSt (N : mM) (k : Nat) : Prop := mWd N ∈ mGw ∧ Cond.static N.1 ∈ mGw ∧ Cond.initialized N.1.cls ∈ mGw ∧ mNm N k ∧ N.2.2.2.2.1 = []
def mSw (N : mM) (k : Nat) : Prop := mWd N ∈ mGw ∧ Cond.static N.1 ∈ mGw ∧ Cond.initialized N.1.cls ∈ mGw ∧ mNm N k ∧ N.2.2.2.2.1 ≠ []
def mIn (N : mM) (k : Nat) : Prop := mWd N ∈ mGw ∧ Cond.instanceMethod N.1 ∈ mGw ∧ Cond.initialized N.1.cls ∈ mGw ∧ mNm N k ∧ N.2.2.2.2.1 = [] ∧ N.2.2.2.1 = none ∧ N.1.name = "<init>"
/-- the room for a call -/
def mRm (R Rc : Room) (N : mM) (cc sc : Nat) : Prop := (Rc.frames + 1 ≤ R.frames ∧ 8 + (N.2.2.1 + 11) + Rc.locals ≤ R.locals) ∧ cc + Rc.cells ≤ R.cells ∧ sc + Rc.slots ≤ R.slots
theorem mWs_nil {N : mM} (h : N.2.2.2.2.1 = []) : mWs N = .code N.1 N.2.1 N.2.2.1 N.2.2.2.1 :: mGw := by unfold mWs mWd; rw [h]
theorem mWs_tab {N : mM} (h : N.2.2.2.2.1 ≠ []) : mWs N = .codeWith N.1 N.2.1 N.2.2.1 N.2.2.2.1 N.2.2.2.2.1 :: mGw := by
  unfold mWs mWd
  match hq : N.2.2.2.2.1 with
  | [] => exact absurd hq h
  | x :: t => rfl
theorem mt_callV {N : mM} {Rc : Room} {As stk : List Value} {b ci Nf index : Nat} {C : String} {T : u_T} {ty0 : Nat → FieldType} {fs : List Value} {Φ : Option Value → mH → Nat → Prop} {X : String → mH → Nat → Prop}
    (hdg : decode M.2.1 pc = .ok (.invokevirtual index, 3)) (hCt : mC l N Rc (.ref b :: As) h n Φ X) (hN : mV N As.length) (hlk : Cond.methodLink M.1.cls index N.1 ∈ mGw) (hc : mCl ci C T Nf ty0) (hcn : N.1.cls = C) (hb : h b = .inr (.inr (ci, fs))) (hst : stk = As.reverse ++ .ref b :: st) (hw : (st.map mcw).sum ≤ 8) (hR : mRm R Rc N cc sc)
    (k : ∀ v h' n', Φ v h' n' → mT l M R K (pc + 3) ls (v.toList ++ st) h' n' (cc + Rc.cells) (sc + Rc.slots)) (kx : ∀ E h' n', X E h' n' → mTX l M R K pc ls E h' n' (cc + Rc.cells) (sc + Rc.slots)) : mT l M R K pc ls stk h n cc sc := by
  intro p e s m args below meth c G w0 H locs LS ws st' hC hD
  subst hst
  obtain ⟨d1, d2, d3, d4, d5, d6, d7⟩ := hD
  obtain ⟨sa, sb, rfl, s1, s2⟩ := mrl.split d7
  obtain ⟨⟨ab, eb⟩, t', hwb, rfl, s3⟩ := s2.ref
  have hav : mrl G.2.2.2.1 ws (.ref b :: As) (.ref ab :: sa.reverse) := mrl.cons ⟨_, hwb, rfl⟩ (by have := s1.rev; rwa [List.reverse_reverse] at this)
  have hC' := hC
  obtain ⟨hx, -, hbb, -, hml, hown, hts, -, -, -, hmS, -⟩ := hC'
  obtain ⟨n1, n2, n3, n4, n5, n6⟩ := hN
  have hr := d1.at hwb
  rw [hb] at hr
  obtain ⟨fs', rfl, -⟩ := hr
  have hrev : sa ++ (Value.ref ab :: t') = sa.reverse.reverse ++ (Value.ref ab :: t') := by rw [List.reverse_reverse]
  have run := vx_runV (R := R) (locs := locs) (cells := cc) (slots := sc) (C := C) (As := sa.reverse) (rest := t') (g := F0 m pc LS (sa ++ (Value.ref ab :: t'))) ⟨hx, hbb, hml, hown, hts⟩ (hCt G ws H.size _ d1 hav)
    (n := As.length) (index := index) (own := M.1.cls) (ret := N.2.2.2.1) (bytes := N.2.1) (maxL := N.2.2.1)
    ⟨callB_of As.length hts (mGoodG n1) (mWs_nil n6) rfl rfl (hts _ n4) (hts _ hlk) n5 hR.1, hts _ n2, by rw [← hcn]; exact hts _ n3⟩
    (b := ab) ⟨mPc.blind, va_recv hmS.1 d2 hc.1 hwb, mPc_at hC d2 d3 d4⟩ rfl (by rw [List.length_reverse, s1.len, List.length_reverse]) d6.choose_spec.1.1 hrev (lv_room (Nat.le_trans s3.weight hw)) hdg hR.2 (e := e) (below := below) (meth := meth)
  exact mt_back hC ⟨d1, d2, d3, d4, d5, d6, s3⟩ run k kx
theorem mt_callS {N : mM} {Rc : Room} {As stk : List Value} {index : Nat} {Φ : Option Value → mH → Nat → Prop} {X : String → mH → Nat → Prop}
    (hdg : decode M.2.1 pc = .ok (.invokestatic index, 3)) (hCt : mC l N Rc As h n Φ X) (hN : mSt N As.length) (hlk : Cond.methodLink M.1.cls index N.1 ∈ mGw) (hst : stk = As.reverse ++ st) (hw : (st.map mcw).sum ≤ 8) (hR : mRm R Rc N cc sc)
    (k : ∀ v h' n', Φ v h' n' → mT l M R K (pc + 3) ls (v.toList ++ st) h' n' (cc + Rc.cells) (sc + Rc.slots)) (kx : ∀ E h' n', X E h' n' → mTX l M R K pc ls E h' n' (cc + Rc.cells) (sc + Rc.slots)) : mT l M R K pc ls stk h n cc sc := by
  intro p e s m args below meth c G w0 H locs LS ws st' hC hD
  subst hst
  obtain ⟨d1, d2, d3, d4, d5, d6, d7⟩ := hD
  obtain ⟨sa, t', rfl, s1, s3⟩ := mrl.split d7
  have hav : mrl G.2.2.2.1 ws As sa.reverse := by have := s1.rev; rwa [List.reverse_reverse] at this
  have hC' := hC
  obtain ⟨hx, -, hbb, -, hml, hown, hts, -, -, -, hmS, -⟩ := hC'
  obtain ⟨n1, n2, n4, n5, n6⟩ := hN
  have hrev : sa ++ t' = sa.reverse.reverse ++ t' := by rw [List.reverse_reverse]
  have run := vx_runS (R := R) (locs := locs) (cells := cc) (slots := sc) (As := sa.reverse) (rest := t') (g := F0 m pc LS (sa ++ t')) ⟨hx, hbb, hml, hown, hts⟩ (hCt G ws H.size _ d1 hav)
    (n := As.length) (index := index) (own := M.1.cls) (ret := N.2.2.2.1) (bytes := N.2.1) (maxL := N.2.2.1)
    ⟨callB_of As.length hts (mGoodG n1) (mWs_nil n6) rfl rfl (hts _ n4) (hts _ hlk) n5 hR.1, hts _ n2⟩
    ⟨mPc.blind, mPc_at hC d2 d3 d4⟩ rfl (by rw [List.length_reverse, s1.len, List.length_reverse]) d6.choose_spec.1.1 hrev (lv_room (Nat.le_trans s3.weight hw)) hdg hR.2 (e := e) (below := below) (meth := meth)
  exact mt_back hC ⟨d1, d2, d3, d4, d5, d6, s3⟩ run k kx
/-- a static method with a table -/
theorem mt_callSW {N : mM} {Rc : Room} {As stk : List Value} {index : Nat} {Φ : Option Value → mH → Nat → Prop} {X : String → mH → Nat → Prop}
    (hdg : decode M.2.1 pc = .ok (.invokestatic index, 3)) (hCt : mC l N Rc As h n Φ X) (hN : mSw N As.length) (hlk : Cond.methodLink M.1.cls index N.1 ∈ mGw) (hst : stk = As.reverse ++ st) (hw : (st.map mcw).sum ≤ 8) (hR : mRm R Rc N cc sc)
    (k : ∀ v h' n', Φ v h' n' → mT l M R K (pc + 3) ls (v.toList ++ st) h' n' (cc + Rc.cells) (sc + Rc.slots)) (kx : ∀ E h' n', X E h' n' → mTX l M R K pc ls E h' n' (cc + Rc.cells) (sc + Rc.slots)) : mT l M R K pc ls stk h n cc sc := by
  intro p e s m args below meth c G w0 H locs LS ws st' hC hD
  subst hst
  obtain ⟨d1, d2, d3, d4, d5, d6, d7⟩ := hD
  obtain ⟨sa, t', rfl, s1, s3⟩ := mrl.split d7
  have hav : mrl G.2.2.2.1 ws As sa.reverse := by have := s1.rev; rwa [List.reverse_reverse] at this
  have hC' := hC
  obtain ⟨hx, -, hbb, -, hml, hown, hts, -, -, -, hmS, -⟩ := hC'
  obtain ⟨n1, n2, n4, n5, n6⟩ := hN
  have hrev : sa ++ t' = sa.reverse.reverse ++ t' := by rw [List.reverse_reverse]
  have hwd : mWs N = .codeWith N.1 N.2.1 N.2.2.1 N.2.2.2.1 N.2.2.2.2.1 :: mGw := mWs_tab n6
  have hGd : GoodIn mGw (va_wsS M.1.cls index N.1 (mWs N)) := by
    intro w hw
    unfold va_wsS at hw
    rcases List.mem_append.mp hw with h1 | h1
    · have h2 : w ∈ mGw := by
        simp only [List.mem_cons, List.not_mem_nil, or_false] at h1
        rcases h1 with rfl | rfl | rfl
        · exact hlk
        · exact n2
        · exact n4
      exact ⟨h2, good_of_word (List.mem_filter.mp h2).2⟩
    · exact mGoodG n1 w h1
  have run := vx_runSX (R := R) (locs := locs) (cells := cc) (slots := sc) (As := sa.reverse) (rest := t') (g := F0 m pc LS (sa ++ t')) ⟨hx, hbb, hml, hown, hts⟩ (hCt G ws H.size _ d1 hav)
    (n := As.length) (index := index) (own := M.1.cls) (ret := N.2.2.2.1) (bytes := N.2.1) (maxL := N.2.2.1) (hh := N.2.2.2.2.1)
    (vx_cwSW As.length hts hGd hwd rfl rfl n5 hR.1)
    ⟨mPc.blind, mPc_at hC d2 d3 d4⟩ rfl (by rw [List.length_reverse, s1.len, List.length_reverse]) d6.choose_spec.1.1 hrev (lv_room (Nat.le_trans s3.weight hw)) hdg hR.2 (e := e) (below := below) (meth := meth)
  exact mt_back hC ⟨d1, d2, d3, d4, d5, d6, s3⟩ run k kx
/-- a contract of a method that never throws -/
theorem mC.met {N : mM} {Rc : Room} {av : List Value} {Φ : Option Value → mH → Nat → Prop} (hCt : mC l N Rc av h n Φ (fun _ _ _ => False)) {G : mG} {ws : va_W} {sz : Nat} {vs : List Value} (hW : mW G h n ws) (hv : mrl G.2.2.2.1 ws av vs) : Met l N.1 (mWs N) Rc (mPc G ws sz vs) (mQ G ws sz Φ) Rc.cells Rc.slots (va_A ws sz) := by
  intro p e ha hc hk s m args below hf happ hP hK
  obtain ⟨t, o, a1, a2, a3, a4⟩ := hCt G ws sz vs hW hv p e ha hc hk s m args below hf happ hP hK
  refine ⟨t, o, a1, a2, a3, ?_⟩
  rcases a4 with a4 | ⟨q, b1, E, ce, L, ⟨h9, n9, hx, -⟩, b4⟩
  · exact a4
  · exact hx.elim
theorem mt_callI {N : mM} {Rc : Room} {As stk : List Value} {b index : Nat} {Φ : Option Value → mH → Nat → Prop}
    (hdg : decode M.2.1 pc = .ok (.invokespecial index, 3)) (hCt : mC l N Rc (.ref b :: As) h n Φ (fun _ _ _ => False)) (hN : mIn N As.length) (hlk : Cond.methodLink M.1.cls index N.1 ∈ mGw) (hst : stk = As.reverse ++ .ref b :: st) (hw : (st.map mcw).sum ≤ 8) (hR : mRm R Rc N cc sc)
    (k : ∀ v h' n', Φ v h' n' → mT l M R K (pc + 3) ls (v.toList ++ st) h' n' (cc + Rc.cells) (sc + Rc.slots)) : mT l M R K pc ls stk h n cc sc := by
  intro p e s m args below meth c G w0 H locs LS ws st' hC hD
  subst hst
  obtain ⟨d1, d2, d3, d4, d5, d6, d7⟩ := hD
  obtain ⟨sa, sb, rfl, s1, s2⟩ := mrl.split d7
  obtain ⟨⟨ab, eb⟩, t', hwb, rfl, s3⟩ := s2.ref
  have hav : mrl G.2.2.2.1 ws (.ref b :: As) (.ref ab :: sa.reverse) := mrl.cons ⟨_, hwb, rfl⟩ (by have := s1.rev; rwa [List.reverse_reverse] at this)
  have hC' := hC
  obtain ⟨hx, -, hbb, -, hml, hown, hts, -, -, -, hmS, -⟩ := hC'
  obtain ⟨n1, n2, n4, n5, n6, n7, n8⟩ := hN
  have hrev : sa ++ (Value.ref ab :: t') = sa.reverse.reverse ++ (Value.ref ab :: t') := by rw [List.reverse_reverse]
  have run := va_runI (R := R) (locs := locs) (cells := cc) (slots := sc) (As := sa.reverse) (rest := t') (g := F0 m pc LS (sa ++ (Value.ref ab :: t'))) ⟨hx, hbb, hml, hown, hts⟩ (hCt.met (sz := H.size) d1 hav)
    (n := As.length) (index := index) (own := M.1.cls) (bytes := N.2.1) (maxL := N.2.2.1)
    ⟨callB_of As.length hts (mGoodG n1) (by rw [mWs_nil n6, n7]) rfl rfl (hts _ n4) (hts _ hlk) n5 hR.1, n8, hts _ n2⟩
    (b := ab) ⟨mPc.blind, mPc_at hC d2 d3 d4⟩ rfl (by rw [List.length_reverse, s1.len, List.length_reverse]) d6.choose_spec.1.1 hrev (lv_room (Nat.le_trans s3.weight hw)) hdg hR.2 (e := e) (below := below) (meth := meth)
  exact mt_back (X := fun _ _ _ => False) hC ⟨d1, d2, d3, d4, d5, d6, s3⟩ (fun T hT X => Or.inl (run T hT X)) k (fun _ _ _ z => z.elim)
theorem mt_callIN {N : mM} {Rc : Room} {As stk : List Value} {b index : Nat} {host : String} {Φ : Option Value → mH → Nat → Prop}
    (hdg : decode M.2.1 pc = .ok (.invokespecial index, 3)) (hCt : mC l N Rc (.ref b :: As) h n Φ (fun _ _ _ => False)) (hN : mIn N As.length) (hlk : Cond.methodLinkNest M.1.cls index N.1 host ∈ mNw) (hst : stk = As.reverse ++ .ref b :: st) (hw : (st.map mcw).sum ≤ 8) (hR : mRm R Rc N cc sc)
    (k : ∀ v h' n', Φ v h' n' → mT l M R K (pc + 3) ls (v.toList ++ st) h' n' (cc + Rc.cells) (sc + Rc.slots)) : mT l M R K pc ls stk h n cc sc := by
  intro p e s m args below meth c G w0 H locs LS ws st' hC hD
  subst hst
  obtain ⟨d1, d2, d3, d4, d5, d6, d7⟩ := hD
  obtain ⟨sa, sb, rfl, s1, s2⟩ := mrl.split d7
  obtain ⟨⟨ab, eb⟩, t', hwb, rfl, s3⟩ := s2.ref
  have hav : mrl G.2.2.2.1 ws (.ref b :: As) (.ref ab :: sa.reverse) := mrl.cons ⟨_, hwb, rfl⟩ (by have := s1.rev; rwa [List.reverse_reverse] at this)
  have hC' := hC
  obtain ⟨hx, -, hbb, -, hml, hown, hts, -, -, -, hmS, -⟩ := hC'
  obtain ⟨n1, n2, n4, n5, n6, n7, n8⟩ := hN
  have hrev : sa ++ (Value.ref ab :: t') = sa.reverse.reverse ++ (Value.ref ab :: t') := by rw [List.reverse_reverse]
  have hlk0 : va_Nw (.methodLinkNest M.1.cls index N.1 host) s := hmS.2.2.2.2.2.1 _ hlk
  have run := va_runIN (R := R) (locs := locs) (cells := cc) (slots := sc) (As := sa.reverse) (rest := t') (g := F0 m pc LS (sa ++ (Value.ref ab :: t'))) ⟨hx, hbb, hml, hown, hts⟩ (hCt.met (sz := H.size) d1 hav)
    (n := As.length) (index := index) (own := M.1.cls) (bytes := N.2.1) (maxL := N.2.2.1)
    ⟨va_cnB As.length hts (mGoodG n1) (by rw [mWs_nil n6, n7]) rfl rfl hlk0 (hts _ n4) n5 hR.1, n8, hts _ n2⟩
    (b := ab) ⟨mPc.blind, mPc_at hC d2 d3 d4⟩ rfl (by rw [List.length_reverse, s1.len, List.length_reverse]) d6.choose_spec.1.1 hrev (lv_room (Nat.le_trans s3.weight hw)) hdg hR.2 (e := e) (below := below) (meth := meth)
  exact mt_back (X := fun _ _ _ => False) hC ⟨d1, d2, d3, d4, d5, d6, s3⟩ (fun T hT X => Or.inl (run T hT X)) k (fun _ _ _ z => z.elim)
/-- the constructor of Object -/
theorem mt_objInit {b index : Nat} (hdg : decode M.2.1 pc = .ok (.invokespecial index, 3)) (hlk : Cond.methodLink M.1.cls index Lib.objectInit ∈ mGw) (hin : Cond.instanceMethod Lib.objectInit ∈ mGw) (hco : Cond.code Lib.objectInit ⟨#[0xb1]⟩ 1 none ∈ mGw) (hw : (st.map mcw).sum ≤ 8) (hR : 1 ≤ R.frames ∧ 20 ≤ R.locals) (k : mT l M R K (pc + 3) ls st h n cc sc) : mT l M R K pc ls (.ref b :: st) h n cc sc := by
  intro p e s m args below meth c G w0 H locs LS ws st' hC hD
  obtain ⟨d1, d2, d3, d4, d5, d6, d7⟩ := hD
  obtain ⟨⟨x, e'⟩, t', h1, rfl, d7a⟩ := d7.ref
  have hC' := hC
  obtain ⟨hx, -, hb, -, hml, hown, hts, -, -, -, hmS, -⟩ := hC'
  have h8 := lv_room (m := m) (pc := pc) (ls := LS) (rest := .ref x :: t') (Nat.le_trans d7a.weight hw)
  exact W.objInit hx hb hown (hts _ hlk) (hts _ hin) (hts _ hco) rfl (d6.choose_spec.1.1.trans hml.symm) rfl hdg hR.1 (Nat.le_trans (Nat.add_le_add_right h8 12) hR.2) (k p e s m args below meth c G w0 H locs LS ws _ hC ⟨d1, d2, d3, d4, d5, d6, d7a⟩)
end MTD

/-! ===== rows of the logic: throwing, leaving, catching, Math, arraycopy ===== -/
theorem mNw_on {w : Cond} (h : w ∈ mNw) : w.onTables = true := by
  have h2 := (List.mem_filter.mp h).2
  cases w <;> first | rfl | cases h2
theorem mGN {ws : List Cond} (h : ws.all (fun w => decide (w ∈ lw_tbl) && (goodWord w || mNk w)) = true) : ∀ w ∈ ws, w ∈ mGw ∨ w ∈ mNw := by
  intro w hw
  have h1 := List.all_eq_true.mp h w hw
  simp only [Bool.and_eq_true, Bool.or_eq_true, decide_eq_true_eq] at h1
  exact h1.2.elim (fun q => Or.inl (mGw_of h1.1 q)) (fun q => Or.inr (List.mem_filter.mpr ⟨h1.1, q⟩))
section MTE
variable {l : Launch} {M : mM} {R : Room} {K : mK} {pc : Nat} {ls st : List Value} {h : mH} {n cc sc : Nat}
theorem mt_mmin {x y v : Int32} {index : Nat} (hdg : decode M.2.1 pc = .ok (.invokestatic index, 3)) (hlk : Cond.methodLink M.1.cls index Lib.Math.min.name ∈ mGw) (hst : Cond.static Lib.Math.min.name ∈ mGw) (hini : Cond.initialized "java/lang/Math" ∈ mGw) (hco : Cond.code Lib.Math.min.name Lib.Math.min.code 2 (some .int) ∈ mGw) (hw : (st.map mcw).sum ≤ 8) (hR : 1 ≤ R.frames ∧ 21 ≤ R.locals) (hcc : cc ≤ R.cells) (hsc : sc ≤ R.slots) (hv : (if y < x then y else x) = v) (k : mT l M R K (pc + 3) ls (.int v :: st) h n cc sc) : mT l M R K pc ls (.int y :: .int x :: st) h n cc sc := by
  intro p e s m args below meth c G w0 H locs LS ws st' hC hD
  obtain ⟨d1, d2, d3, d4, d5, d6, d7⟩ := hD
  obtain ⟨t1, rfl, d7a⟩ := d7.int
  obtain ⟨t2, rfl, d7b⟩ := d7a.int
  have hC' := hC
  obtain ⟨hx, -, hb, -, hml, hown, hts, -⟩ := hC'
  subst hv
  exact va_mmin hx hb (hml.trans d6.choose_spec.1.1.symm) hown (hts _ hlk) (hts _ hst) (hts _ hini) (hts _ hco) hR.1 (Nat.le_trans (Nat.add_le_add_right (Nat.le_trans d7b.weight hw) 13) hR.2) hcc hsc hdg (k p e s m args below meth c G w0 H locs LS ws _ hC ⟨d1, d2, d3, d4, d5, d6, mrl.cons (v' := .int _) rfl d7b⟩)
theorem mt_mmax {x y v : Int32} {index : Nat} (hdg : decode M.2.1 pc = .ok (.invokestatic index, 3)) (hlk : Cond.methodLink M.1.cls index Lib.Math.max.name ∈ mGw) (hst : Cond.static Lib.Math.max.name ∈ mGw) (hini : Cond.initialized "java/lang/Math" ∈ mGw) (hco : Cond.code Lib.Math.max.name Lib.Math.max.code 2 (some .int) ∈ mGw) (hw : (st.map mcw).sum ≤ 8) (hR : 1 ≤ R.frames ∧ 21 ≤ R.locals) (hcc : cc ≤ R.cells) (hsc : sc ≤ R.slots) (hv : (if x < y then y else x) = v) (k : mT l M R K (pc + 3) ls (.int v :: st) h n cc sc) : mT l M R K pc ls (.int y :: .int x :: st) h n cc sc := by
  intro p e s m args below meth c G w0 H locs LS ws st' hC hD
  obtain ⟨d1, d2, d3, d4, d5, d6, d7⟩ := hD
  obtain ⟨t1, rfl, d7a⟩ := d7.int
  obtain ⟨t2, rfl, d7b⟩ := d7a.int
  have hC' := hC
  obtain ⟨hx, -, hb, -, hml, hown, hts, -⟩ := hC'
  subst hv
  exact va_mmax hx hb (hml.trans d6.choose_spec.1.1.symm) hown (hts _ hlk) (hts _ hst) (hts _ hini) (hts _ hco) hR.1 (Nat.le_trans (Nat.add_le_add_right (Nat.le_trans d7b.weight hw) 13) hR.2) hcc hsc hdg (k p e s m args below meth c G w0 H locs LS ws _ hC ⟨d1, d2, d3, d4, d5, d6, mrl.cons (v' := .int _) rfl d7b⟩)
theorem mt_acopy {a b la lb sp dp cnt index : Nat} {f g : Nat → Int32} {xs xd xn : Int32} (hdg : decode M.2.1 pc = .ok (.invokestatic index, 3)) (hlk : Cond.methodLink M.1.cls index arraycopyName ∈ mGw) (hnat : Cond.native arraycopyName ∈ mGw) (hst : Cond.static arraycopyName ∈ mGw) (hini : Cond.initialized "java/lang/System" ∈ mGw) (ha : h a = .inl (0, la, f)) (hb : h b = .inl (0, lb, g)) (h1 : xs = nI sp) (h2 : xd = nI dp) (h3 : xn = nI cnt) (h4 : sp + cnt ≤ la) (h5 : dp + cnt ≤ lb) (hla : la < 2 ^ 31) (hlb : lb < 2 ^ 31) (hw : (st.map mcw).sum ≤ 8) (hR : 1 ≤ R.frames ∧ 8 + 18 ≤ R.locals) (k : mT l M R K (pc + 3) ls st (mup h b (.inl (0, lb, va_cpy f g sp dp cnt))) n cc sc) : mT l M R K pc ls (.int xn :: .int xd :: .ref b :: .int xs :: .ref a :: st) h n cc sc := by
  intro p e s m args below meth c G w0 H locs LS ws st' hC hD
  obtain ⟨d1, d2, d3, d4, d5, d6, d7⟩ := hD
  obtain ⟨t1, rfl, d7a⟩ := d7.int
  obtain ⟨t2, rfl, d7b⟩ := d7a.int
  obtain ⟨⟨yb, eb⟩, t3, hwb, rfl, d7c⟩ := d7b.ref
  obtain ⟨t4, rfl, d7d⟩ := d7c.int
  obtain ⟨⟨ya, ea⟩, t5, hwa, rfl, d7e⟩ := d7d.ref
  have hra := d1.at hwa
  rw [ha] at hra
  cases (show ea = .inl (G.2.1 0, la, .inl f) from hra)
  have hrb := d1.at hwb
  rw [hb] at hrb
  cases (show eb = .inl (G.2.1 0, lb, .inl g) from hrb)
  have hC' := hC
  obtain ⟨hx, -, hbb, -, hml, hown, hts, -, -, -, hmS, -⟩ := hC'
  subst h1 h2 h3
  have e1 : (nI sp).toNatClampNeg = sp := nI_clamp (by omega)
  have e2 : (nI dp).toNatClampNeg = dp := nI_clamp (by omega)
  have e3 : (nI cnt).toNatClampNeg = cnt := nI_clamp (by omega)
  refine va_copyi hx hbb (hml.trans d6.choose_spec.1.1.symm) hown (hts _ hlk) (hts _ hnat) (hts _ hst) (hts _ hini) hmS.1 d2 d3 d4 a b 0 0 (ty := .int) hwa hwb rfl rfl rfl (nI_pos (by omega)) (nI_pos (by omega)) (nI_pos (by omega)) (by rw [e1, e3]; exact h4) (by rw [e2, e3]; exact h5) (fun _ _ => rfl) hR.1 (Nat.le_trans (Nat.add_le_add_right (Nat.le_trans d7e.weight hw) _) hR.2) hdg (fun H1 locs1 g1 g2 g3 => ?_)
  rw [e1, e2, e3] at g1 g2
  have hE := mExt.set (e := .inl (G.2.1 0, lb, .inl (va_cpy f g sp dp cnt))) hwb
  exact k p e s m args below meth c G w0 H1 locs1 LS _ _ hC ⟨d1.set hwb rfl, g1, g2, g3, d5.tr hE, d6.mono hE, d7e.mono hE⟩
/-- an exception that no row of the table takes leaves the method -/
theorem mt_out {Φ : Option Value → mH → Nat → Prop} {X : String → mH → Nat → Prop} {E : String} (hM : M.2.2.2.2.1 = []) (hX : X E h n) (hcc : cc ≤ R.cells) (hsc : sc ≤ R.slots) : mTX l M R (mKo R Φ X) pc ls E h n cc sc := by
  intro p e s m args below meth c G w0 H locs LS ws q ce rest hC hD hcell hv hcl
  obtain ⟨d1, d2, d3, d4, d5, d6, d7⟩ := hD
  have htab : c.exceptionTable.toList = [] := by rw [hC.2.2.2.2.2.2.2.2.2.1, hM]; rfl
  exact vx_out (fun x hx => by rw [htab] at hx; cases hx) hC.2.2.2.2.2.2.2.1 hcell hv hcl (fun t ht _ => ⟨h, n, hX, ws, d1, d5, by rw [ht]; exact d2, d3, d4.F ht⟩) d4.2.2 hcc hsc
theorem va_P.grown {D : va_G} {cl : List vw_C} {ws : va_W} {H H1 : Heap} (h : va_P D cl ws H) (hq : ∀ q : Nat, q < H.size → H1[q]? = H[q]?) : va_P D cl ws H1 := h.kept (fun k q hk => hq _ (vx_lt h hk))
/-- throw new E("text") -/
theorem mt_throwS {cls text : String} {names : List String} {ik is ic : Nat} {Φ : Option Value → mH → Nat → Prop} {X : String → mH → Nat → Prop} (hcls : Bundle.fit cls = true) (hnames : ∀ x ∈ names, Bundle.fit x = true) (hk : Cond.classLink M.1.cls ik cls ∈ mGw) (hini : Cond.initialized cls ∈ mGw)
    (hstr : ∀ (G : mG) (U : State), mTx G U → ∃ sa, vk_R M.1.cls is text sa U) (hat : ∀ w ∈ vx_atS M.1.cls ic cls names, w ∈ mGw ∨ w ∈ mNw) (hgood : ∀ w ∈ Cond.classLink M.1.cls ik cls :: Cond.initialized cls :: vx_atS M.1.cls ic cls names, vx_ot w = true)
    (d0 : decode M.2.1 pc = .ok (.new ik, 3)) (d3 : decode M.2.1 (pc + 3) = .ok (.dup, 1)) (d4 : decode M.2.1 (pc + 4) = .ok (.ldc is, 2)) (d6 : decode M.2.1 (pc + 6) = .ok (.invokespecial ic, 3)) (d9 : decode M.2.1 (pc + 9) = .ok (.athrow, 1)) (hM : M.2.2.2.2.1 = [])
    (hR : names.length + 3 < R.frames ∧ 8 + (13 * (names.length + 1) + 43) ≤ R.locals) (hw : (st.map mcw).sum ≤ 8) (hcc : cc + 1 ≤ R.cells) (hsc : sc + 6 ≤ R.slots) (hX : X cls h n) : mT l M R (mKo R Φ X) pc ls st h n cc sc := by
  intro p e s m args below meth c G w0 H locs LS ws st' hC hD
  obtain ⟨q1, q2, q3, q4, q5, q6, q7⟩ := hD
  have hC' := hC
  obtain ⟨hx, hl, hb, -, hml, hown, hts, hlocks, -, htab, hmS, hmZ, -⟩ := hC'
  obtain ⟨sa, hsa⟩ := hstr G s hmS.2.2.2.2.1
  have htab' : c.exceptionTable.toList = [] := by rw [htab, hM]; rfl
  exact vx_throwS hx hb hl hown hcls hnames (hts _ hk) (hts _ hini) hsa (fun w hw => (hat w hw).elim (hts w) (fun q => va_Nw.use (mNw_on q) (hmS.2.2.2.2.2.1 _ q))) hgood hmZ.1 hmZ.2.1 q4 (q6.choose_spec.1.1.trans hml.symm) d0 d3 d4 d6 d9 (fun x hx => by rw [htab'] at hx; cases hx) hR.1 (Nat.le_trans (Nat.add_le_add_right (Nat.le_trans q7.weight hw) _) hR.2) hcc hsc hlocks
    (fun t _ h1 h2 => ⟨h, n, hX, ws, q1, q5, q2.grown h2, q3, ⟨Nat.le_trans q4.1 h1, fun q h3 h4 => (h2 q (Nat.lt_of_lt_of_le h3 q4.1)).trans (q4.2.1 q h3 h4)⟩⟩) q4.2.2 hcc hsc
theorem mt_throwSW {cls text : String} {names : List String} {ik is ic : Nat} {Φ : Option Value → mH → Nat → Prop} {X : String → mH → Nat → Prop} (hcls : Bundle.fit cls = true) (hnames : ∀ x ∈ names, Bundle.fit x = true) (hk : Cond.classLink M.1.cls ik cls ∈ mGw) (hini : Cond.initialized cls ∈ mGw)
    (hstr : ∀ (G : mG) (U : State), mTx G U → ∃ sa, vk_R M.1.cls is text sa U) (hat : ∀ w ∈ vx_atS M.1.cls ic cls names, w ∈ mGw ∨ w ∈ mNw) (hgood : ∀ w ∈ Cond.classLink M.1.cls ik cls :: Cond.initialized cls :: vx_atS M.1.cls ic cls names, vx_ot w = true)
    (d0 : decode M.2.1 pc = .ok (.new ik, 3)) (d3 : decode M.2.1 (pc + 3) = .ok (.dup, 1)) (d4 : decode M.2.1 (pc + 4) = .ok (.ldc_w is, 3)) (d7 : decode M.2.1 (pc + 7) = .ok (.invokespecial ic, 3)) (d10 : decode M.2.1 (pc + 10) = .ok (.athrow, 1)) (hM : M.2.2.2.2.1 = [])
    (hR : names.length + 3 < R.frames ∧ 8 + (13 * (names.length + 1) + 43) ≤ R.locals) (hw : (st.map mcw).sum ≤ 8) (hcc : cc + 1 ≤ R.cells) (hsc : sc + 6 ≤ R.slots) (hX : X cls h n) : mT l M R (mKo R Φ X) pc ls st h n cc sc := by
  intro p e s m args below meth c G w0 H locs LS ws st' hC hD
  obtain ⟨q1, q2, q3, q4, q5, q6, q7⟩ := hD
  have hC' := hC
  obtain ⟨hx, hl, hb, -, hml, hown, hts, hlocks, -, htab, hmS, hmZ, -⟩ := hC'
  obtain ⟨sa, hsa⟩ := hstr G s hmS.2.2.2.2.1
  have htab' : c.exceptionTable.toList = [] := by rw [htab, hM]; rfl
  exact vx_throwSW hx hb hl hown hcls hnames (hts _ hk) (hts _ hini) hsa (fun w hw => (hat w hw).elim (hts w) (fun q => va_Nw.use (mNw_on q) (hmS.2.2.2.2.2.1 _ q))) hgood hmZ.1 hmZ.2.1 q4 (q6.choose_spec.1.1.trans hml.symm) d0 d3 d4 d7 d10 (fun x hx => by rw [htab'] at hx; cases hx) hR.1 (Nat.le_trans (Nat.add_le_add_right (Nat.le_trans q7.weight hw) _) hR.2) hcc hsc hlocks
    (fun t _ h1 h2 => ⟨h, n, hX, ws, q1, q5, q2.grown h2, q3, ⟨Nat.le_trans q4.1 h1, fun q h3 h4 => (h2 q (Nat.lt_of_lt_of_le h3 q4.1)).trans (q4.2.1 q h3 h4)⟩⟩) q4.2.2 hcc hsc
/-- caught: by the row behind those of pre; these cover pc too, but name other classes -/
theorem mt_catch {E nm : String} {pre suf : List (Nat × Nat × Nat × Nat)} {x : Nat × Nat × Nat × Nat} (htab : tableOf M.2.2.2.2.1 = tableOf pre ++ (tableOf [x] ++ tableOf suf)) (hpass : ∀ z ∈ tableOf pre, covers z pc = false ∨ (z.catchType ≠ 0 ∧ Cond.classLink M.1.cls z.catchType "java/lang/IndexOutOfBoundsException" ∈ mGw ∧ E = "java/lang/IllegalArgumentException"))
    (y : ExceptionTableEntry) (hy : tableOf [x] = [y]) (hx : covers y pc = true) (h0 : y.catchType ≠ 0) (hlink : Cond.classLink M.1.cls y.catchType nm ∈ mGw) (hcast : Cond.castable E nm ∈ mNw) (k : mT l M R K y.handlerPc ls [.float 0] h n cc sc) : mTX l M R K pc ls E h n cc sc := by
  intro p e s m args below meth c G w0 H locs LS ws q ce rest hC hD hcell hv hcl
  obtain ⟨d1, d2, d3, d4, d5, d6, d7⟩ := hD
  have hC' := hC
  obtain ⟨-, -, -, -, -, hown, hts, -, -, ht, hmS, -⟩ := hC'
  rw [htab, hy] at ht
  have hNx := hmS.2.2.2.2.2
  refine vx_catch hown (tableOf pre) y (tableOf suf) ht (fun z hz => ?_) hx h0 (hts _ hlink) (va_Nw.use rfl (hNx.1 _ hcast)) hcell hv hcl (k p e s m args below meth c G w0 H locs LS ws _ hC ⟨d1, d2, d3, d4, d5, d6, mrl.cons (v := .float 0) (v' := .ref q) ⟨q, rfl⟩ rfl⟩)
  rcases hpass z hz with h1 | ⟨h1, h2, rfl⟩
  · exact Or.inl h1
  · exact Or.inr ⟨h1, _, hts _ h2, hNx.2.1⟩
end MTE
theorem mt_test1 : ∀ w ∈ (vx_atS "Runweaver" 289 "java/lang/IndexOutOfBoundsException" ["java/lang/RuntimeException", "java/lang/Exception"]), w ∈ mGw ∨ w ∈ mNw := mGN (by decide +kernel)
theorem mt_test2 : ∀ w ∈ Cond.classLink "Runweaver" 285 "java/lang/IndexOutOfBoundsException" :: Cond.initialized "java/lang/IndexOutOfBoundsException" :: (vx_atS "Runweaver" 289 "java/lang/IndexOutOfBoundsException" ["java/lang/RuntimeException", "java/lang/Exception"]), vx_ot w = true := List.all_eq_true.mp (by decide +kernel)
