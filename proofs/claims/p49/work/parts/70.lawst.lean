/-! ===== the law: the world at its start ===== -/
theorem law_ty {s : State} {c : ClassId} {k : Class} {comp : ClassId} {ty : FieldType} (h1 : s.vm.classes[c]? = some k) (h2 : k.kind = .array comp ty) : ArrOfT s c ty := fun _ _ => ⟨(fun q hq => by cases hq), k, h1, comp, h2⟩
theorem law_script {s : State} {b L : Nat} {xs : Nat → Int32} (hX : va_X b L xs s s.heap) (hbl : b < s.heap.size) : va_T .int b L (fun j => .int (xs j)) (va_A [] s.heap.size) s s.heap := by
  obtain ⟨scr, x1, x2, x3, x4, x5⟩ := hX
  exact ⟨scr, x1, x2, x3, Nat.le_of_eq x4.symm, congrArg Nat.toInt32 x4, x5, va_A0 rfl hbl⟩
theorem law_world {s : State} {args : Array Value} (hts : ∀ w ∈ lw_tbl, w.before args s = true) (hgv : (Jvm.Cond.and given_1 narrow_1).before args s = true) {b L : Nat} {xs : Nat → Int32} (hL : L ≤ 260) (hX : va_X b L xs s s.heap) (hbl : b < s.heap.size) : ∃ G : mG, G.2.2.2.1 0 = b ∧ G.2.2.2.2.1 = L ∧ G.2.2.2.2.2 = xs ∧ mS G s ∧ mZ G (va_A [] s.heap.size) s s.heap := by
  have hg : ∀ w ∈ mGw, w.before args s = true := fun w hw => hts w (List.mem_filter.mp hw).1
  have hs := flat_of_before _ hgv
  obtain ⟨c0, i0, K0⟩ := u_known hg mKJ0.2.1 (hg _ mw_766)
  obtain ⟨c1, i1, K1⟩ := u_known hg mKJ4.2.1 (hg _ mw_608)
  obtain ⟨c2, i2, K2⟩ := u_known hg mKX0.2.1 (hg _ mw_72)
  obtain ⟨c3, i3, K3⟩ := u_known hg mKX1.2.1 (hg _ mw_45)
  obtain ⟨c4, i4, K4⟩ := u_known hg mKX2.2.1 (hg _ mw_36)
  obtain ⟨t0, k0, e0, a1, a2, a3⟩ := Cond.arrayClass_spec (hg _ mw_70)
  obtain ⟨t1, k1, e1, b1, b2, b3⟩ := Cond.arrayClass_spec (hg _ mw_287)
  obtain ⟨t3, k3, e3, f1, f2, f3⟩ := Cond.arrayClass_spec (hg _ mw_512)
  have hRo := hts (.arrayOver (.object "Runweaver$Row")) (List.mem_of_getElem? (i := 44) (by decide +kernel))
  obtain ⟨e2, t2, k2, d1, -, d2, d3, d4⟩ := Cond.arrayOver_spec hRo
  have s0 := hts (.stringRef "Runweaver" 287 "no such row") (List.mem_of_getElem? (i := 261) (by decide +kernel))
  obtain ⟨-, -, -, x0, -, -, -, -, -, v0⟩ := Cond.stringRef_spec K4.2.1 s0
  have s1 := hts (.stringRef "Runweaver" 290 "an argument is out of its range") (List.mem_of_getElem? (i := 308) (by decide +kernel))
  obtain ⟨-, -, -, x1, -, -, -, -, -, v1⟩ := Cond.stringRef_spec K4.2.1 s1
  have s2 := hts (.stringRef "Runweaver" 237 "no such number of the house") (List.mem_of_getElem? (i := 569) (by decide +kernel))
  obtain ⟨-, -, -, x2, -, -, -, -, -, v2⟩ := Cond.stringRef_spec K4.2.1 s2
  have s3 := hts (.stringRef "Runweaver" 294 "no such place") (List.mem_of_getElem? (i := 365) (by decide +kernel))
  obtain ⟨-, -, -, x3, -, -, -, -, -, v3⟩ := Cond.stringRef_spec K4.2.1 s3
  refine ⟨((fun k => match k with | 0 => c0 | 1 => c1 | 2 => c2 | 3 => c3 | _ => c4, fun k => match k with | 0 => i0 | 1 => i1 | 2 => i2 | 3 => i3 | _ => i4), (fun k => match k with | 0 => t0 | 1 => t1 | 2 => t2 | _ => t3), (fun k => match k with | 0 => x0 | 1 => x1 | 2 => x2 | _ => x3), (fun _ => b), L, xs), rfl, rfl, rfl, ⟨⟨?_, ?_⟩, trivial, ⟨k0, a2, e0, a3⟩, va_AO.of hRo, ⟨vk_R.of s0 v0, vk_R.of s1 v1, vk_R.of s2 v2, vk_R.of s3 v3, trivial, trivial⟩, fun w hw => ?_, ?_, trivial⟩, ?_, ?_, ?_⟩
  · intro c q hq
    match c, hq with
    | 0, hq => cases hq; exact K0
    | 1, hq => cases hq; exact K1
    | 2, hq => cases hq; exact K2
    | 3, hq => cases hq; exact K3
    | 4, hq => cases hq; exact K4
    | c + 5, hq => simp [vwCl] at hq
  · intro k q hq
    match k, hq with
    | 0, hq => cases hq; exact ⟨law_ty a2 a3, a1⟩
    | 1, hq => cases hq; exact ⟨law_ty b2 b3, b1⟩
    | 2, hq => cases hq; exact ⟨law_ty d2 d3, k2, e2, d2, d3, d1, d4⟩
    | 3, hq => cases hq; exact ⟨law_ty f2 f3, f1⟩
    | k + 4, hq => simp [mTy] at hq
  · exact va_Nw.of (mNw_on hw) (hts w (List.mem_filter.mp hw).1)
  · exact va_Nc.of (hs (.not (.castable "java/lang/IllegalArgumentException" "java/lang/IndexOutOfBoundsException")) (by decide +kernel))
  · exact vx_Zqof (hts (.laysStatic "java/lang/Throwable" "UNASSIGNED_STACK" "[Ljava/lang/StackTraceElement;") (List.mem_of_getElem? (i := 248) (by decide +kernel))) (hts (.initialized "java/lang/Throwable") (by decide +kernel)) (hs (.isRef (.static "java/lang/Throwable" "UNASSIGNED_STACK" "[Ljava/lang/StackTraceElement;")) (by decide +kernel)) (fun a ha => va_A0 rfl ha)
  · exact vx_Zqof (hts (.laysStatic "java/lang/Throwable" "SUPPRESSED_SENTINEL" "Ljava/util/List;") (List.mem_of_getElem? (i := 250) (by decide +kernel))) (hts (.initialized "java/lang/Throwable") (by decide +kernel)) (hs (.isRef (.static "java/lang/Throwable" "SUPPRESSED_SENTINEL" "Ljava/util/List;")) (by decide +kernel)) (fun a ha => va_A0 rfl ha)
  · exact ⟨va_Zof (hts (.laysStatic "java/lang/String" "COMPACT_STRINGS" "Z") (List.mem_of_getElem? (i := 617) (by decide +kernel))) (hts (.initialized "java/lang/String") (by decide +kernel)) (va_eqt (z := 1) (hs _ (by decide +kernel))) (fun a ha => va_A0 rfl ha), law_script hX hbl, Nat.lt_of_le_of_lt hL (by decide)⟩
/-- what holds at the law's entry -/
def lw_At (p : Program) (s : State) (m : MethodId) (meth : Method) (c : Code) (b L : Nat) (xs : Nat → Int32) : Prop :=
  p.tables.exec = Jvm.exec ∧ c.code = code ∧ meth.sig.returnType = ret ∧ c.maxLocals = 5 ∧ s.vm.findClass R_law = some m.cls ∧ (∀ w ∈ lw_tbl, w.before #[Value.ref b] s = true) ∧ va_X b L xs s s.heap ∧ b < s.heap.size ∧ meth.locks = false ∧ (Jvm.Cond.and given_1 narrow_1).before #[Value.ref b] s = true
theorem law_start {p : Program} {e : Env} {s : State} {m : MethodId} {below : List Frame} {meth : Method} {c : Code} {l : Launch} (hl : l.stackTraces = false) {b L : Nat} {xs : Nat → Int32} (hL : L ≤ 260) (C0 : lw_At p s m meth c b L xs) (hname : meth.name = "law") (htab : c.exceptionTable.toList = []) : W p l e room_1 s m #[Value.ref b] below meth c s.heap [] 0 0 (lw_Z below #[Value.ref b] s) (entryFrame m ([Value.ref b] : List Value).toArray 5) := by
  obtain ⟨hx, hb, hr, hml, hown, hts, hX, hbl, hlocks, hgv⟩ := C0
  obtain ⟨G, hG1, hG2, hG3, hS, hZ⟩ := law_world (b := b) (L := L) (xs := xs) hts hgv hL hX hbl
  subst hG1
  subst hG2
  subst hG3
  rw [lg_entry_eq]
  have k := law_entry hl hL (L := G.2.2.2.2.1) (xs := G.2.2.2.2.2) (h := fun _ => .inl (0, 0, fun _ => 0)) p e s m #[.ref (G.2.2.2.1 0)] below meth c G [] s.heap [] _ [] [] ⟨hx, hl, hb, hr, hml, hown, fun w hw => hts w (List.mem_filter.mp hw).1, hlocks, hname, htab, hS, hZ, fun _ => ⟨hX, hbl, rfl⟩⟩
    ⟨⟨rfl, fun k q h => by simp at h⟩, fun k q h => by simp at h, ⟨fun i j p q h => by simp at h, fun k q h => by simp at h⟩, va_S.rf, mExt.rf, mL.entry (av := [.retAddr 0]) (vs := [.ref (G.2.2.2.1 0)]) ⟨_, _, rfl, rfl, rfl⟩ rfl (by decide), rfl⟩
  intro T hT X
  obtain ⟨t, a1, a2⟩ := k T hT X
  exact ⟨t, a1, a2 ⟨rfl, rfl, rfl⟩⟩
