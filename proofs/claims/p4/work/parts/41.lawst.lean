/-! ===== the law: the world at its start ===== -/
def lawDigitOnes (j : Nat) : Int32 := ([48, 49, 50, 51, 52, 53, 54, 55, 56, 57, 48, 49, 50, 51, 52, 53, 54, 55, 56, 57, 48, 49, 50, 51, 52, 53, 54, 55, 56, 57, 48, 49, 50, 51, 52, 53, 54, 55, 56, 57, 48, 49, 50, 51, 52, 53, 54, 55, 56, 57, 48, 49, 50, 51, 52, 53, 54, 55, 56, 57, 48, 49, 50, 51, 52, 53, 54, 55, 56, 57, 48, 49, 50, 51, 52, 53, 54, 55, 56, 57, 48, 49, 50, 51, 52, 53, 54, 55, 56, 57, 48, 49, 50, 51, 52, 53, 54, 55, 56, 57] : List Int32).getD j 0
theorem lawDigitOnes_at : ∀ j : Nat, j < 100 → (flatC (Jvm.Cond.and given_1 narrow_1))[14 + j]? = some (Cond.eq (.elem (.static "java/lang/Integer" "DigitOnes" "[B") (.int (Int32.ofNat j))) (.int (lawDigitOnes j))) := by decide +kernel
theorem lawDigitOnes_in {s : State} {args : Array Value} (hs : ∀ w ∈ flatC (Jvm.Cond.and given_1 narrow_1), w.before args s = true) (j : Nat) (hj : j < 100) : (Cond.eq (.elem (.static "java/lang/Integer" "DigitOnes" "[B") (.int (Int32.ofNat j))) (.int (lawDigitOnes j))).before args s = true := hs _ (List.mem_of_getElem? (lawDigitOnes_at j hj))
def lawDigitTens (j : Nat) : Int32 := ([48, 48, 48, 48, 48, 48, 48, 48, 48, 48, 49, 49, 49, 49, 49, 49, 49, 49, 49, 49, 50, 50, 50, 50, 50, 50, 50, 50, 50, 50, 51, 51, 51, 51, 51, 51, 51, 51, 51, 51, 52, 52, 52, 52, 52, 52, 52, 52, 52, 52, 53, 53, 53, 53, 53, 53, 53, 53, 53, 53, 54, 54, 54, 54, 54, 54, 54, 54, 54, 54, 55, 55, 55, 55, 55, 55, 55, 55, 55, 55, 56, 56, 56, 56, 56, 56, 56, 56, 56, 56, 57, 57, 57, 57, 57, 57, 57, 57, 57, 57] : List Int32).getD j 0
theorem lawDigitTens_at : ∀ j : Nat, j < 100 → (flatC (Jvm.Cond.and given_1 narrow_1))[117 + j]? = some (Cond.eq (.elem (.static "java/lang/Integer" "DigitTens" "[B") (.int (Int32.ofNat j))) (.int (lawDigitTens j))) := by decide +kernel
theorem lawDigitTens_in {s : State} {args : Array Value} (hs : ∀ w ∈ flatC (Jvm.Cond.and given_1 narrow_1), w.before args s = true) (j : Nat) (hj : j < 100) : (Cond.eq (.elem (.static "java/lang/Integer" "DigitTens" "[B") (.int (Int32.ofNat j))) (.int (lawDigitTens j))).before args s = true := hs _ (List.mem_of_getElem? (lawDigitTens_at j hj))
theorem law_ty {s : State} {c : ClassId} {k : Class} {comp : ClassId} {ty : FieldType} (h1 : s.vm.classes[c]? = some k) (h2 : k.kind = .array comp ty) : ArrOfT s c ty := fun _ _ => ⟨(fun q hq => by cases hq), k, h1, comp, h2⟩
theorem law_world {s : State} {args : Array Value} (hts : ∀ w ∈ lw_tbl, w.before args s = true) (hgv : (Jvm.Cond.and given_1 narrow_1).before args s = true) {b L : Nat} {xs : Nat → Int32} : ∃ G : mG, G.2.2.2.1 0 = b ∧ G.2.2.2.2.1 = L ∧ G.2.2.2.2.2 = xs ∧ mS G s ∧ mZ G (va_A [] s.heap.size) s s.heap := by
  have hg : ∀ w ∈ mGw, w.before args s = true := fun w hw => hts w (List.mem_filter.mp hw).1
  have hs := flat_of_before _ hgv
  obtain ⟨c0, i0, K0⟩ := u_known hg mKJ0.2.1 (hg _ mw_799)
  obtain ⟨c1, i1, K1⟩ := u_known hg mKJ4.2.1 (hg _ mw_641)
  obtain ⟨c2, i2, K2⟩ := u_known hg mKX0.2.1 (hg _ mw_89)
  obtain ⟨c3, i3, K3⟩ := u_known hg mKX1.2.1 (hg _ mw_62)
  obtain ⟨c4, i4, K4⟩ := u_known hg mKX2.2.1 (hg _ mw_53)
  obtain ⟨c5, i5, K5⟩ := u_known hg mKX3.2.1 (hg _ mw_382)
  obtain ⟨c6, i6, K6⟩ := u_known hg mKX4.2.1 (hg _ mw_1046)
  obtain ⟨t0, k0, e0, a1, a2, a3⟩ := Cond.arrayClass_spec (hg _ mw_87)
  obtain ⟨t1, k1, e1, b1, b2, b3⟩ := Cond.arrayClass_spec (hg _ mw_300)
  have hRo := hts (.arrayOver (.object "Runweaver$Row")) (List.mem_of_getElem? (i := 61) (by decide +kernel))
  have hAo := hts (.arrayOver (.array .int)) (List.mem_of_getElem? (i := 1052) (by decide +kernel))
  obtain ⟨e2, t2, k2, d1, -, d2, d3, d4⟩ := Cond.arrayOver_spec hRo
  obtain ⟨e3, t3, k3, f1, f2, f3, f4⟩ := Cond.arrayOver_specA hAo
  have e30 : e3 = t0 := Option.some.inj (f1.symm.trans a1)
  subst e30
  have s0 := hts (.stringRef "Runweaver" 287 "no such row") (List.mem_of_getElem? (i := 274) (by decide +kernel))
  obtain ⟨-, -, -, x0, -, -, -, -, -, v0⟩ := Cond.stringRef_spec K4.2.1 s0
  have s1 := hts (.stringRef "Runweaver" 290 "an argument is out of its range") (List.mem_of_getElem? (i := 321) (by decide +kernel))
  obtain ⟨-, -, -, x1, -, -, -, -, -, v1⟩ := Cond.stringRef_spec K4.2.1 s1
  have s2 := hts (.stringRef "Runweaver" 237 "no such number of the house") (List.mem_of_getElem? (i := 379) (by decide +kernel))
  obtain ⟨-, -, -, x2, -, -, -, -, -, v2⟩ := Cond.stringRef_spec K4.2.1 s2
  have s3 := hts (.stringRef "Runweaver" 294 "no such place") (List.mem_of_getElem? (i := 463) (by decide +kernel))
  obtain ⟨-, -, -, x3, -, -, -, -, -, v3⟩ := Cond.stringRef_spec K4.2.1 s3
  have s4 := hts (.stringRef "RunweaverModel" 117 "") (List.mem_of_getElem? (i := 1255) (by decide +kernel))
  obtain ⟨-, -, -, x4, -, -, -, -, -, v4⟩ := Cond.stringRef_spec K6.2.1 s4
  have s5 := hts (.stringRef "RunweaverModel" 122 " ") (List.mem_of_getElem? (i := 1258) (by decide +kernel))
  obtain ⟨-, -, -, x5, -, -, -, -, -, v5⟩ := Cond.stringRef_spec K6.2.1 s5
  obtain ⟨y3, z3, w3⟩ := va_Tof (A := va_A [] s.heap.size) (N := 100) (tm := (.static "java/lang/Integer" "DigitOnes" "[B")) (ty := .byte) (f := fun j => .int (lawDigitOnes j)) (by decide) (hs (.arrayOf (.static "java/lang/Integer" "DigitOnes" "[B") .byte) (by decide +kernel)) (va_eqt (hs (.eq (.length (.static "java/lang/Integer" "DigitOnes" "[B")) (.int 100)) (by decide +kernel))) (fun j hj => va_eqt (lawDigitOnes_in hs j hj)) (fun a ha => va_A0 rfl ha)
  obtain ⟨y4, z4, w4⟩ := va_Tof (A := va_A [] s.heap.size) (N := 100) (tm := (.static "java/lang/Integer" "DigitTens" "[B")) (ty := .byte) (f := fun j => .int (lawDigitTens j)) (by decide) (hs (.arrayOf (.static "java/lang/Integer" "DigitTens" "[B") .byte) (by decide +kernel)) (va_eqt (hs (.eq (.length (.static "java/lang/Integer" "DigitTens" "[B")) (.int 100)) (by decide +kernel))) (fun j hj => va_eqt (lawDigitTens_in hs j hj)) (fun a ha => va_A0 rfl ha)
  obtain ⟨aK, aV, hK9, hE9⟩ := vk_Sof (s := s) (args := args) (N := 1) (A := va_A [] s.heap.size) (tm := fun _ => .string "RunweaverModel" 122) (len := [1]) (byt := [[32]]) (fun i hi => by obtain rfl : i = 0 := (by omega); decide) (fun i hi => hs _ (by decide +kernel)) (fun i hi => hs _ (by decide +kernel)) (fun i hi => hs _ (by decide +kernel)) (fun i hi => by obtain rfl : i = 0 := (by omega); exact hs _ (by decide +kernel)) (fun i hi j hj => by obtain rfl : i = 0 := (by omega); obtain rfl : j = 0 := (by have : j < 1 := hj; omega); exact hs _ (by decide +kernel)) (fun i j hi hj hne => absurd (by omega : i = j) hne) (fun a ha => va_A0 rfl ha)
  obtain ⟨u1, u2, u3, u4⟩ := hK9.1 0 (by decide)
  have e50 : x5 = aK 0 := by have := v5.symm.trans (hE9 0 (by decide)); cases this; rfl
  rw [← e50] at u1 u2 u3
  obtain ⟨y2, ey2⟩ : ∃ y2, y2 = aV 0 := ⟨_, rfl⟩
  rw [← ey2] at u3 u4
  refine ⟨((fun k => match k with | 0 => c0 | 1 => c1 | 2 => c2 | 3 => c3 | 4 => c4 | 5 => c5 | _ => c6, fun k => match k with | 0 => i0 | 1 => i1 | 2 => i2 | 3 => i3 | 4 => i4 | 5 => i5 | _ => i6), (fun k => match k with | 0 => e3 | 1 => t1 | 2 => t2 | _ => t3), (fun k => match k with | 0 => x0 | 1 => x1 | 2 => x2 | 3 => x3 | 4 => x4 | _ => x5), (fun k => match k with | 0 => b | 1 => x5 | 2 => y2 | 3 => y3 | _ => y4), L, xs), rfl, rfl, rfl, ⟨⟨?_, ?_⟩, ⟨k3, f2, f3⟩, ⟨k0, a2, e0, a3⟩, va_AO.of hRo, ⟨vk_R.of s0 v0, vk_R.of s1 v1, vk_R.of s2 v2, vk_R.of s3 v3, vk_R.of s4 v4, vk_R.of s5 v5⟩, fun w hw => ?_, ?_, hAo⟩, ?_, ?_, ?_⟩
  · intro c q hq
    match c, hq with
    | 0, hq => cases hq; exact K0
    | 1, hq => cases hq; exact K1
    | 2, hq => cases hq; exact K2
    | 3, hq => cases hq; exact K3
    | 4, hq => cases hq; exact K4
    | 5, hq => cases hq; exact K5
    | 6, hq => cases hq; exact K6
    | c + 7, hq => simp [vwCl] at hq
  · intro k q hq
    match k, hq with
    | 0, hq => cases hq; exact ⟨law_ty a2 a3, a1⟩
    | 1, hq => cases hq; exact ⟨law_ty b2 b3, b1⟩
    | 2, hq => cases hq; exact ⟨law_ty d2 d3, k2, e2, d2, d3, d1, d4⟩
    | 3, hq => cases hq; exact ⟨law_ty f2 f3, f4⟩
    | k + 4, hq => simp [mTy] at hq
  · exact va_Nw.of (mNw_on hw) (hts w (List.mem_filter.mp hw).1)
  · exact va_Nc.of (hs (.not (.castable "java/lang/IllegalArgumentException" "java/lang/IndexOutOfBoundsException")) (by decide +kernel))
  · exact vx_Zqof (hts (.laysStatic "java/lang/Throwable" "UNASSIGNED_STACK" "[Ljava/lang/StackTraceElement;") (List.mem_of_getElem? (i := 261) (by decide +kernel))) (hts (.initialized "java/lang/Throwable") (by decide +kernel)) (hs (.isRef (.static "java/lang/Throwable" "UNASSIGNED_STACK" "[Ljava/lang/StackTraceElement;")) (by decide +kernel)) (fun a ha => va_A0 rfl ha)
  · exact vx_Zqof (hts (.laysStatic "java/lang/Throwable" "SUPPRESSED_SENTINEL" "Ljava/util/List;") (List.mem_of_getElem? (i := 263) (by decide +kernel))) (hts (.initialized "java/lang/Throwable") (by decide +kernel)) (hs (.isRef (.static "java/lang/Throwable" "SUPPRESSED_SENTINEL" "Ljava/util/List;")) (by decide +kernel)) (fun a ha => va_A0 rfl ha)
  · exact ⟨va_Zof (hts (.laysStatic "java/lang/String" "COMPACT_STRINGS" "Z") (List.mem_of_getElem? (i := 650) (by decide +kernel))) (hts (.initialized "java/lang/String") (by decide +kernel)) (va_eqt (z := 1) (hs _ (by decide +kernel))) (fun a ha => va_A0 rfl ha), va_Zref (hts (.laysStatic "java/lang/Integer" "DigitOnes" "[B") (List.mem_of_getElem? (i := 774) (by decide +kernel))) (hts (.initialized "java/lang/Integer") (by decide +kernel)) z3 (fun a ha => va_A0 rfl ha), va_Zref (hts (.laysStatic "java/lang/Integer" "DigitTens" "[B") (List.mem_of_getElem? (i := 776) (by decide +kernel))) (hts (.initialized "java/lang/Integer") (by decide +kernel)) z4 (fun a ha => va_A0 rfl ha), ⟨_, w3⟩, ⟨_, w4⟩, u1, u2, u3, _, u4, rfl⟩
/-- what holds at the law's entry -/
def lw_At (p : Program) (s : State) (m : MethodId) (meth : Method) (c : Code) (b L : Nat) (xs : Nat → Int32) : Prop :=
  p.tables.exec = Jvm.exec ∧ c.code = code ∧ meth.sig.returnType = ret ∧ c.maxLocals = 7 ∧ s.vm.findClass R_law = some m.cls ∧ (∀ w ∈ lw_tbl, w.before #[Value.ref b] s = true) ∧ va_X b L xs s s.heap ∧ b < s.heap.size ∧ meth.locks = false ∧ (Jvm.Cond.and given_1 narrow_1).before #[Value.ref b] s = true
theorem law_start {p : Program} {e : Env} {s : State} {m : MethodId} {below : List Frame} {meth : Method} {c : Code} {l : Launch} (hl : l.stackTraces = false) {b L : Nat} {xs : Nat → Int32} (hL : L ≤ 384) (H23 : lawCase l L xs 1217) (C0 : lw_At p s m meth c b L xs) (hname : meth.name = "law") (htab : c.exceptionTable.toList = []) : W p l e room_1 s m #[Value.ref b] below meth c s.heap [] 0 0 (lw_Z below #[Value.ref b] s) (entryFrame m ([Value.ref b] : List Value).toArray 7) := by
  obtain ⟨hx, hb, hr, hml, hown, hts, hX, hbl, hlocks, hgv⟩ := C0
  obtain ⟨G, hG1, hG2, hG3, hS, hZ⟩ := law_world (b := b) (L := L) (xs := xs) hts hgv
  subst hG1
  subst hG2
  subst hG3
  rw [lg_entry_eq]
  have k := law_entry hl hL H23 (h := fun _ => .inl (0, 0, fun _ => 0)) p e s m #[.ref (G.2.2.2.1 0)] below meth c G [] s.heap [] _ [] [] ⟨hx, hl, hb, hr, hml, hown, fun w hw => hts w (List.mem_filter.mp hw).1, hlocks, hname, htab, hS, hZ, fun _ => ⟨hX, hbl, rfl⟩⟩
    ⟨⟨rfl, fun k q h => by simp at h⟩, fun k q h => by simp at h, ⟨fun i j p q h => by simp at h, fun k q h => by simp at h⟩, va_S.rf, mExt.rf, mL.entry (av := [.retAddr 0]) (vs := [.ref (G.2.2.2.1 0)]) ⟨_, _, rfl, rfl, rfl⟩ rfl (by decide), rfl⟩
  intro T hT X
  obtain ⟨t, a1, a2⟩ := k T hT X
  exact ⟨t, a1, a2 ⟨rfl, rfl, rfl⟩⟩
