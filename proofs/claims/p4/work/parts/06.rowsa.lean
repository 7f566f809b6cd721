/-! ===== rows of the logic: stack, locals, numbers, branches ===== -/
theorem mrl.cons {b : Nat → Nat} {ws : va_W} {v v' : Value} {l l' : List Value} (h : mrv b ws v v') (h2 : mrl b ws l l') : mrl b ws (v :: l) (v' :: l') := ⟨v', l', rfl, h, h2⟩
theorem mrl.int {b : Nat → Nat} {ws : va_W} {x : Int32} {l t : List Value} (h : mrl b ws (.int x :: l) t) : ∃ t', t = .int x :: t' ∧ mrl b ws l t' := by
  obtain ⟨v', t', rfl, h2, h3⟩ := h
  cases (show v' = .int x from h2)
  exact ⟨t', rfl, h3⟩
theorem mrl.long {b : Nat → Nat} {ws : va_W} {x : Int64} {l t : List Value} (h : mrl b ws (.long x :: l) t) : ∃ t', t = .long x :: t' ∧ mrl b ws l t' := by
  obtain ⟨v', t', rfl, h2, h3⟩ := h
  cases (show v' = .long x from h2)
  exact ⟨t', rfl, h3⟩
theorem mrl.ref {b : Nat → Nat} {k : Nat} {ws : va_W} {l t : List Value} (h : mrl b ws (.ref k :: l) t) : ∃ e t', ws[k]? = some e ∧ t = .ref e.1 :: t' ∧ mrl b ws l t' := by
  obtain ⟨v', t', rfl, ⟨e, h1, h2⟩, h3⟩ := h
  cases h2
  exact ⟨e, t', h1, rfl, h3⟩
theorem mL.at {b : Nat → Nat} {ws : va_W} {ls : List Value} {nL : Nat} {LS : Array Slot} {i : Nat} {v : Value} (h : mL b ws ls nL LS) (hi : ls[i]? = some v) (hd : ∀ x, v ≠ .double x) : ∃ v', mrv b ws v v' ∧ LS[i]? = some (.val v') := by
  obtain ⟨lv, h1, h2⟩ := h
  rcases h2 i v hi with ⟨x, h3⟩ | ⟨v', h3, h4⟩
  · exact absurd h3 (hd x)
  · exact ⟨v', h3, h1.2.2 _ h4⟩
/-- no long begins just below place i -/
def mnl (ls : List Value) : Nat → Bool
  | 0 => true
  | i + 1 => match ls[i]? with
    | some (.long _) => false
    | _ => true
theorem mL.store1 {b : Nat → Nat} {ws : va_W} {ls : List Value} {nL : Nat} {LS LS' : Array Slot} {i : Nat} {v v' : Value} {lv : List (Nat × Value)} (h1 : lv_has LS nL lv) (h2 : ∀ (j : Nat) (w : Value), ls[j]? = some w → (∃ x, w = .double x) ∨ ∃ w', mrv b ws w w' ∧ (j, w') ∈ lv) (hg : mnl ls i = true) (hv : mrv b ws v v') (h3 : lv_has LS' nL ((i, v') :: lv.filter (fun q => !(q.1 == i) && !(q.1 + 1 == i && q.2.category == 2)))) : mL b ws (ls.set i v) nL LS' := by
  refine ⟨_, h3, fun j w hj => ?_⟩
  by_cases q : j = i
  · subst q
    have hl := (List.getElem?_eq_some_iff.mp hj).1
    rw [List.length_set] at hl
    rw [List.getElem?_set_self hl] at hj
    cases hj
    exact Or.inr ⟨v', hv, List.mem_cons_self⟩
  · rw [List.getElem?_set_ne (Ne.symm q)] at hj
    rcases h2 j w hj with h4 | ⟨w', h4, h5⟩
    · exact Or.inl h4
    · refine Or.inr ⟨w', h4, List.mem_cons_of_mem _ (List.mem_filter.mpr ⟨h5, ?_⟩)⟩
      have e1 : (j == i) = false := by simp [q]
      by_cases q2 : j + 1 = i
      · subst q2
        have e2 : (w'.category == 2) = false := by
          rcases lv_cat w' with q3 | q3
          · rw [q3]; rfl
          · obtain ⟨x, rfl⟩ := h4.cat q3
            simp [mnl, hj] at hg
        simp [e1, e2]
      · have e3 : (j + 1 == i) = false := by simp [q2]
        simp [e1, e3]
theorem mL.store2 {b : Nat → Nat} {ws : va_W} {ls : List Value} {nL : Nat} {LS LS' : Array Slot} {i : Nat} {v v' : Value} {lv : List (Nat × Value)} (h1 : lv_has LS nL lv) (h2 : ∀ (j : Nat) (w : Value), ls[j]? = some w → (∃ x, w = .double x) ∨ ∃ w', mrv b ws w w' ∧ (j, w') ∈ lv) (hg : mnl ls i = true) (hv : mrv b ws v v') (h3 : lv_has LS' nL ((i, v') :: lv.filter (fun q => !(q.1 == i) && (!(q.1 == i + 1) && !(q.1 + 1 == i && q.2.category == 2))))) : mL b ws ((ls.set i v).set (i + 1) (.double 0)) nL LS' := by
  refine ⟨_, h3, fun j w hj => ?_⟩
  by_cases q0 : j = i + 1
  · subst q0
    have hl := (List.getElem?_eq_some_iff.mp hj).1
    rw [List.length_set] at hl
    rw [List.getElem?_set_self hl] at hj
    cases hj
    exact Or.inl ⟨0, rfl⟩
  rw [List.getElem?_set_ne (Ne.symm q0)] at hj
  by_cases q : j = i
  · subst q
    have hl := (List.getElem?_eq_some_iff.mp hj).1
    rw [List.length_set] at hl
    rw [List.getElem?_set_self hl] at hj
    cases hj
    exact Or.inr ⟨v', hv, List.mem_cons_self⟩
  · rw [List.getElem?_set_ne (Ne.symm q)] at hj
    rcases h2 j w hj with h4 | ⟨w', h4, h5⟩
    · exact Or.inl h4
    · refine Or.inr ⟨w', h4, List.mem_cons_of_mem _ (List.mem_filter.mpr ⟨h5, ?_⟩)⟩
      have e1 : (j == i) = false := by simp [q]
      have e0 : (j == i + 1) = false := by simp [q0]
      by_cases q2 : j + 1 = i
      · subst q2
        have e2 : (w'.category == 2) = false := by
          rcases lv_cat w' with q3 | q3
          · rw [q3]; rfl
          · obtain ⟨x, rfl⟩ := h4.cat q3
            simp [mnl, hj] at hg
        simp [e1, e0, e2]
      · have e3 : (j + 1 == i) = false := by simp [q2]
        simp [e1, e0, e3]
section MTA
variable {l : Launch} {M : mM} {R : Room} {K : mK} {pc : Nat} {ls st : List Value} {h : mH} {n cc sc : Nat}
/-- an instruction that touches the stack alone -/
theorem mt_lift {pc2 : Nat} {st2 : List Value} (k : mT l M R K pc2 ls st2 h n cc sc)
    (hs : ∀ {p : Program} {e : Env} {s : State} {m : MethodId} {args : Array Value} {below : List Frame} {meth : Method} {c : Code} {H : Heap} {locs : List Loc} {LS : Array Slot} {Q : State → Prop} (b : Nat → Nat) (ws : va_W) (st' : List Value), p.tables.exec = Jvm.exec → c.code = M.2.1 → mrl b ws st st' → ∃ st2', mrl b ws st2 st2' ∧ (W p l e R s m args below meth c H locs cc sc Q (F0 m pc2 LS st2') → W p l e R s m args below meth c H locs cc sc Q (F0 m pc LS st'))) : mT l M R K pc ls st h n cc sc := by
  intro p e s m args below meth c G w0 H locs LS ws st' hC hD
  obtain ⟨d1, d2, d3, d4, d5, d6, d7⟩ := hD
  obtain ⟨st2', h2, hw⟩ := hs (e := e) (s := s) (m := m) (args := args) (below := below) (meth := meth) (H := H) (locs := locs) (LS := LS) (Q := K s args below G w0) G.2.2.2.1 ws st' hC.1 hC.2.2.1 d7
  exact hw (k p e s m args below meth c G w0 H locs LS ws st2' hC ⟨d1, d2, d3, d4, d5, d6, h2⟩)
theorem mt_iconst {q : Int} {v : Int32} (hdg : decode M.2.1 pc = .ok (.iconst q, 1)) (hv : Int32.ofInt q = v) (k : mT l M R K (pc + 1) ls (.int v :: st) h n cc sc) : mT l M R K pc ls st h n cc sc := mt_lift k (fun _ _ _ hx hb hr => ⟨_, mrl.cons (v' := .int v) rfl hr, lv_iconst hx hb hdg hv⟩)
theorem mt_bipush {q : Int} {v : Int32} (hdg : decode M.2.1 pc = .ok (.bipush q, 2)) (hv : (Int8.ofInt q).toInt32 = v) (k : mT l M R K (pc + 2) ls (.int v :: st) h n cc sc) : mT l M R K pc ls st h n cc sc := mt_lift k (fun _ _ _ hx hb hr => ⟨_, mrl.cons (v' := .int v) rfl hr, lv_bipush hx hb hdg hv⟩)
theorem mt_sipush {q : Int} {v : Int32} (hdg : decode M.2.1 pc = .ok (.sipush q, 3)) (hv : (Int16.ofInt q).toInt32 = v) (k : mT l M R K (pc + 3) ls (.int v :: st) h n cc sc) : mT l M R K pc ls st h n cc sc := mt_lift k (fun _ _ _ hx hb hr => ⟨_, mrl.cons (v' := .int v) rfl hr, lv_sipush hx hb hdg hv⟩)
theorem mt_lconst {q : Fin 2} {v : Int64} (hdg : decode M.2.1 pc = .ok (.lconst q, 1)) (hv : Int64.ofNat (q : Nat) = v) (k : mT l M R K (pc + 1) ls (.long v :: st) h n cc sc) : mT l M R K pc ls st h n cc sc := mt_lift k (fun _ _ _ hx hb hr => ⟨_, mrl.cons (v' := .long v) rfl hr, lv_lconst hx hb hdg hv⟩)
theorem mt_iadd {x y : Int32} (hdg : decode M.2.1 pc = .ok (.iadd, 1))  (k : mT l M R K (pc + 1) ls (.int (x + y) :: st) h n cc sc) : mT l M R K pc ls (.int y :: .int x :: st) h n cc sc := mt_lift k (fun _ _ _ hx hb hr => by
  obtain ⟨_, rfl, hr2⟩ := hr.int
  obtain ⟨_, rfl, hr3⟩ := hr2.int
  exact ⟨_, mrl.cons (v' := .int (x + y)) rfl hr3, lv_iadd hx hb hdg ⟩)
theorem mt_isub {x y : Int32} (hdg : decode M.2.1 pc = .ok (.isub, 1))  (k : mT l M R K (pc + 1) ls (.int (x - y) :: st) h n cc sc) : mT l M R K pc ls (.int y :: .int x :: st) h n cc sc := mt_lift k (fun _ _ _ hx hb hr => by
  obtain ⟨_, rfl, hr2⟩ := hr.int
  obtain ⟨_, rfl, hr3⟩ := hr2.int
  exact ⟨_, mrl.cons (v' := .int (x - y)) rfl hr3, lv_isub hx hb hdg ⟩)
theorem mt_imul {x y : Int32} (hdg : decode M.2.1 pc = .ok (.imul, 1))  (k : mT l M R K (pc + 1) ls (.int (x * y) :: st) h n cc sc) : mT l M R K pc ls (.int y :: .int x :: st) h n cc sc := mt_lift k (fun _ _ _ hx hb hr => by
  obtain ⟨_, rfl, hr2⟩ := hr.int
  obtain ⟨_, rfl, hr3⟩ := hr2.int
  exact ⟨_, mrl.cons (v' := .int (x * y)) rfl hr3, lv_imul hx hb hdg ⟩)
theorem mt_iand {x y : Int32} (hdg : decode M.2.1 pc = .ok (.iand, 1))  (k : mT l M R K (pc + 1) ls (.int (x &&& y) :: st) h n cc sc) : mT l M R K pc ls (.int y :: .int x :: st) h n cc sc := mt_lift k (fun _ _ _ hx hb hr => by
  obtain ⟨_, rfl, hr2⟩ := hr.int
  obtain ⟨_, rfl, hr3⟩ := hr2.int
  exact ⟨_, mrl.cons (v' := .int (x &&& y)) rfl hr3, lv_iand hx hb hdg ⟩)
theorem mt_idiv {x y : Int32} (hdg : decode M.2.1 pc = .ok (.idiv, 1)) (hne : ¬ y = 0) (k : mT l M R K (pc + 1) ls (.int (x / y) :: st) h n cc sc) : mT l M R K pc ls (.int y :: .int x :: st) h n cc sc := mt_lift k (fun _ _ _ hx hb hr => by
  obtain ⟨_, rfl, hr2⟩ := hr.int
  obtain ⟨_, rfl, hr3⟩ := hr2.int
  exact ⟨_, mrl.cons (v' := .int (x / y)) rfl hr3, lv_idiv hx hb hdg hne⟩)
theorem mt_irem {x y : Int32} (hdg : decode M.2.1 pc = .ok (.irem, 1)) (hne : ¬ y = 0) (k : mT l M R K (pc + 1) ls (.int (x - x / y * y) :: st) h n cc sc) : mT l M R K pc ls (.int y :: .int x :: st) h n cc sc := mt_lift k (fun _ _ _ hx hb hr => by
  obtain ⟨_, rfl, hr2⟩ := hr.int
  obtain ⟨_, rfl, hr3⟩ := hr2.int
  exact ⟨_, mrl.cons (v' := .int (x - x / y * y)) rfl hr3, lv_irem hx hb hdg hne⟩)
theorem mt_ladd {x y : Int64} (hdg : decode M.2.1 pc = .ok (.ladd, 1))  (k : mT l M R K (pc + 1) ls (.long (x + y) :: st) h n cc sc) : mT l M R K pc ls (.long y :: .long x :: st) h n cc sc := mt_lift k (fun _ _ _ hx hb hr => by
  obtain ⟨_, rfl, hr2⟩ := hr.long
  obtain ⟨_, rfl, hr3⟩ := hr2.long
  exact ⟨_, mrl.cons (v' := .long (x + y)) rfl hr3, lv_ladd hx hb hdg ⟩)
theorem mt_lmul {x y : Int64} (hdg : decode M.2.1 pc = .ok (.lmul, 1))  (k : mT l M R K (pc + 1) ls (.long (x * y) :: st) h n cc sc) : mT l M R K pc ls (.long y :: .long x :: st) h n cc sc := mt_lift k (fun _ _ _ hx hb hr => by
  obtain ⟨_, rfl, hr2⟩ := hr.long
  obtain ⟨_, rfl, hr3⟩ := hr2.long
  exact ⟨_, mrl.cons (v' := .long (x * y)) rfl hr3, lv_lmul hx hb hdg ⟩)
theorem mt_i2l {x : Int32} (hdg : decode M.2.1 pc = .ok (.i2l, 1)) (k : mT l M R K (pc + 1) ls (.long x.toInt64 :: st) h n cc sc) : mT l M R K pc ls (.int x :: st) h n cc sc := mt_lift k (fun _ _ _ hx hb hr => by
  obtain ⟨_, rfl, hr2⟩ := hr.int
  exact ⟨_, mrl.cons (v' := .long x.toInt64) rfl hr2, lv_i2l hx hb hdg rfl⟩)
theorem mt_goto {off : Int} {tgt : Nat} (hdg : decode M.2.1 pc = .ok (.goto off, 3)) (ht : (pc : Int) + off = (tgt : Int)) (k : mT l M R K tgt ls st h n cc sc) : mT l M R K pc ls st h n cc sc := mt_lift k (fun _ _ _ hx hb hr => ⟨_, hr, lv_goto hx hb hdg ht⟩)
theorem mt_dup {v : Value} (hdg : decode M.2.1 pc = .ok (.dup, 1)) (hc : mc1 v = true) (k : mT l M R K (pc + 1) ls (v :: v :: st) h n cc sc) : mT l M R K pc ls (v :: st) h n cc sc := mt_lift k (fun _ _ _ hx hb hr => by
  obtain ⟨_, _, rfl, h1, hr2⟩ := hr
  exact ⟨_, mrl.cons h1 (mrl.cons h1 hr2), lv_dup hx hb hdg (h1.c1 hc)⟩)
theorem mt_dup_x1 {v w : Value} (hdg : decode M.2.1 pc = .ok (.dup_x1, 1)) (hc : mc1 v = true) (hc2 : mc1 w = true) (k : mT l M R K (pc + 1) ls (v :: w :: v :: st) h n cc sc) : mT l M R K pc ls (v :: w :: st) h n cc sc := mt_lift k (fun _ _ _ hx hb hr => by
  obtain ⟨_, _, rfl, h1, hr2⟩ := hr
  obtain ⟨_, _, rfl, h2, hr3⟩ := hr2
  exact ⟨_, mrl.cons h1 (mrl.cons h2 (mrl.cons h1 hr3)), lv_dup_x1 hx hb hdg (h1.c1 hc) (h2.c1 hc2)⟩)
theorem mt_pop {v : Value} (hdg : decode M.2.1 pc = .ok (.pop, 1)) (hc : mc1 v = true) (k : mT l M R K (pc + 1) ls st h n cc sc) : mT l M R K pc ls (v :: st) h n cc sc := mt_lift k (fun _ _ _ hx hb hr => by
  obtain ⟨_, _, rfl, h1, hr2⟩ := hr
  exact ⟨_, hr2, lv_pop hx hb hdg (h1.c1 hc)⟩)
theorem mt_pop2 {v : Int64} (hdg : decode M.2.1 pc = .ok (.pop2, 1)) (k : mT l M R K (pc + 1) ls st h n cc sc) : mT l M R K pc ls (.long v :: st) h n cc sc := mt_lift k (fun _ _ _ hx hb hr => by
  obtain ⟨_, rfl, hr2⟩ := hr.long
  exact ⟨_, hr2, lv_pop2_2 hx hb hdg rfl⟩)
theorem mt_ldc {index : Nat} {v : Int32} (hdg : decode M.2.1 pc = .ok (.ldc index, 2)) (hw : Jvm.Cond.constant M.1.cls index v ∈ mGw) (k : mT l M R K (pc + 2) ls (.int v :: st) h n cc sc) : mT l M R K pc ls st h n cc sc := by
  intro p e s m args below meth c G w0 H locs LS ws st' hC hD
  obtain ⟨d1, d2, d3, d4, d5, d6, d7⟩ := hD
  have hC' := hC
  obtain ⟨hx, -, hb, -, -, hown, hts, -⟩ := hC'
  exact lv_ldc hx hb hown (hts _ hw) hdg (k p e s m args below meth c G w0 H locs LS ws _ hC ⟨d1, d2, d3, d4, d5, d6, mrl.cons (v' := .int v) rfl d7⟩)
theorem mt_ldcw {index : Nat} {v : Int32} (hdg : decode M.2.1 pc = .ok (.ldc_w index, 3)) (hw : Jvm.Cond.constant M.1.cls index v ∈ mGw) (k : mT l M R K (pc + 3) ls (.int v :: st) h n cc sc) : mT l M R K pc ls st h n cc sc := by
  intro p e s m args below meth c G w0 H locs LS ws st' hC hD
  obtain ⟨d1, d2, d3, d4, d5, d6, d7⟩ := hD
  have hC' := hC
  obtain ⟨hx, -, hb, -, -, hown, hts, -⟩ := hC'
  exact lv_ldcw hx hb hown (hts _ hw) hdg (k p e s m args below meth c G w0 H locs LS ws _ hC ⟨d1, d2, d3, d4, d5, d6, mrl.cons (v' := .int v) rfl d7⟩)
theorem mt_ldc2 {index : Nat} {v : Int64} (hdg : decode M.2.1 pc = .ok (.ldc2_w index, 3)) (hw : Jvm.Cond.constantLong M.1.cls index v ∈ mGw) (k : mT l M R K (pc + 3) ls (.long v :: st) h n cc sc) : mT l M R K pc ls st h n cc sc := by
  intro p e s m args below meth c G w0 H locs LS ws st' hC hD
  obtain ⟨d1, d2, d3, d4, d5, d6, d7⟩ := hD
  have hC' := hC
  obtain ⟨hx, -, hb, -, -, hown, hts, -⟩ := hC'
  exact lv_ldc2 hx hb hown (hts _ hw) hdg (k p e s m args below meth c G w0 H locs LS ws _ hC ⟨d1, d2, d3, d4, d5, d6, mrl.cons (v' := .long v) rfl d7⟩)
theorem mt_icmp_eq {x y : Int32} {off : Int} {tgt : Nat} (hdg : decode M.2.1 pc = .ok (.if_icmp .eq off, 3)) (ht : (pc : Int) + off = (tgt : Int)) (kt : x = y → mT l M R K tgt ls st h n cc sc) (kf : ¬ x = y → mT l M R K (pc + 3) ls st h n cc sc) : mT l M R K pc ls (.int y :: .int x :: st) h n cc sc := by
  intro p e s m args below meth c G w0 H locs LS ws st' hC hD
  obtain ⟨d1, d2, d3, d4, d5, d6, d7⟩ := hD
  obtain ⟨_, rfl, d7a⟩ := d7.int
  obtain ⟨_, rfl, d7b⟩ := d7a.int
  exact lv_icmp_eq hC.1 hC.2.2.1 hdg ht (fun q => kt q p e s m args below meth c G w0 H locs LS ws _ hC ⟨d1, d2, d3, d4, d5, d6, d7b⟩) (fun q => kf q p e s m args below meth c G w0 H locs LS ws _ hC ⟨d1, d2, d3, d4, d5, d6, d7b⟩)
theorem mt_icmp_ne {x y : Int32} {off : Int} {tgt : Nat} (hdg : decode M.2.1 pc = .ok (.if_icmp .ne off, 3)) (ht : (pc : Int) + off = (tgt : Int)) (kt : ¬ x = y → mT l M R K tgt ls st h n cc sc) (kf : x = y → mT l M R K (pc + 3) ls st h n cc sc) : mT l M R K pc ls (.int y :: .int x :: st) h n cc sc := by
  intro p e s m args below meth c G w0 H locs LS ws st' hC hD
  obtain ⟨d1, d2, d3, d4, d5, d6, d7⟩ := hD
  obtain ⟨_, rfl, d7a⟩ := d7.int
  obtain ⟨_, rfl, d7b⟩ := d7a.int
  exact lv_icmp_ne hC.1 hC.2.2.1 hdg ht (fun q => kt q p e s m args below meth c G w0 H locs LS ws _ hC ⟨d1, d2, d3, d4, d5, d6, d7b⟩) (fun q => kf q p e s m args below meth c G w0 H locs LS ws _ hC ⟨d1, d2, d3, d4, d5, d6, d7b⟩)
theorem mt_icmp_lt {x y : Int32} {off : Int} {tgt : Nat} (hdg : decode M.2.1 pc = .ok (.if_icmp .lt off, 3)) (ht : (pc : Int) + off = (tgt : Int)) (kt : x < y → mT l M R K tgt ls st h n cc sc) (kf : ¬ x < y → mT l M R K (pc + 3) ls st h n cc sc) : mT l M R K pc ls (.int y :: .int x :: st) h n cc sc := by
  intro p e s m args below meth c G w0 H locs LS ws st' hC hD
  obtain ⟨d1, d2, d3, d4, d5, d6, d7⟩ := hD
  obtain ⟨_, rfl, d7a⟩ := d7.int
  obtain ⟨_, rfl, d7b⟩ := d7a.int
  exact lv_icmp_lt hC.1 hC.2.2.1 hdg ht (fun q => kt q p e s m args below meth c G w0 H locs LS ws _ hC ⟨d1, d2, d3, d4, d5, d6, d7b⟩) (fun q => kf q p e s m args below meth c G w0 H locs LS ws _ hC ⟨d1, d2, d3, d4, d5, d6, d7b⟩)
theorem mt_icmp_ge {x y : Int32} {off : Int} {tgt : Nat} (hdg : decode M.2.1 pc = .ok (.if_icmp .ge off, 3)) (ht : (pc : Int) + off = (tgt : Int)) (kt : y ≤ x → mT l M R K tgt ls st h n cc sc) (kf : ¬ y ≤ x → mT l M R K (pc + 3) ls st h n cc sc) : mT l M R K pc ls (.int y :: .int x :: st) h n cc sc := by
  intro p e s m args below meth c G w0 H locs LS ws st' hC hD
  obtain ⟨d1, d2, d3, d4, d5, d6, d7⟩ := hD
  obtain ⟨_, rfl, d7a⟩ := d7.int
  obtain ⟨_, rfl, d7b⟩ := d7a.int
  exact lv_icmp_ge hC.1 hC.2.2.1 hdg ht (fun q => kt q p e s m args below meth c G w0 H locs LS ws _ hC ⟨d1, d2, d3, d4, d5, d6, d7b⟩) (fun q => kf q p e s m args below meth c G w0 H locs LS ws _ hC ⟨d1, d2, d3, d4, d5, d6, d7b⟩)
theorem mt_icmp_gt {x y : Int32} {off : Int} {tgt : Nat} (hdg : decode M.2.1 pc = .ok (.if_icmp .gt off, 3)) (ht : (pc : Int) + off = (tgt : Int)) (kt : y < x → mT l M R K tgt ls st h n cc sc) (kf : ¬ y < x → mT l M R K (pc + 3) ls st h n cc sc) : mT l M R K pc ls (.int y :: .int x :: st) h n cc sc := by
  intro p e s m args below meth c G w0 H locs LS ws st' hC hD
  obtain ⟨d1, d2, d3, d4, d5, d6, d7⟩ := hD
  obtain ⟨_, rfl, d7a⟩ := d7.int
  obtain ⟨_, rfl, d7b⟩ := d7a.int
  exact lv_icmp_gt hC.1 hC.2.2.1 hdg ht (fun q => kt q p e s m args below meth c G w0 H locs LS ws _ hC ⟨d1, d2, d3, d4, d5, d6, d7b⟩) (fun q => kf q p e s m args below meth c G w0 H locs LS ws _ hC ⟨d1, d2, d3, d4, d5, d6, d7b⟩)
theorem mt_icmp_le {x y : Int32} {off : Int} {tgt : Nat} (hdg : decode M.2.1 pc = .ok (.if_icmp .le off, 3)) (ht : (pc : Int) + off = (tgt : Int)) (kt : x ≤ y → mT l M R K tgt ls st h n cc sc) (kf : ¬ x ≤ y → mT l M R K (pc + 3) ls st h n cc sc) : mT l M R K pc ls (.int y :: .int x :: st) h n cc sc := by
  intro p e s m args below meth c G w0 H locs LS ws st' hC hD
  obtain ⟨d1, d2, d3, d4, d5, d6, d7⟩ := hD
  obtain ⟨_, rfl, d7a⟩ := d7.int
  obtain ⟨_, rfl, d7b⟩ := d7a.int
  exact lv_icmp_le hC.1 hC.2.2.1 hdg ht (fun q => kt q p e s m args below meth c G w0 H locs LS ws _ hC ⟨d1, d2, d3, d4, d5, d6, d7b⟩) (fun q => kf q p e s m args below meth c G w0 H locs LS ws _ hC ⟨d1, d2, d3, d4, d5, d6, d7b⟩)
theorem mt_if_eq {x : Int32} {off : Int} {tgt : Nat} (hdg : decode M.2.1 pc = .ok (.ifCond .eq off, 3)) (ht : (pc : Int) + off = (tgt : Int)) (kt : x = 0 → mT l M R K tgt ls st h n cc sc) (kf : ¬ x = 0 → mT l M R K (pc + 3) ls st h n cc sc) : mT l M R K pc ls (.int x :: st) h n cc sc := by
  intro p e s m args below meth c G w0 H locs LS ws st' hC hD
  obtain ⟨d1, d2, d3, d4, d5, d6, d7⟩ := hD
  obtain ⟨_, rfl, d7a⟩ := d7.int
  exact lv_if_eq hC.1 hC.2.2.1 hdg ht (fun q => kt q p e s m args below meth c G w0 H locs LS ws _ hC ⟨d1, d2, d3, d4, d5, d6, d7a⟩) (fun q => kf q p e s m args below meth c G w0 H locs LS ws _ hC ⟨d1, d2, d3, d4, d5, d6, d7a⟩)
theorem mt_if_ne {x : Int32} {off : Int} {tgt : Nat} (hdg : decode M.2.1 pc = .ok (.ifCond .ne off, 3)) (ht : (pc : Int) + off = (tgt : Int)) (kt : ¬ x = 0 → mT l M R K tgt ls st h n cc sc) (kf : x = 0 → mT l M R K (pc + 3) ls st h n cc sc) : mT l M R K pc ls (.int x :: st) h n cc sc := by
  intro p e s m args below meth c G w0 H locs LS ws st' hC hD
  obtain ⟨d1, d2, d3, d4, d5, d6, d7⟩ := hD
  obtain ⟨_, rfl, d7a⟩ := d7.int
  exact lv_if_ne hC.1 hC.2.2.1 hdg ht (fun q => kt q p e s m args below meth c G w0 H locs LS ws _ hC ⟨d1, d2, d3, d4, d5, d6, d7a⟩) (fun q => kf q p e s m args below meth c G w0 H locs LS ws _ hC ⟨d1, d2, d3, d4, d5, d6, d7a⟩)
theorem mt_if_lt {x : Int32} {off : Int} {tgt : Nat} (hdg : decode M.2.1 pc = .ok (.ifCond .lt off, 3)) (ht : (pc : Int) + off = (tgt : Int)) (kt : x < 0 → mT l M R K tgt ls st h n cc sc) (kf : ¬ x < 0 → mT l M R K (pc + 3) ls st h n cc sc) : mT l M R K pc ls (.int x :: st) h n cc sc := by
  intro p e s m args below meth c G w0 H locs LS ws st' hC hD
  obtain ⟨d1, d2, d3, d4, d5, d6, d7⟩ := hD
  obtain ⟨_, rfl, d7a⟩ := d7.int
  exact lv_if_lt hC.1 hC.2.2.1 hdg ht (fun q => kt q p e s m args below meth c G w0 H locs LS ws _ hC ⟨d1, d2, d3, d4, d5, d6, d7a⟩) (fun q => kf q p e s m args below meth c G w0 H locs LS ws _ hC ⟨d1, d2, d3, d4, d5, d6, d7a⟩)
theorem mt_if_ge {x : Int32} {off : Int} {tgt : Nat} (hdg : decode M.2.1 pc = .ok (.ifCond .ge off, 3)) (ht : (pc : Int) + off = (tgt : Int)) (kt : 0 ≤ x → mT l M R K tgt ls st h n cc sc) (kf : ¬ 0 ≤ x → mT l M R K (pc + 3) ls st h n cc sc) : mT l M R K pc ls (.int x :: st) h n cc sc := by
  intro p e s m args below meth c G w0 H locs LS ws st' hC hD
  obtain ⟨d1, d2, d3, d4, d5, d6, d7⟩ := hD
  obtain ⟨_, rfl, d7a⟩ := d7.int
  exact lv_if_ge hC.1 hC.2.2.1 hdg ht (fun q => kt q p e s m args below meth c G w0 H locs LS ws _ hC ⟨d1, d2, d3, d4, d5, d6, d7a⟩) (fun q => kf q p e s m args below meth c G w0 H locs LS ws _ hC ⟨d1, d2, d3, d4, d5, d6, d7a⟩)
theorem mt_if_gt {x : Int32} {off : Int} {tgt : Nat} (hdg : decode M.2.1 pc = .ok (.ifCond .gt off, 3)) (ht : (pc : Int) + off = (tgt : Int)) (kt : 0 < x → mT l M R K tgt ls st h n cc sc) (kf : ¬ 0 < x → mT l M R K (pc + 3) ls st h n cc sc) : mT l M R K pc ls (.int x :: st) h n cc sc := by
  intro p e s m args below meth c G w0 H locs LS ws st' hC hD
  obtain ⟨d1, d2, d3, d4, d5, d6, d7⟩ := hD
  obtain ⟨_, rfl, d7a⟩ := d7.int
  exact lv_if_gt hC.1 hC.2.2.1 hdg ht (fun q => kt q p e s m args below meth c G w0 H locs LS ws _ hC ⟨d1, d2, d3, d4, d5, d6, d7a⟩) (fun q => kf q p e s m args below meth c G w0 H locs LS ws _ hC ⟨d1, d2, d3, d4, d5, d6, d7a⟩)
theorem mt_if_le {x : Int32} {off : Int} {tgt : Nat} (hdg : decode M.2.1 pc = .ok (.ifCond .le off, 3)) (ht : (pc : Int) + off = (tgt : Int)) (kt : x ≤ 0 → mT l M R K tgt ls st h n cc sc) (kf : ¬ x ≤ 0 → mT l M R K (pc + 3) ls st h n cc sc) : mT l M R K pc ls (.int x :: st) h n cc sc := by
  intro p e s m args below meth c G w0 H locs LS ws st' hC hD
  obtain ⟨d1, d2, d3, d4, d5, d6, d7⟩ := hD
  obtain ⟨_, rfl, d7a⟩ := d7.int
  exact lv_if_le hC.1 hC.2.2.1 hdg ht (fun q => kt q p e s m args below meth c G w0 H locs LS ws _ hC ⟨d1, d2, d3, d4, d5, d6, d7a⟩) (fun q => kf q p e s m args below meth c G w0 H locs LS ws _ hC ⟨d1, d2, d3, d4, d5, d6, d7a⟩)
theorem mt_iload {i : Nat} {x : Int32} (hdg : decode M.2.1 pc = .ok (.iload i, 2)) (hl : ls[i]? = some (.int x)) (k : mT l M R K (pc + 2) ls (.int x :: st) h n cc sc) : mT l M R K pc ls st h n cc sc := by
  intro p e s m args below meth c G w0 H locs LS ws st' hC hD
  obtain ⟨d1, d2, d3, d4, d5, d6, d7⟩ := hD
  obtain ⟨v', h1, h2⟩ := d6.at hl (by intro x q; cases q)
  cases (show v' = .int x from h1)
  exact lv_iload hC.1 hC.2.2.1 hdg h2 (k p e s m args below meth c G w0 H locs LS ws _ hC ⟨d1, d2, d3, d4, d5, d6, mrl.cons (v' := .int x) rfl d7⟩)
theorem mt_lload {i : Nat} {x : Int64} (hdg : decode M.2.1 pc = .ok (.lload i, 2)) (hl : ls[i]? = some (.long x)) (k : mT l M R K (pc + 2) ls (.long x :: st) h n cc sc) : mT l M R K pc ls st h n cc sc := by
  intro p e s m args below meth c G w0 H locs LS ws st' hC hD
  obtain ⟨d1, d2, d3, d4, d5, d6, d7⟩ := hD
  obtain ⟨v', h1, h2⟩ := d6.at hl (by intro x q; cases q)
  cases (show v' = .long x from h1)
  exact lv_lload hC.1 hC.2.2.1 hdg h2 (k p e s m args below meth c G w0 H locs LS ws _ hC ⟨d1, d2, d3, d4, d5, d6, mrl.cons (v' := .long x) rfl d7⟩)
theorem mt_iload_n {k0 : Fin 4} {x : Int32} (hdg : decode M.2.1 pc = .ok (.iload_n k0, 1)) (hl : ls[(k0 : Nat)]? = some (.int x)) (k : mT l M R K (pc + 1) ls (.int x :: st) h n cc sc) : mT l M R K pc ls st h n cc sc := by
  intro p e s m args below meth c G w0 H locs LS ws st' hC hD
  obtain ⟨d1, d2, d3, d4, d5, d6, d7⟩ := hD
  obtain ⟨v', h1, h2⟩ := d6.at hl (by intro x q; cases q)
  cases (show v' = .int x from h1)
  exact lv_iload_n hC.1 hC.2.2.1 hdg rfl h2 (k p e s m args below meth c G w0 H locs LS ws _ hC ⟨d1, d2, d3, d4, d5, d6, mrl.cons (v' := .int x) rfl d7⟩)
theorem mt_lload_n {k0 : Fin 4} {x : Int64} (hdg : decode M.2.1 pc = .ok (.lload_n k0, 1)) (hl : ls[(k0 : Nat)]? = some (.long x)) (k : mT l M R K (pc + 1) ls (.long x :: st) h n cc sc) : mT l M R K pc ls st h n cc sc := by
  intro p e s m args below meth c G w0 H locs LS ws st' hC hD
  obtain ⟨d1, d2, d3, d4, d5, d6, d7⟩ := hD
  obtain ⟨v', h1, h2⟩ := d6.at hl (by intro x q; cases q)
  cases (show v' = .long x from h1)
  exact lv_lload_n hC.1 hC.2.2.1 hdg rfl h2 (k p e s m args below meth c G w0 H locs LS ws _ hC ⟨d1, d2, d3, d4, d5, d6, mrl.cons (v' := .long x) rfl d7⟩)
/-- a reference of any kind -/
def mir : Value → Bool
  | .ref _ => true
  | .float _ => true
  | .retAddr _ => true
  | _ => false
theorem mrv.ir {b : Nat → Nat} {ws : va_W} {v v' : Value} (h : mrv b ws v v') (hv : mir v = true) : ∃ q, v' = .ref q := by
  cases v with
  | ref k => obtain ⟨e, h1, h2⟩ := h; exact ⟨_, h2⟩
  | float k => exact h
  | retAddr k => exact ⟨b k, h⟩
  | _ => cases hv
theorem mir_nd {v : Value} (hv : mir v = true) : ∀ x, v ≠ .double x := by
  intro x q
  subst q
  cases hv
theorem mt_aload {i : Nat} {v : Value} (hdg : decode M.2.1 pc = .ok (.aload i, 2)) (hl : ls[i]? = some v) (hv : mir v = true) (k : mT l M R K (pc + 2) ls (v :: st) h n cc sc) : mT l M R K pc ls st h n cc sc := by
  intro p e s m args below meth c G w0 H locs LS ws st' hC hD
  obtain ⟨d1, d2, d3, d4, d5, d6, d7⟩ := hD
  obtain ⟨v', h1, h2⟩ := d6.at hl (mir_nd hv)
  obtain ⟨q, rfl⟩ := h1.ir hv
  exact lv_aload hC.1 hC.2.2.1 hdg h2 (k p e s m args below meth c G w0 H locs LS ws _ hC ⟨d1, d2, d3, d4, d5, d6, mrl.cons h1 d7⟩)
theorem mt_aload_n {k0 : Fin 4} {v : Value} (hdg : decode M.2.1 pc = .ok (.aload_n k0, 1)) (hl : ls[(k0 : Nat)]? = some v) (hv : mir v = true) (k : mT l M R K (pc + 1) ls (v :: st) h n cc sc) : mT l M R K pc ls st h n cc sc := by
  intro p e s m args below meth c G w0 H locs LS ws st' hC hD
  obtain ⟨d1, d2, d3, d4, d5, d6, d7⟩ := hD
  obtain ⟨v', h1, h2⟩ := d6.at hl (mir_nd hv)
  obtain ⟨q, rfl⟩ := h1.ir hv
  exact lv_aload_n hC.1 hC.2.2.1 hdg rfl h2 (k p e s m args below meth c G w0 H locs LS ws _ hC ⟨d1, d2, d3, d4, d5, d6, mrl.cons h1 d7⟩)
theorem mt_istore {i : Nat} {x : Int32} (hdg : decode M.2.1 pc = .ok (.istore i, 2)) (hn : i < M.2.2.1) (hg : mnl ls i = true) (k : mT l M R K (pc + 2) (ls.set i (.int x)) st h n cc sc) : mT l M R K pc ls (.int x :: st) h n cc sc := by
  intro p e s m args below meth c G w0 H locs LS ws st' hC hD
  obtain ⟨d1, d2, d3, d4, d5, ⟨lv, d6, d8⟩, d7⟩ := hD
  obtain ⟨_, rfl, d7a⟩ := d7.int
  exact lv_istore hC.1 hC.2.2.1 hdg  d6 hn rfl (fun LS' h3 => k p e s m args below meth c G w0 H locs LS' ws _ hC ⟨d1, d2, d3, d4, d5, mL.store1 d6 d8 hg rfl h3, d7a⟩)
theorem mt_istore_n {k0 : Fin 4} {x : Int32} (hdg : decode M.2.1 pc = .ok (.istore_n k0, 1)) (hn : (k0 : Nat) < M.2.2.1) (hg : mnl ls (k0 : Nat) = true) (k : mT l M R K (pc + 1) (ls.set (k0 : Nat) (.int x)) st h n cc sc) : mT l M R K pc ls (.int x :: st) h n cc sc := by
  intro p e s m args below meth c G w0 H locs LS ws st' hC hD
  obtain ⟨d1, d2, d3, d4, d5, ⟨lv, d6, d8⟩, d7⟩ := hD
  obtain ⟨_, rfl, d7a⟩ := d7.int
  exact lv_istore_n hC.1 hC.2.2.1 hdg rfl d6 hn rfl (fun LS' h3 => k p e s m args below meth c G w0 H locs LS' ws _ hC ⟨d1, d2, d3, d4, d5, mL.store1 d6 d8 hg rfl h3, d7a⟩)
theorem mt_lstore {i : Nat} {x : Int64} (hdg : decode M.2.1 pc = .ok (.lstore i, 2)) (hn : i + 1 < M.2.2.1) (hg : mnl ls i = true) (k : mT l M R K (pc + 2) ((ls.set i (.long x)).set (i + 1) (.double 0)) st h n cc sc) : mT l M R K pc ls (.long x :: st) h n cc sc := by
  intro p e s m args below meth c G w0 H locs LS ws st' hC hD
  obtain ⟨d1, d2, d3, d4, d5, ⟨lv, d6, d8⟩, d7⟩ := hD
  obtain ⟨_, rfl, d7a⟩ := d7.long
  exact lv_lstore hC.1 hC.2.2.1 hdg  d6 hn rfl (fun LS' h3 => k p e s m args below meth c G w0 H locs LS' ws _ hC ⟨d1, d2, d3, d4, d5, mL.store2 d6 d8 hg rfl h3, d7a⟩)
theorem mt_lstore_n {k0 : Fin 4} {x : Int64} (hdg : decode M.2.1 pc = .ok (.lstore_n k0, 1)) (hn : (k0 : Nat) + 1 < M.2.2.1) (hg : mnl ls (k0 : Nat) = true) (k : mT l M R K (pc + 1) ((ls.set (k0 : Nat) (.long x)).set ((k0 : Nat) + 1) (.double 0)) st h n cc sc) : mT l M R K pc ls (.long x :: st) h n cc sc := by
  intro p e s m args below meth c G w0 H locs LS ws st' hC hD
  obtain ⟨d1, d2, d3, d4, d5, ⟨lv, d6, d8⟩, d7⟩ := hD
  obtain ⟨_, rfl, d7a⟩ := d7.long
  exact lv_lstore_n hC.1 hC.2.2.1 hdg rfl d6 hn rfl (fun LS' h3 => k p e s m args below meth c G w0 H locs LS' ws _ hC ⟨d1, d2, d3, d4, d5, mL.store2 d6 d8 hg rfl h3, d7a⟩)
theorem mt_astore {i : Nat} {v : Value} (hdg : decode M.2.1 pc = .ok (.astore i, 2)) (hv : mir v = true) (hn : i < M.2.2.1) (hg : mnl ls i = true) (k : mT l M R K (pc + 2) (ls.set i v) st h n cc sc) : mT l M R K pc ls (v :: st) h n cc sc := by
  intro p e s m args below meth c G w0 H locs LS ws st' hC hD
  obtain ⟨d1, d2, d3, d4, d5, ⟨lv, d6, d8⟩, d7⟩ := hD
  obtain ⟨v', _, rfl, h1, d7a⟩ := d7
  obtain ⟨q, rfl⟩ := h1.ir hv
  exact lv_astore hC.1 hC.2.2.1 hdg  d6 hn rfl (fun LS' h3 => k p e s m args below meth c G w0 H locs LS' ws _ hC ⟨d1, d2, d3, d4, d5, mL.store1 d6 d8 hg h1 h3, d7a⟩)
theorem mt_astore_n {k0 : Fin 4} {v : Value} (hdg : decode M.2.1 pc = .ok (.astore_n k0, 1)) (hv : mir v = true) (hn : (k0 : Nat) < M.2.2.1) (hg : mnl ls (k0 : Nat) = true) (k : mT l M R K (pc + 1) (ls.set (k0 : Nat) v) st h n cc sc) : mT l M R K pc ls (v :: st) h n cc sc := by
  intro p e s m args below meth c G w0 H locs LS ws st' hC hD
  obtain ⟨d1, d2, d3, d4, d5, ⟨lv, d6, d8⟩, d7⟩ := hD
  obtain ⟨v', _, rfl, h1, d7a⟩ := d7
  obtain ⟨q, rfl⟩ := h1.ir hv
  exact lv_astore_n hC.1 hC.2.2.1 hdg rfl d6 hn rfl (fun LS' h3 => k p e s m args below meth c G w0 H locs LS' ws _ hC ⟨d1, d2, d3, d4, d5, mL.store1 d6 d8 hg h1 h3, d7a⟩)
theorem mt_iinc {i : Nat} {q : Int} {x v : Int32} (hdg : decode M.2.1 pc = .ok (.iinc i q, 3)) (hl : ls[i]? = some (.int x)) (hv : x + Int32.ofInt q = v) (hn : i < M.2.2.1) (hg : mnl ls i = true) (k : mT l M R K (pc + 3) (ls.set i (.int v)) st h n cc sc) : mT l M R K pc ls st h n cc sc := by
  intro p e s m args below meth c G w0 H locs LS ws st' hC hD
  obtain ⟨d1, d2, d3, d4, d5, ⟨lv, d6, d8⟩, d7⟩ := hD
  rcases d8 i _ hl with ⟨x, h3⟩ | ⟨v', h3, h4⟩
  · cases h3
  · cases (show v' = .int x from h3)
    obtain ⟨j, hj⟩ := List.getElem?_of_mem h4
    exact lv_iinc hC.1 hC.2.2.1 hdg d6 hj hv hn rfl (fun LS' h3 => k p e s m args below meth c G w0 H locs LS' ws _ hC ⟨d1, d2, d3, d4, d5, mL.store1 d6 d8 hg rfl h3, d7⟩)
theorem mt_tableOut {dflt lo hi : Int} {offs : Array Int} {len : Nat} {x : Int32} {tgt : Nat} (hdg : decode M.2.1 pc = .ok (.tableswitch dflt lo hi offs, len)) (hq : x.toInt < lo ∨ hi < x.toInt) (ht : (pc : Int) + dflt = (tgt : Int)) (k : mT l M R K tgt ls st h n cc sc) : mT l M R K pc ls (.int x :: st) h n cc sc := mt_lift k (fun _ _ _ hx hb hr => by
  obtain ⟨_, rfl, hr2⟩ := hr.int
  exact ⟨_, hr2, lv_tableOut hx hb hdg hq ht⟩)
theorem mt_tableIn {dflt lo hi : Int} {offs : Array Int} {len : Nat} {x : Int32} {off : Int} {tgt : Nat} (hdg : decode M.2.1 pc = .ok (.tableswitch dflt lo hi offs, len)) (h1 : ¬ x.toInt < lo) (h2 : ¬ hi < x.toInt) (ho : offs[(x.toInt - lo).toNat]? = some off) (ht : (pc : Int) + off = (tgt : Int)) (k : mT l M R K tgt ls st h n cc sc) : mT l M R K pc ls (.int x :: st) h n cc sc := mt_lift k (fun _ _ _ hx hb hr => by
  obtain ⟨_, rfl, hr2⟩ := hr.int
  exact ⟨_, hr2, lv_tableIn hx hb hdg h1 h2 ho ht⟩)
theorem mt_widen {cc' sc' : Nat} (h1 : cc ≤ cc') (h2 : sc ≤ sc') (k : mT l M R K pc ls st h n cc' sc') : mT l M R K pc ls st h n cc sc := fun p e s m args below meth c G w0 H locs LS ws st' hC hD => W.widen h1 h2 (k p e s m args below meth c G w0 H locs LS ws st' hC hD)
end MTA
