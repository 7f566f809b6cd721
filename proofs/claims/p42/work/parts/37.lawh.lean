/-! ===== the law: its frame ===== -/
def R_law : String := "RunweaverLaw"
def lw_P (b : Addr) (xs : List Int32) (args : Array Value) (s : State) : Prop := args = #[.ref b] ∧ s.IntsAt b xs ∧ xs.length ≤ 384 ∧ (Jvm.Cond.and given_1 narrow_1).before args s = true
def lw_Q (_ : Array Value) (s : State) (o : Outcome) (t : State) : Prop := o = .returned (some (.int 1)) ∧ Framed s o t [] 600128 7301098
def lw_Z (below : List Frame) (a : Array Value) (s : State) : State → Prop := fun t => ∃ o, t.status = .running ∧ Ended t below o ∧ lw_Q a s o t
/-- the law's own end, with 1 on the stack, nothing written that was there before, its room as the claim has it -/
theorem lw_ret {p : Program} {l : Launch} {e : Env} {s : State} {m : MethodId} {below : List Frame} {meth : Method} {c : Code} {b : Nat} (hx : p.tables.exec = Jvm.exec) (hb : c.code = code) (hr : meth.sig.returnType = ret) (hlocks : meth.locks = false) {pc : Nat} {H : Heap} {ls : Array Slot} (hdg : decode code pc = .ok (.ireturn, 1)) : W p l e room_1 s m #[Value.ref b] below meth c H [] 600128 7301098 (lw_Z below #[Value.ref b] s) (F0 m pc ls [.int 1]) := by
  intro T hT X
  obtain ⟨fs, hret, hrun, hended, hW, hframe⟩ := X.leave (v := some (.int 1)) (hlocks := hlocks) (fun h => by rw [hr] at h; cases h)
  have hmeth' : T.vm.method? m = some meth := X.method'
  refine ⟨T.setFrames fs, ?_, .returned (some (.int 1)), hrun, hended, rfl, ⟨_, rfl⟩, hW, hframe⟩
  jvm_step X.here [X.here.top, hx, hb, hdg, hmeth', hr, ret, narrow_b1]
  (try refine ⟨rfl, ?_⟩); (try refine ⟨rfl, ?_⟩)
  first | (intro acts; rw [hret _ acts rfl rfl rfl]) | rw [hret _ _ rfl rfl rfl]
  exact Steps.refl _
/-- the law as a method with a script -/
abbrev mLw : mM := (yL_law, cL_law, 7, some .boolean, [], true)
/-- what the law owes, for the script xs of L ints -/
def mKl (L : Nat) (xs : Nat → Int32) : mK := fun s args below G _ t => (G.2.2.2.2.1 = L ∧ G.2.2.2.2.2 = xs ∧ args = #[Value.ref (G.2.2.2.1 0)]) → lw_Z below args s t
section MTL
variable {l : Launch} {pc : Nat} {ls st : List Value} {h : mH} {n cc sc : Nat} {R : Room} {M : mM} {L : Nat} {xs : Nat → Int32}
theorem va_A0 {b sz : Nat} {w0 : va_W} (hw : w0 = []) (hb : b < sz) : ¬ va_A w0 sz b := by
  subst hw
  rintro (⟨k, e, z⟩ | z)
  · cases z
  · exact absurd hb (Nat.not_lt.mpr z)
theorem mx_len (hdg : decode M.2.1 pc = .ok (.arraylength, 1)) (hM : M.2.2.2.2.2 = true) (k : mT l M R (mKl L xs) (pc + 1) ls (.int (nI L) :: st) h n cc sc) : mT l M R (mKl L xs) pc ls (.retAddr 0 :: st) h n cc sc := by
  intro p e s m args below meth c G w0 H locs LS ws st' hC hD
  by_cases q : G.2.2.2.2.1 = L ∧ G.2.2.2.2.2 = xs
  · obtain ⟨d1, d2, d3, d4, d5, d6, d7⟩ := hD
    obtain ⟨v', t', rfl, hv, d7a⟩ := d7
    obtain rfl : v' = .ref (G.2.2.2.1 0) := hv
    obtain ⟨hX, hbl, hw0⟩ := hC.2.2.2.2.2.2.2.2.2.2.2.2 hM
    rw [q.1, q.2] at hX
    exact va_slen hC.1 hC.2.2.1 hX hbl (va_A0 hw0 hbl) d4 hdg (k p e s m args below meth c G w0 H locs LS ws _ hC ⟨d1, d2, d3, d4, d5, d6, ⟨_, _, rfl, rfl, d7a⟩⟩)
  · intro T hT X
    exact ⟨_, Steps.refl _, fun z => absurd ⟨z.1, z.2.1⟩ q⟩
theorem mx_ld {j : Nat} (hdg : decode M.2.1 pc = .ok (.iaload, 1)) (hM : M.2.2.2.2.2 = true) (hj : j < L) (hL : L < 2 ^ 31) (k : mT l M R (mKl L xs) (pc + 1) ls (.int (xs j) :: st) h n cc sc) : mT l M R (mKl L xs) pc ls (.int (nI j) :: .retAddr 0 :: st) h n cc sc := by
  intro p e s m args below meth c G w0 H locs LS ws st' hC hD
  by_cases q : G.2.2.2.2.1 = L ∧ G.2.2.2.2.2 = xs
  · obtain ⟨d1, d2, d3, d4, d5, d6, d7⟩ := hD
    obtain ⟨t1, rfl, d7b⟩ := d7.int
    obtain ⟨v', t', rfl, hv, d7a⟩ := d7b
    obtain rfl : v' = .ref (G.2.2.2.1 0) := hv
    obtain ⟨hX, hbl, hw0⟩ := hC.2.2.2.2.2.2.2.2.2.2.2.2 hM
    rw [q.1, q.2] at hX
    refine va_sld hC.1 hC.2.2.1 hX hbl (va_A0 hw0 hbl) d4 (vp_in_nI hj hL) hdg ?_
    rw [nI_clamp (by omega)]
    exact k p e s m args below meth c G w0 H locs LS ws _ hC ⟨d1, d2, d3, d4, d5, d6, ⟨_, _, rfl, rfl, d7a⟩⟩
  · intro T hT X
    exact ⟨_, Steps.refl _, fun z => absurd ⟨z.1, z.2.1⟩ q⟩
theorem mx_end (hdg : decode mLw.2.1 pc = .ok (.ireturn, 1)) (hcc : cc ≤ 600128) (hsc : sc ≤ 7301098) : mT l mLw room_1 (mKl L xs) pc ls [.int (nI 1)] h n cc sc := by
  intro p e s m args below meth c G w0 H locs LS ws st' hC hD
  by_cases q : args = #[Value.ref (G.2.2.2.1 0)]
  · obtain ⟨d1, d2, d3, d4, d5, d6, d7⟩ := hD
    obtain ⟨t1, rfl, d7a⟩ := d7.int
    cases (show t1 = [] from d7a)
    obtain ⟨hX, hbl, hw0⟩ := hC.2.2.2.2.2.2.2.2.2.2.2.2 rfl
    subst q
    refine va_forget (fun q hq => ?_) (W.widen hcc hsc (fun T hT X => ?_))
    · rcases d4.2.2 q hq with ⟨k, e, z⟩ | z
      · rw [hw0] at z; cases z
      · exact z
    · obtain ⟨t, a1, a2⟩ := lw_ret hC.1 hC.2.2.1 hC.2.2.2.1 hC.2.2.2.2.2.2.2.1 hdg T hT X
      exact ⟨t, a1, fun _ => a2⟩
  · intro T hT X
    exact ⟨_, Steps.refl _, fun z => absurd z.2.2 q⟩
/-- a case of the law: from its first instruction to the loop's end; class and reference at one state -/
def lawCase (l : Launch) (L : Nat) (xs : Nat → Int32) (pc : Nat) : Prop := ∀ (i : Nat) (h : mH) (n : Nat) (S : cS) (th : Int32) (y : Int64) (s : Value) (cc sc : Nat), i + 6 ≤ L → L ≤ 384 → cAt h S → mAt h n S th → h 38 = .inr (.inr (5, [.long y, s])) → cc + 9000 ≤ 600128 → sc + 62000 ≤ 7301098 →
  (∀ (h' : mH) (n' : Nat) (S' : cS) (th' : Int32) (y' : Int64) (s' : Value), cAt h' S' → mAt h' n' S' th' → h' 38 = .inr (.inr (5, [.long y', s'])) → mT l mLw room_1 (mKl L xs) 2003 [.retAddr 0, .ref 0, .ref 27, .ref 38, .int (nI i), .double 0, .double 0] [] h' n' (cc + 9000) (sc + 62000)) → mT l mLw room_1 (mKl L xs) pc [.retAddr 0, .ref 0, .ref 27, .ref 38, .int (nI i), .double 0, .double 0] [] h n cc sc
end MTL
