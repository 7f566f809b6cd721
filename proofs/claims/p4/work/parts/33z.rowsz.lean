/-! ===== the comparing: rows; questions leave the state ===== -/
section MTZ
variable {l : Launch} {M : mM} {R : Room} {K : mK} {pc : Nat} {ls st : List Value} {h : mH} {n cc sc : Nat}
theorem mt_getfieldN {a ci i : Nat} {C host : String} {T : u_T} {N index : Nat} {ty0 : Nat → FieldType} {fs : List Value} {v : Value} (hc : mCl ci C T N ty0) (hk : i < N) (hlink : Cond.fieldLinkNest M.1.cls index (T i).1 (T i).2.1 (T i).2.2.1 host ∈ mNw) (hdg : decode M.2.1 pc = .ok (.getfield index, 3)) (he : h a = .inr (.inr (ci, fs))) (hv : fs[i]? = some v) (k : mT l M R K (pc + 3) ls (v :: st) h n cc sc) : mT l M R K pc ls (.ref a :: st) h n cc sc := by
  intro p e s m args below meth c G w0 H locs LS ws st' hC hD
  obtain ⟨d1, d2, d3, d4, d5, d6, d7⟩ := hD
  obtain ⟨⟨x, e'⟩, t', h1, rfl, d7a⟩ := d7.ref
  have hr := d1.at h1
  rw [he] at hr
  obtain ⟨fs', rfl, h3⟩ := hr
  obtain ⟨v', h4, h5⟩ := h3.get hv
  have hC' := hC
  obtain ⟨hx, -, hb, -, -, hown, hts, -, -, -, hmS, -⟩ := hC'
  exact va_getN hx hb hts hc.2.1 hown hmS.1 d2 a h1 hc.1 i hk (va_Nw.use rfl (hmS.2.2.2.2.2.1 _ hlink)) (fun _ q => q) h4 hdg (k p e s m args below meth c G w0 H locs LS ws _ hC ⟨d1, d2, d3, d4, d5, d6, mrl.cons h5 d7a⟩)
theorem mt_lcmpE {x : Int64} (hdg : decode M.2.1 pc = .ok (.lcmp, 1)) (k : mT l M R K (pc + 1) ls (.int (nI 0) :: st) h n cc sc) : mT l M R K pc ls (.long x :: .long x :: st) h n cc sc := mt_lift k (fun _ _ _ hx hb hr => by
  obtain ⟨_, rfl, hr2⟩ := hr.long
  obtain ⟨_, rfl, hr3⟩ := hr2.long
  exact ⟨_, mrl.cons (v' := .int (nI 0)) rfl hr3, fun kk => W.lcmp hx hb hdg (by rw [show lg_cmp x x = nI 0 from by unfold lg_cmp; rw [if_neg (by rw [gt_iff_lt, Int64.lt_iff_toInt_lt]; omega), if_pos rfl]; rfl]; exact kk)⟩)
end MTZ
theorem lenOk_of {h : mH} {S : cS} (C : cAt h S) : lenOk S := fun r hr => (C.2.2.2.1 r hr).len.1
/-- a question leaves the state -/
def qP (S : cS) (o : Nat × Value × cS) : Prop := o.2.2 = S
theorem dAt_q {S : cS} {k : Nat} {x : Int32} {f : Nat → Nat × Value × cS} (hf : ∀ r, qP S (f r)) : qP S (dAt S k x f) := by
  unfold dAt
  split
  · rfl
  · exact hf _
theorem dArg_q {S : cS} {k : Nat} {x : Int32} {f : Nat → Nat × Value × cS} (hf : ∀ r, qP S (f r)) : qP S (dArg S k x f) := by
  unfold dArg
  split
  · rfl
  · exact hf _
theorem dFit_q {S : cS} {k : Bool} {o : Nat × Value × cS} (hf : qP S o) : qP S (dFit S k o) := by
  unfold dFit
  split
  · exact hf
  · rfl
theorem stOf_q {S : cS} {o : Nat × Value × cS} (h : qP S o) : stOf S o = S := by
  unfold stOf
  split
  · exact h
  · rfl
abbrev rX4_thrown : Room := { frames := 0, cells := 0, slots := 0, locals := 0 }
theorem kX4_thrown {l : Launch} (hl : l.stackTraces = false) {h : mH} {n : Nat} {S : cS} {th : Int32} (C : h 27 = mObj S th) : mC l mX4_thrown rX4_thrown [.ref 27] h n (mRi th h n) mNX := by
  refine mm_enter hl (by decide +kernel) rfl rfl rfl (Nat.le_of_ble_eq_true rfl) ?_
  show mT _ _ _ _ 0 [.ref 27] [] _ _ 0 0
  refine mt_aload_n dX4_thrown_0 rfl rfl ?_
  refine mt_getfield mKX4 (i := 6) (by decide) mw_1059 dX4_thrown_1 C rfl ?_
  refine mt_ireturn dX4_thrown_4 rfl rfl (Nat.le_of_ble_eq_true rfl) (Nat.le_of_ble_eq_true rfl) ?_
  exact ⟨rfl, rfl, rfl⟩
theorem qst_sp_many {S : cS} {row : Int32} : qP S (sp_many S row) := by
  unfold sp_many
  repeat' first | rfl | refine dAt_q (fun r => ?_) | refine dArg_q (fun r => ?_) | refine dFit_q ?_ | split
theorem qst_sp_key {S : cS} {row : Int32} {place : Int32} : qP S (sp_key S row place) := by
  unfold sp_key
  repeat' first | rfl | refine dAt_q (fun r => ?_) | refine dArg_q (fun r => ?_) | refine dFit_q ?_ | split
theorem qst_sp_stamp {S : cS} {row : Int32} {place : Int32} : qP S (sp_stamp S row place) := by
  unfold sp_stamp
  repeat' first | rfl | refine dAt_q (fun r => ?_) | refine dArg_q (fun r => ?_) | refine dFit_q ?_ | split
theorem qst_sp_rank {S : cS} {row : Int32} {place : Int32} : qP S (sp_rank S row place) := by
  unfold sp_rank
  repeat' first | rfl | refine dAt_q (fun r => ?_) | refine dArg_q (fun r => ?_) | refine dFit_q ?_ | split
theorem qst_sp_would {S : cS} {row : Int32} {place : Int32} : qP S (sp_would S row place) := by
  unfold sp_would
  repeat' first | rfl | refine dAt_q (fun r => ?_) | refine dArg_q (fun r => ?_) | refine dFit_q ?_ | split
theorem qst_mp_would {S : cS} {row : Int32} {place : Int32} : qP S (mp_would S row place) := by
  unfold mp_would
  repeat' first | rfl | refine dAt_q (fun r => ?_) | refine dArg_q (fun r => ?_) | refine dFit_q ?_ | split
theorem qst_sp_wouldStamp {S : cS} {row : Int32} {place : Int32} : qP S (sp_wouldStamp S row place) := by
  unfold sp_wouldStamp
  repeat' first | rfl | refine dAt_q (fun r => ?_) | refine dArg_q (fun r => ?_) | refine dFit_q ?_ | split
theorem qst_mp_wouldStamp {S : cS} {row : Int32} {place : Int32} : qP S (mp_wouldStamp S row place) := by
  unfold mp_wouldStamp
  repeat' first | rfl | refine dAt_q (fun r => ?_) | refine dArg_q (fun r => ?_) | refine dFit_q ?_ | split
theorem qst_sp_wrongAt {S : cS} {row : Int32} {place : Int32} : qP S (sp_wrongAt S row place) := by
  unfold sp_wrongAt
  repeat' first | rfl | refine dAt_q (fun r => ?_) | refine dArg_q (fun r => ?_) | refine dFit_q ?_ | split
theorem qst_mp_wrongAt {S : cS} {row : Int32} {place : Int32} : qP S (mp_wrongAt S row place) := by
  unfold mp_wrongAt
  repeat' first | rfl | refine dAt_q (fun r => ?_) | refine dArg_q (fun r => ?_) | refine dFit_q ?_ | split
theorem qst_sp_after {S : cS} {row : Int32} {place : Int32} : qP S (sp_after S row place) := by
  unfold sp_after
  repeat' first | rfl | refine dAt_q (fun r => ?_) | refine dArg_q (fun r => ?_) | refine dFit_q ?_ | split
theorem qst_mp_after {S : cS} {row : Int32} {place : Int32} : qP S (mp_after S row place) := by
  unfold mp_after
  repeat' first | rfl | refine dAt_q (fun r => ?_) | refine dArg_q (fun r => ?_) | refine dFit_q ?_ | split
theorem qst_sp_runAt {S : cS} {row : Int32} {place : Int32} : qP S (sp_runAt S row place) := by
  unfold sp_runAt
  repeat' first | rfl | refine dAt_q (fun r => ?_) | refine dArg_q (fun r => ?_) | refine dFit_q ?_ | split
theorem qst_sp_isSorted {S : cS} {row : Int32} : qP S (sp_isSorted S row) := by
  unfold sp_isSorted
  repeat' first | rfl | refine dAt_q (fun r => ?_) | refine dArg_q (fun r => ?_) | refine dFit_q ?_ | split
theorem qst_mp_isSorted {S : cS} {row : Int32} : qP S (mp_isSorted S row) := by
  unfold mp_isSorted
  repeat' first | rfl | refine dAt_q (fun r => ?_) | refine dArg_q (fun r => ?_) | refine dFit_q ?_ | split
theorem qst_sp_isFalling {S : cS} {row : Int32} : qP S (sp_isFalling S row) := by
  unfold sp_isFalling
  repeat' first | rfl | refine dAt_q (fun r => ?_) | refine dArg_q (fun r => ?_) | refine dFit_q ?_ | split
theorem qst_mp_isFalling {S : cS} {row : Int32} : qP S (mp_isFalling S row) := by
  unfold mp_isFalling
  repeat' first | rfl | refine dAt_q (fun r => ?_) | refine dArg_q (fun r => ?_) | refine dFit_q ?_ | split
theorem qst_sp_isKept {S : cS} {row : Int32} : qP S (sp_isKept S row) := by
  unfold sp_isKept
  repeat' first | rfl | refine dAt_q (fun r => ?_) | refine dArg_q (fun r => ?_) | refine dFit_q ?_ | split
theorem qst_mp_isKept {S : cS} {row : Int32} : qP S (mp_isKept S row) := by
  unfold mp_isKept
  repeat' first | rfl | refine dAt_q (fun r => ?_) | refine dArg_q (fun r => ?_) | refine dFit_q ?_ | split
theorem qst_sp_wrong {S : cS} {row : Int32} {how : Int32} : qP S (sp_wrong S row how) := by
  unfold sp_wrong
  repeat' first | rfl | refine dAt_q (fun r => ?_) | refine dArg_q (fun r => ?_) | refine dFit_q ?_ | split
theorem qst_mp_wrong {S : cS} {row : Int32} {how : Int32} : qP S (mp_wrong S row how) := by
  unfold mp_wrong
  repeat' first | rfl | refine dAt_q (fun r => ?_) | refine dArg_q (fun r => ?_) | refine dFit_q ?_ | split
theorem qst_sp_right {S : cS} {row : Int32} : qP S (sp_right S row) := by
  unfold sp_right
  repeat' first | rfl | refine dAt_q (fun r => ?_) | refine dArg_q (fun r => ?_) | refine dFit_q ?_ | split
theorem qst_mp_right {S : cS} {row : Int32} : qP S (mp_right S row) := by
  unfold mp_right
  repeat' first | rfl | refine dAt_q (fun r => ?_) | refine dArg_q (fun r => ?_) | refine dFit_q ?_ | split
theorem qst_sp_ties {S : cS} {row : Int32} : qP S (sp_ties S row) := by
  unfold sp_ties
  repeat' first | rfl | refine dAt_q (fun r => ?_) | refine dArg_q (fun r => ?_) | refine dFit_q ?_ | split
theorem qst_mp_ties {S : cS} {row : Int32} : qP S (mp_ties S row) := by
  unfold mp_ties
  repeat' first | rfl | refine dAt_q (fun r => ?_) | refine dArg_q (fun r => ?_) | refine dFit_q ?_ | split
theorem qst_sp_runs {S : cS} {row : Int32} : qP S (sp_runs S row) := by
  unfold sp_runs
  repeat' first | rfl | refine dAt_q (fun r => ?_) | refine dArg_q (fun r => ?_) | refine dFit_q ?_ | split
theorem qst_mp_runs {S : cS} {row : Int32} : qP S (mp_runs S row) := by
  unfold mp_runs
  repeat' first | rfl | refine dAt_q (fun r => ?_) | refine dArg_q (fun r => ?_) | refine dFit_q ?_ | split
theorem qst_sp_longest {S : cS} {row : Int32} : qP S (sp_longest S row) := by
  unfold sp_longest
  repeat' first | rfl | refine dAt_q (fun r => ?_) | refine dArg_q (fun r => ?_) | refine dFit_q ?_ | split
theorem qst_mp_longest {S : cS} {row : Int32} : qP S (mp_longest S row) := by
  unfold mp_longest
  repeat' first | rfl | refine dAt_q (fun r => ?_) | refine dArg_q (fun r => ?_) | refine dFit_q ?_ | split
theorem qst_sp_count {S : cS} {row : Int32} {key : Int32} : qP S (sp_count S row key) := by
  unfold sp_count
  repeat' first | rfl | refine dAt_q (fun r => ?_) | refine dArg_q (fun r => ?_) | refine dFit_q ?_ | split
theorem qst_mp_count {S : cS} {row : Int32} {key : Int32} : qP S (mp_count S row key) := by
  unfold mp_count
  repeat' first | rfl | refine dAt_q (fun r => ?_) | refine dArg_q (fun r => ?_) | refine dFit_q ?_ | split
theorem qst_sp_below {S : cS} {row : Int32} {key : Int32} : qP S (sp_below S row key) := by
  unfold sp_below
  repeat' first | rfl | refine dAt_q (fun r => ?_) | refine dArg_q (fun r => ?_) | refine dFit_q ?_ | split
theorem qst_mp_below {S : cS} {row : Int32} {key : Int32} : qP S (mp_below S row key) := by
  unfold mp_below
  repeat' first | rfl | refine dAt_q (fun r => ?_) | refine dArg_q (fun r => ?_) | refine dFit_q ?_ | split
theorem qst_sp_first {S : cS} {row : Int32} {key : Int32} {isLast : Bool} : qP S (sp_first S row key isLast) := by
  unfold sp_first
  repeat' first | rfl | refine dAt_q (fun r => ?_) | refine dArg_q (fun r => ?_) | refine dFit_q ?_ | split
theorem qst_mp_first {S : cS} {row : Int32} {key : Int32} {isLast : Bool} : qP S (mp_first S row key isLast) := by
  unfold mp_first
  repeat' first | rfl | refine dAt_q (fun r => ?_) | refine dArg_q (fun r => ?_) | refine dFit_q ?_ | split
theorem qst_sp_end {S : cS} {row : Int32} {isGreatest : Bool} : qP S (sp_end S row isGreatest) := by
  unfold sp_end
  repeat' first | rfl | refine dAt_q (fun r => ?_) | refine dArg_q (fun r => ?_) | refine dFit_q ?_ | split
theorem qst_mp_end {S : cS} {row : Int32} {isGreatest : Bool} : qP S (mp_end S row isGreatest) := by
  unfold mp_end
  repeat' first | rfl | refine dAt_q (fun r => ?_) | refine dArg_q (fun r => ?_) | refine dFit_q ?_ | split
theorem qst_sp_unlike {S : cS} {row : Int32} : qP S (sp_unlike S row) := by
  unfold sp_unlike
  repeat' first | rfl | refine dAt_q (fun r => ?_) | refine dArg_q (fun r => ?_) | refine dFit_q ?_ | split
theorem qst_mp_unlike {S : cS} {row : Int32} : qP S (mp_unlike S row) := by
  unfold mp_unlike
  repeat' first | rfl | refine dAt_q (fun r => ?_) | refine dArg_q (fun r => ?_) | refine dFit_q ?_ | split
theorem qst_sp_most {S : cS} {row : Int32} : qP S (sp_most S row) := by
  unfold sp_most
  repeat' first | rfl | refine dAt_q (fun r => ?_) | refine dArg_q (fun r => ?_) | refine dFit_q ?_ | split
theorem qst_mp_most {S : cS} {row : Int32} : qP S (mp_most S row) := by
  unfold mp_most
  repeat' first | rfl | refine dAt_q (fun r => ?_) | refine dArg_q (fun r => ?_) | refine dFit_q ?_ | split
theorem qst_sp_sum {S : cS} {row : Int32} : qP S (sp_sum S row) := by
  unfold sp_sum
  repeat' first | rfl | refine dAt_q (fun r => ?_) | refine dArg_q (fun r => ?_) | refine dFit_q ?_ | split
theorem qst_mp_sum {S : cS} {row : Int32} : qP S (mp_sum S row) := by
  unfold mp_sum
  repeat' first | rfl | refine dAt_q (fun r => ?_) | refine dArg_q (fun r => ?_) | refine dFit_q ?_ | split
theorem qst_sp_same {S : cS} {row : Int32} {other : Int32} : qP S (sp_same S row other) := by
  unfold sp_same
  repeat' first | rfl | refine dAt_q (fun r => ?_) | refine dArg_q (fun r => ?_) | refine dFit_q ?_ | split
theorem qst_mp_same {S : cS} {row : Int32} {other : Int32} : qP S (mp_same S row other) := by
  unfold mp_same
  repeat' first | rfl | refine dAt_q (fun r => ?_) | refine dArg_q (fun r => ?_) | refine dFit_q ?_ | split
theorem qst_sp_bag {S : cS} {row : Int32} {other : Int32} : qP S (sp_bag S row other) := by
  unfold sp_bag
  repeat' first | rfl | refine dAt_q (fun r => ?_) | refine dArg_q (fun r => ?_) | refine dFit_q ?_ | split
theorem qst_mp_bag {S : cS} {row : Int32} {other : Int32} : qP S (mp_bag S row other) := by
  unfold mp_bag
  repeat' first | rfl | refine dAt_q (fun r => ?_) | refine dArg_q (fun r => ?_) | refine dFit_q ?_ | split
theorem qst_sp_mark {S : cS} {row : Int32} {isStamps : Bool} : qP S (sp_mark S row isStamps) := by
  unfold sp_mark
  repeat' first | rfl | refine dAt_q (fun r => ?_) | refine dArg_q (fun r => ?_) | refine dFit_q ?_ | split
theorem qst_sp_house {S : cS} {what : Int32} : qP S (sp_house S what) := by
  unfold sp_house
  repeat' first | rfl | refine dAt_q (fun r => ?_) | refine dArg_q (fun r => ?_) | refine dFit_q ?_ | split
theorem qst_mp_house {S : cS} {what : Int32} : qP S (mp_house S what) := by
  unfold mp_house
  repeat' first | rfl | refine dAt_q (fun r => ?_) | refine dArg_q (fun r => ?_) | refine dFit_q ?_ | split
