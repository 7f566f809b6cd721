/-! ===== the answers alike, one question or act after another ===== -/
/-- the reference's outcome o' is the class's o: its kind, and its answer where it is let -/
def vEq (o o' : Nat × Value × cS) : Prop := o'.1 = o.1 ∧ (o.1 = 0 → o'.2.1 = o.2.1)
theorem vEq.rf {o : Nat × Value × cS} : vEq o o := ⟨rfl, fun _ => rfl⟩
theorem vEq.of {v v' : Value} {S S' : cS} (h : v' = v) : vEq (0, v, S) (0, v', S') := ⟨rfl, fun _ => h⟩
theorem dAt_v {S : cS} {k : Nat} {x : Int32} {f g : Nat → Nat × Value × cS} (hk : k < 2 ^ 31) (h : ∀ j, j < k → vEq (f j) (g j)) : vEq (dAt S k x f) (dAt S k x g) := by
  rcases q : inN k x with _ | j
  · rw [dAt_n q, dAt_n q]; exact vEq.rf
  · obtain ⟨hj, rfl⟩ := inN_of q hk
    rw [dAt_s hj hk, dAt_s hj hk]
    exact h j hj
theorem dArg_v {S : cS} {k : Nat} {x : Int32} {f g : Nat → Nat × Value × cS} (hk : k < 2 ^ 31) (h : ∀ j, j < k → vEq (f j) (g j)) : vEq (dArg S k x f) (dArg S k x g) := by
  rcases q : inN k x with _ | j
  · rw [dArg_n q, dArg_n q]; exact vEq.rf
  · obtain ⟨hj, rfl⟩ := inN_of q hk
    rw [dArg_s hj hk, dArg_s hj hk]
    exact h j hj
theorem dFit_v {S : cS} {b : Bool} {f g : Nat × Value × cS} (h : vEq f g) : vEq (dFit S b f) (dFit S b g) := by
  cases b with
  | true => rw [dFit_s rfl, dFit_s rfl]; exact h
  | false => rw [dFit_n rfl, dFit_n rfl]; exact vEq.rf
theorem dB_v {S : cS} {x : Int32} {f g : Nat → Nat × Value × cS} (h : ∀ j, 0 < j → vEq (f j) (g j)) : vEq (dB S x f) (dB S x g) := by
  by_cases q : x < 1 ∨ nI 99 < x
  · rw [dB_n q, dB_n q]; exact vEq.rf
  · obtain ⟨bn, hbn, hb0, rfl⟩ := dB_in (fun z => q (Or.inl z)) (fun z => q (Or.inr z))
    rw [dB_s hbn hb0, dB_s hbn hb0]
    exact h bn hb0
theorem dKeep_v {S : cS} {L : Nat} {x y : Int32} {f g : Nat → Nat → Nat × Value × cS} (hL : L < 2 ^ 30) (h : ∀ p t, p ≤ t → t ≤ L → vEq (f p t) (g p t)) : vEq (dKeep S L x y f) (dKeep S L x y g) := by
  by_cases q : x < 0 ∨ y < x ∨ nI L < y
  · rw [keep_neg q, keep_neg q]; exact vEq.rf
  · obtain ⟨p, hp, t, ht, hpt, rfl, rfl⟩ := keep_in (fun z => q (Or.inl z)) (fun z => q (Or.inr (Or.inl z))) (fun z => q (Or.inr (Or.inr z))) hL
    rw [keep_pos hpt ht hL, keep_pos hpt ht hL]
    exact h p t hpt (by omega)
theorem eqV_many {S : cS} {row : Int32} : vEq (sp_many S row) (sp_many S row) := vEq.rf
theorem eqV_key {S : cS} {row place : Int32} : vEq (sp_key S row place) (sp_key S row place) := vEq.rf
theorem eqV_stamp {S : cS} {row place : Int32} : vEq (sp_stamp S row place) (sp_stamp S row place) := vEq.rf
theorem eqV_rank {S : cS} {row place : Int32} : vEq (sp_rank S row place) (sp_rank S row place) := vEq.rf
theorem eqV_runAt {S : cS} {row place : Int32} : vEq (sp_runAt S row place) (sp_runAt S row place) := vEq.rf
theorem eqV_mark {S : cS} {row : Int32} {isStamps : Bool} : vEq (sp_mark S row isStamps) (sp_mark S row isStamps) := vEq.rf
theorem lenOk.lt {S : cS} (hS : lenOk S) {r : Nat} (hr : r < 4) : (S.1 r).length < 2 ^ 30 := by
  have h1 := hS r hr
  have h2 := @rroom_le r
  omega
theorem eqV_put {S : cS} {row place key : Int32} (hS : lenOk S) : vEq (sp_put S row place key) (mp_put S row place key) := dAt_v (by decide) (fun r hr => dAt_v (by have := hS.lt hr; omega) (fun p _ => dFit_v (vEq.of rfl)))
theorem eqV_drop {S : cS} {row place : Int32} (hS : lenOk S) : vEq (sp_drop S row place) (mp_drop S row place) := dAt_v (by decide) (fun r hr => dAt_v (by have := hS.lt hr; omega) (fun p _ => vEq.of rfl))
theorem eqV_clear {S : cS} {row : Int32} : vEq (sp_clear S row) (mp_clear S row) := dAt_v (by decide) (fun r _ => vEq.of rfl)
theorem eqV_fill {S : cS} {row many pattern a b : Int32} : vEq (sp_fill S row many pattern a b) (mp_fill S row many pattern a b) := dAt_v (by decide) (fun r _ => dArg_v (by have := @rroom_le r; omega) (fun m _ => dArg_v (by decide) (fun p _ => dFit_v (dB_v (fun bn _ => vEq.of rfl)))))
theorem eqV_add {S : cS} {row key : Int32} (hS : lenOk S) : vEq (sp_add S row key) (mp_add S row key) := dAt_v (by decide) (fun r hr => dFit_v (by
  have h1 := hS r hr
  by_cases q : (S.1 r).length = rroom r
  · rw [if_pos q, if_pos (by omega)]; exact vEq.rf
  · rw [if_neg q, if_neg (by omega)]
    exact vEq.of (by rw [List.length_append]; rfl)))
theorem eqV_keep {S : cS} {row from_ to : Int32} (hS : lenOk S) : vEq (sp_keep S row from_ to) (mp_keep S row from_ to) := dAt_v (by decide) (fun r hr => dKeep_v (hS.lt hr) (fun p t _ ht => vEq.of (by rw [span_len ht])))
theorem eqV_copy {S : cS} {row into : Int32} (hS : lenOk S) : vEq (sp_copy S row into) (mp_copy S row into) := dAt_v (by decide) (fun r hr => dAt_v (by decide) (fun q hq => by
  have h1 := hS r hr
  by_cases e : r = q
  · subst e
    rw [if_pos rfl, if_neg (by omega), if_pos rfl]; exact vEq.of rfl
  · rw [if_neg e, if_neg e]
    by_cases f : rroom q < (S.1 r).length
    · rw [if_pos f, if_pos f]; exact vEq.rf
    · rw [if_neg f, if_neg f]
      exact vEq.of (by rw [bringL_len, List.length_nil, Nat.zero_add])))
theorem eqV_join {S : cS} {row other : Int32} (hS : lenOk S) : vEq (sp_join S row other) (mp_join S row other) := dAt_v (by decide) (fun r hr => dAt_v (by decide) (fun q hq => by
  have h1 := hS r hr
  by_cases f : rroom r < (S.1 r).length + (S.1 q).length
  · rw [if_pos f, if_pos (by omega)]; exact vEq.rf
  · rw [if_neg f, if_neg (by omega)]
    exact vEq.of (by rw [bringL_len])))
theorem eqV_merge {S : cS} {row other : Int32} (hS : lenOk S) : vEq (sp_merge S row other) (mp_merge S row other) := dAt_v (by decide) (fun r hr => dAt_v (by decide) (fun q hq => by
  have h1 := hS r hr
  have h2 := hS q hq
  have h3 := @rroom_le r
  have h4 := @rroom_le q
  have w1 := wrong_pos (xs := S.1 r) (by omega)
  have w2 := wrong_pos (xs := S.1 q) (by omega)
  by_cases e1 : q_isRising (S.1 r) = false
  · rw [if_pos (w1.mpr e1), if_pos e1]; exact vEq.rf
  · rw [if_neg (fun z => e1 (w1.mp z)), if_neg e1]
    by_cases e2 : q_isRising (S.1 q) = false
    · rw [if_pos (w2.mpr e2), if_pos e2]; exact vEq.rf
    · rw [if_neg (fun z => e2 (w2.mp z)), if_neg e2]
      by_cases f : rroom r < (S.1 r).length + (S.1 q).length
      · rw [if_pos f, if_pos (by omega)]; exact vEq.rf
      · rw [if_neg f, if_neg (by omega)]
        exact vEq.of (by rw [weave_len (by rw [bringL_len]; omega), bringL_len, chF_l, jnL_len])))
theorem swp_xk {xs : List mIt} {p q i : Nat} (hp : p < xs.length) (hq : q < xs.length) : xk (swp xs p q) i = if i = q then xk xs p else if i = p then xk xs q else xk xs i := by
  unfold swp
  rw [xk_put (by rw [List.length_set]; exact hq)]
  split
  · rfl
  · rw [xk_put hp]
theorem eqV_swap {S : cS} {row place other : Int32} (hS : lenOk S) : vEq (sp_swap S row place other) (mp_swap S row place other) := dAt_v (by decide) (fun r hr => dAt_v (by have := hS.lt hr; omega) (fun p hp => dAt_v (by have := hS.lt hr; omega) (fun q hq => vEq.of (by
  rw [swp_xk hp hq, swp_xk hp hq, if_pos (rfl : q = q)]
  by_cases e : p = q
  · subst e
    rw [if_pos rfl]
  · rw [if_neg e, if_pos rfl]
    by_cases f : xk (S.1 r) p = xk (S.1 r) q
    · rw [if_pos f.symm, if_pos f]
    · rw [if_neg (fun z => f z.symm), if_neg f]))))
theorem other_unl {xs ys : List mIt} (h : xs.length = ys.length) : mlp (unlF (xk xs) (xk ys)) (xs.length - 0) 0 (nI 0) = q_otherKeys xs ys := by
  unfold q_otherKeys
  rw [← h, Nat.min_self]
  refine mlp_congr (fun j b _ _ => ?_)
  unfold unlF
  by_cases e : xk xs j = xk ys j
  · rw [if_pos e, if_pos e]; exact Int32.add_zero b
  · rw [if_neg e, if_neg e]; rfl
theorem eqV_turn {S : cS} {row : Int32} : vEq (sp_turn S row) (mp_turn S row) := dAt_v (by decide) (fun r _ => vEq.of (by rw [turn_eq, other_unl rv_len.symm]))
theorem eqV_roll {S : cS} {row by_ : Int32} (hS : lenOk S) : vEq (sp_roll S row by_) (mp_roll S row by_) := dAt_v (by decide) (fun r hr => dArg_v (by have := hS.lt hr; omega) (fun b hb => vEq.of (by
  have hl : (S.1 r).length = (span (S.1 r) b (S.1 r).length ++ span (S.1 r) 0 b).length := by
    rw [List.length_append, span_len (Nat.le_refl _), span_len (by omega)]
    omega
  rw [roll_eq (by omega), other_unl hl])))
theorem eqV_sort {S : cS} {row : Int32} : vEq (sp_sort S row) (mp_sort S row) := dAt_v (by decide) (fun r _ => vEq.of (by
  rw [msort_scat]
  refine congrArg Value.int ?_
  unfold q_otherItems
  rw [msort_len, Nat.min_self]
  refine mlp_congr (fun j b _ _ => ?_)
  unfold srS
  by_cases e : xk (S.1 r) j = xk (msort (S.1 r)).1 j ∧ xt (S.1 r) j = xt (msort (S.1 r)).1 j
  · rw [if_pos e, if_pos e]; exact Int32.add_zero b
  · rw [if_neg e, if_neg e]; rfl))
theorem it_scat {xs : List mIt} {p : Nat} (hp : p < xs.length) : it (msort xs).1 p = it xs (scat xs p) := by rw [← msort_scat, it_chF hp]
theorem eqV_would {S : cS} {row place : Int32} (hS : lenOk S) : vEq (sp_would S row place) (mp_would S row place) := dAt_v (by decide) (fun r hr => dAt_v (by have := hS.lt hr; omega) (fun p hp => vEq.of (congrArg Value.int (congrArg Prod.fst (it_scat hp)).symm)))
theorem eqV_wouldStamp {S : cS} {row place : Int32} (hS : lenOk S) : vEq (sp_wouldStamp S row place) (mp_wouldStamp S row place) := dAt_v (by decide) (fun r hr => dAt_v (by have := hS.lt hr; omega) (fun p hp => vEq.of (congrArg Value.int (congrArg Prod.snd (it_scat hp)).symm)))
theorem wrong_0 {xs : List mIt} (hL : xs.length ≤ 320) : (mq_pairs xs (nI 1) = 0) ↔ q_isRising xs = true := by
  obtain ⟨m, m1, m2, m3⟩ := pairs_in (xs := xs) (how := nI 1) xs.length 0 0
  have e : mq_pairs xs (nI 1) = nI (0 + m) := m2
  have hb : xs.length * (0 + xs.length) ≤ 320 * 320 := by
    rw [Nat.zero_add]
    exact Nat.mul_le_mul hL hL
  rw [e, Nat.zero_add, mI_eq0 (by omega), m3, rising_iff]
  constructor
  · intro z i j h1 h2 h3
    exact z j i (Nat.zero_le _) (by omega) h1 (side_1.mpr h3)
  · intro z k o _ h2 h3 h4
    exact z o k h3 (by omega) (side_1.mp h4)
theorem mb_iff {a b : Bool} (h : a = true ↔ b = true) : Value.int (mb a) = Value.int (mb b) := by
  rw [Bool.eq_iff_iff.mpr h]
theorem lenOk.le {S : cS} (hS : lenOk S) {r : Nat} (hr : r < 4) : (S.1 r).length ≤ 320 := Nat.le_trans (hS r hr) rroom_le
theorem eqV_isSorted {S : cS} {row : Int32} (hS : lenOk S) : vEq (sp_isSorted S row) (mp_isSorted S row) := dAt_v (by decide) (fun r hr => vEq.of (mb_iff (by rw [decide_eq_true_iff]; exact wrong_0 (hS.le hr))))
theorem eqV_isKept {S : cS} {row : Int32} : vEq (sp_isKept S row) (mp_isKept S row) := dAt_v (by decide) (fun r _ => vEq.of (mb_iff (by
  unfold q_keepsStamps
  rw [mall_all, mall_all]
  constructor
  · intro h j j1 j2
    have h1 := h j j1 j2
    rw [decide_eq_true_iff] at h1 ⊢
    exact fun z => h1 ⟨z.1.symm, z.2⟩
  · intro h j j1 j2
    have h1 := h j j1 j2
    rw [decide_eq_true_iff] at h1 ⊢
    exact fun z => h1 ⟨z.1.symm, z.2⟩)))
theorem eqV_sum {S : cS} {row : Int32} : vEq (sp_sum S row) (mp_sum S row) := dAt_v (by decide) (fun r _ => vEq.of rfl)
theorem side_0 {x y : Int32} : sideF x y = nI 0 ↔ x = y := by
  unfold sideF
  by_cases h1 : x < y
  · rw [if_pos h1]
    exact ⟨fun z => absurd z (by decide), fun z => by rw [z, Int32.lt_iff_toInt_lt] at h1; omega⟩
  · rw [if_neg h1]
    by_cases h2 : x = y
    · rw [if_pos h2]; exact ⟨fun _ => h2, fun _ => rfl⟩
    · rw [if_neg h2]; exact ⟨fun z => absurd z (by decide), fun z => absurd z h2⟩
theorem side_m {x y : Int32} : sideF x y = -1 ↔ x < y := by
  unfold sideF
  by_cases h1 : x < y
  · rw [if_pos h1]; exact ⟨fun _ => h1, fun _ => rfl⟩
  · rw [if_neg h1]
    by_cases h2 : x = y
    · rw [if_pos h2]; exact ⟨fun z => absurd z (by decide), fun z => absurd z h1⟩
    · rw [if_neg h2]; exact ⟨fun z => absurd z (by decide), fun z => absurd z h1⟩
theorem eqV_count {S : cS} {row key : Int32} : vEq (sp_count S row key) (mp_count S row key) := dAt_v (by decide) (fun r _ => dFit_v (vEq.of (by
  refine congrArg Value.int ?_
  unfold mq_often q_itemsWith
  refine mlp_congr (fun j b _ _ => ?_)
  unfold ofS
  by_cases e : xk (S.1 r) j = key
  · rw [if_pos (side_0.mpr e), if_pos e]; rfl
  · rw [if_neg (fun z => e (side_0.mp z)), if_neg e]; exact Int32.add_zero b)))
theorem eqV_below {S : cS} {row key : Int32} : vEq (sp_below S row key) (mp_below S row key) := dAt_v (by decide) (fun r _ => dFit_v (vEq.of (by
  refine congrArg Value.int ?_
  unfold mq_often q_itemsBelow
  refine mlp_congr (fun j b _ _ => ?_)
  unfold ofS
  by_cases e : xk (S.1 r) j < key
  · rw [if_pos (side_m.mpr e), if_pos e]; rfl
  · rw [if_neg (fun z => e (side_m.mp z)), if_neg e]; exact Int32.add_zero b)))
theorem eqV_same {S : cS} {row other : Int32} : vEq (sp_same S row other) (mp_same S row other) := dAt_v (by decide) (fun r _ => dAt_v (by decide) (fun q _ => vEq.of (by
  by_cases e : (S.1 r).length = (S.1 q).length
  · rw [other_unl e]
  · rw [decide_eq_false e, Bool.false_and, Bool.false_and])))
